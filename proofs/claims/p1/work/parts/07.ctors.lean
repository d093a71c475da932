/-! constructors: the object's fields, and the cells behind -/
def con0 : JK := fun _ => none
/-- the cells B stand in h from n on -/
def At (h : List MC) (n : Nat) (B : List MC) : Prop := ∀ (i : Nat) (c : MC), B[i]? = some c → h[n + i]? = some c
theorem At_nil {h : List MC} {n : Nat} : At h n [] := fun i c q => by simp at q
theorem At_cons {h B : List MC} {n : Nat} {c : MC} (h1 : h[n]? = some c) (h2 : At h (n + 1) B) : At h n (c :: B) := by
  intro i x q
  cases i with
  | zero => cases q; exact h1
  | succ i =>
    have := h2 i x q
    rwa [Nat.add_assoc, Nat.add_comm 1 i] at this
theorem At_app {h A B : List MC} {n m : Nat} (hm : A.length = m) (h1 : At h n A) (h2 : At h (n + m) B) : At h n (A ++ B) := by
  intro i x q
  rcases Nat.lt_or_ge i A.length with hi | hi
  · rw [List.getElem?_append_left hi] at q; exact h1 i x q
  · rw [List.getElem?_append_right hi] at q
    have := h2 _ x q
    rwa [show n + m + (i - A.length) = n + i by omega] at this
theorem At.fr {h h2 B : List MC} {n N a m : Nat} (hb : At h n B) (hm : B.length = m) (hf : ∀ j, j < N → j ≠ a → h2[j]? = h[j]?) (h1 : n + m ≤ N) (h3 : a < n ∨ n + m ≤ a) : At h2 n B := by
  intro i c q
  have hi := (List.getElem?_eq_some_iff.mp q).1
  rw [hf (n + i) (by omega) (by omega)]
  exact hb i c q
theorem r_set {h h2 : List MC} {a N : Nat} {c : MC} (e : h2 = h.set a c) : ∀ j, j < N → j ≠ a → h2[j]? = h[j]? := fun j _ hj => by rw [e, List.getElem?_set_ne (Ne.symm hj)]
theorem r_push {h h2 : List MC} {a N : Nat} {c : MC} (e : h2 = h ++ [c]) (hN : h.length = N) : ∀ j, j < N → j ≠ a → h2[j]? = h[j]? := fun j hj _ => by rw [e, List.getElem?_append_left (by omega)]
theorem bq {n0 a m b : Nat} (h : a + m ≤ b) : n0 + a + m ≤ n0 + b := by omega
theorem hk1 {h w : List MC} {n0 k : Nat} (hn : h.length = n0) (hw : w.length = n0 + k) : k + h.length = w.length := by omega
theorem a_push {h h2 : List MC} {N : Nat} {c : MC} (e : h2 = h ++ [c]) (hN : h.length = N) : h2[N]? = some c := by
  subst hN; rw [e, List.getElem?_append_right (Nat.le_refl _), Nat.sub_self]; rfl
theorem a_set {h h2 : List MC} {a : Nat} {c c0 : MC} (e : h2 = h.set a c) (h0 : h[a]? = some c0) : h2[a]? = some c := by
  rw [e, List.getElem?_set_self (List.getElem?_eq_some_iff.mp h0).1]
theorem l_push {h h2 : List MC} {N m : Nat} {c : MC} (e : h2 = h ++ [c]) (hN : h.length = N) (hm : N + 1 = m) : h2.length = m := by
  rw [e, List.length_append, hN]; exact hm
theorem l_set {h h2 : List MC} {a N : Nat} {c : MC} (e : h2 = h.set a c) (hN : h.length = N) : h2.length = N := by
  rw [e, List.length_set, hN]
theorem ka0 : Cond.arrayClass .byte ∈ gt := gt_in 161 (by decide +kernel) (by decide +kernel)
theorem ka1 : Cond.arrayClass .int ∈ gt := gt_in 162 (by decide +kernel) (by decide +kernel)
theorem ka2 : Cond.arrayClass .long ∈ gt := gt_in 383 (by decide +kernel) (by decide +kernel)
theorem ka3 : Cond.arrayClass .boolean ∈ gt := gt_in 255 (by decide +kernel) (by decide +kernel)
theorem ko4 : Cond.arrayOver (.object "PondStair$Hill") ∈ nt := nt_in 122 (by decide +kernel) (by decide +kernel)
theorem ko5 : Cond.arrayOver (.object "PondStair$Told") ∈ nt := nt_in 219 (by decide +kernel) (by decide +kernel)
theorem ko6 : Cond.arrayOver (.object "PondStair$Works") ∈ nt := nt_in 124 (by decide +kernel) (by decide +kernel)
theorem fsX0 : ∀ (b : Nat) (ca : Nat → Nat) (j : Nat), j < 10 → defaultValue (tyX0 j) = vp_V (([.null, .null, .int 0, .int 0, .long 0, .int 0, .null, .null, .null, .null] : List Value).map (rv b ca)) j := by
  intro b ca j hj
  match j, hj with
  | 0, _ => rfl
  | 1, _ => rfl
  | 2, _ => rfl
  | 3, _ => rfl
  | 4, _ => rfl
  | 5, _ => rfl
  | 6, _ => rfl
  | 7, _ => rfl
  | 8, _ => rfl
  | 9, _ => rfl
  | j + 10, hj => exact absurd hj (by omega)
theorem fsX1 : ∀ (b : Nat) (ca : Nat → Nat) (j : Nat), j < 6 → defaultValue (tyX1 j) = vp_V (([.int 0, .null, .int 0, .null, .null, .null] : List Value).map (rv b ca)) j := by
  intro b ca j hj
  match j, hj with
  | 0, _ => rfl
  | 1, _ => rfl
  | 2, _ => rfl
  | 3, _ => rfl
  | 4, _ => rfl
  | 5, _ => rfl
  | j + 6, hj => exact absurd hj (by omega)
theorem fsX2 : ∀ (b : Nat) (ca : Nat → Nat) (j : Nat), j < 6 → defaultValue (tyX2 j) = vp_V (([.null, .null, .null, .null, .null, .null] : List Value).map (rv b ca)) j := by
  intro b ca j hj
  match j, hj with
  | 0, _ => rfl
  | 1, _ => rfl
  | 2, _ => rfl
  | 3, _ => rfl
  | 4, _ => rfl
  | 5, _ => rfl
  | j + 6, hj => exact absurd hj (by omega)
theorem fsX3 : ∀ (b : Nat) (ca : Nat → Nat) (j : Nat), j < 7 → defaultValue (tyX3 j) = vp_V (([.null, .null, .null, .null, .null, .int 0, .int 0] : List Value).map (rv b ca)) j := by
  intro b ca j hj
  match j, hj with
  | 0, _ => rfl
  | 1, _ => rfl
  | 2, _ => rfl
  | 3, _ => rfl
  | 4, _ => rfl
  | 5, _ => rfl
  | 6, _ => rfl
  | j + 7, hj => exact absurd hj (by omega)
theorem fsX4 : ∀ (b : Nat) (ca : Nat → Nat) (j : Nat), j < 4 → defaultValue (tyX4 j) = vp_V (([.null, .int 0, .int 0, .int 0] : List Value).map (rv b ca)) j := by
  intro b ca j hj
  match j, hj with
  | 0, _ => rfl
  | 1, _ => rfl
  | 2, _ => rfl
  | 3, _ => rfl
  | j + 4, hj => exact absurd hj (by omega)
theorem fsX5 : ∀ (b : Nat) (ca : Nat → Nat) (j : Nat), j < 7 → defaultValue (tyX5 j) = vp_V (([.int 0, .int 0, .int 0, .int 0, .int 0, .null, .null] : List Value).map (rv b ca)) j := by
  intro b ca j hj
  match j, hj with
  | 0, _ => rfl
  | 1, _ => rfl
  | 2, _ => rfl
  | 3, _ => rfl
  | 4, _ => rfl
  | 5, _ => rfl
  | 6, _ => rfl
  | j + 7, hj => exact absurd hj (by omega)
theorem fsX6 : ∀ (b : Nat) (ca : Nat → Nat) (j : Nat), j < 6 → defaultValue (tyX6 j) = vp_V (([.null, .int 0, .int 0, .int 0, .int 0, .int 0] : List Value).map (rv b ca)) j := by
  intro b ca j hj
  match j, hj with
  | 0, _ => rfl
  | 1, _ => rfl
  | 2, _ => rfl
  | 3, _ => rfl
  | 4, _ => rfl
  | 5, _ => rfl
  | j + 6, hj => exact absurd hj (by omega)
theorem fsX7 : ∀ (b : Nat) (ca : Nat → Nat) (j : Nat), j < 8 → defaultValue (tyX7 j) = vp_V (([.null, .int 0, .int 0, .int 0, .null, .int 0, .null, .int 0] : List Value).map (rv b ca)) j := by
  intro b ca j hj
  match j, hj with
  | 0, _ => rfl
  | 1, _ => rfl
  | 2, _ => rfl
  | 3, _ => rfl
  | 4, _ => rfl
  | 5, _ => rfl
  | 6, _ => rfl
  | 7, _ => rfl
  | j + 8, hj => exact absurd hj (by omega)
theorem fsX8 : ∀ (b : Nat) (ca : Nat → Nat) (j : Nat), j < 4 → defaultValue (tyX8 j) = vp_V (([.int 0, .null, .null, .null] : List Value).map (rv b ca)) j := by
  intro b ca j hj
  match j, hj with
  | 0, _ => rfl
  | 1, _ => rfl
  | 2, _ => rfl
  | 3, _ => rfl
  | j + 4, hj => exact absurd hj (by omega)
theorem fsX9 : ∀ (b : Nat) (ca : Nat → Nat) (j : Nat), j < 1 → defaultValue (tyX9 j) = vp_V (([.int 0] : List Value).map (rv b ca)) j := by
  intro b ca j hj
  match j, hj with
  | 0, _ => rfl
  | j + 1, hj => exact absurd hj (by omega)
theorem fsX10 : ∀ (b : Nat) (ca : Nat → Nat) (j : Nat), j < 10 → defaultValue (tyX10 j) = vp_V (([.null, .null, .null, .null, .null, .null, .null, .null, .null, .null] : List Value).map (rv b ca)) j := by
  intro b ca j hj
  match j, hj with
  | 0, _ => rfl
  | 1, _ => rfl
  | 2, _ => rfl
  | 3, _ => rfl
  | 4, _ => rfl
  | 5, _ => rfl
  | 6, _ => rfl
  | 7, _ => rfl
  | 8, _ => rfl
  | 9, _ => rfl
  | j + 10, hj => exact absurd hj (by omega)
theorem fsX11 : ∀ (b : Nat) (ca : Nat → Nat) (j : Nat), j < 43 → defaultValue (tyX11 j) = vp_V (([.int 0, .null, .null, .null, .null, .null, .null, .null, .int 0, .int 0, .int 0, .int 0, .int 0, .long 0, .int 0, .int 0, .int 0, .int 0, .int 0, .null, .null, .null, .int 0, .int 0, .int 0, .int 0, .int 0, .int 0, .null, .null, .null, .int 0, .int 0, .int 0, .null, .null, .null, .null, .null, .int 0, .long 0, .int 0, .null] : List Value).map (rv b ca)) j := by
  intro b ca j hj
  match j, hj with
  | 0, _ => rfl
  | 1, _ => rfl
  | 2, _ => rfl
  | 3, _ => rfl
  | 4, _ => rfl
  | 5, _ => rfl
  | 6, _ => rfl
  | 7, _ => rfl
  | 8, _ => rfl
  | 9, _ => rfl
  | 10, _ => rfl
  | 11, _ => rfl
  | 12, _ => rfl
  | 13, _ => rfl
  | 14, _ => rfl
  | 15, _ => rfl
  | 16, _ => rfl
  | 17, _ => rfl
  | 18, _ => rfl
  | 19, _ => rfl
  | 20, _ => rfl
  | 21, _ => rfl
  | 22, _ => rfl
  | 23, _ => rfl
  | 24, _ => rfl
  | 25, _ => rfl
  | 26, _ => rfl
  | 27, _ => rfl
  | 28, _ => rfl
  | 29, _ => rfl
  | 30, _ => rfl
  | 31, _ => rfl
  | 32, _ => rfl
  | 33, _ => rfl
  | 34, _ => rfl
  | 35, _ => rfl
  | 36, _ => rfl
  | 37, _ => rfl
  | 38, _ => rfl
  | 39, _ => rfl
  | 40, _ => rfl
  | 41, _ => rfl
  | 42, _ => rfl
  | j + 43, hj => exact absurd hj (by omega)
theorem k129 : Cond.methodLink RX1 3 objectInit ∈ gt := gt_in 129 (by decide +kernel) (by decide +kernel)
theorem k113 : Cond.instanceMethod objectInit ∈ gt := gt_in 113 (by decide +kernel) (by decide +kernel)
theorem k114 : Cond.code objectInit ⟨#[0xb1]⟩ 1 none ∈ gt := gt_in 114 (by decide +kernel) (by decide +kernel)
theorem k130 : Cond.fieldLink RX1 9 "PondStair$Hill" "ponds" "I" ∈ gt := gt_in 130 (by decide +kernel) (by decide +kernel)
theorem k137 : Cond.fieldLink RX1 15 "PondStair$Hill" "row" "[I" ∈ gt := gt_in 137 (by decide +kernel) (by decide +kernel)
theorem k138 : Cond.fieldLink RX1 19 "PondStair$Hill" "rains" "I" ∈ gt := gt_in 138 (by decide +kernel) (by decide +kernel)
theorem k143 : Cond.fieldLink RX1 22 "PondStair$Hill" "rainSteps" "[I" ∈ gt := gt_in 143 (by decide +kernel) (by decide +kernel)
theorem k144 : Cond.fieldLink RX1 25 "PondStair$Hill" "rainChance" "[I" ∈ gt := gt_in 144 (by decide +kernel) (by decide +kernel)
theorem k145 : Cond.fieldLink RX1 28 "PondStair$Hill" "days" "[I" ∈ gt := gt_in 145 (by decide +kernel) (by decide +kernel)
theorem k167 : Cond.methodLink RX8 3 objectInit ∈ gt := gt_in 167 (by decide +kernel) (by decide +kernel)
theorem k168 : Cond.fieldLink RX8 9 "PondStair$Works" "works" "I" ∈ gt := gt_in 168 (by decide +kernel) (by decide +kernel)
theorem k171 : Cond.fieldLink RX8 15 "PondStair$Works" "kind" "[I" ∈ gt := gt_in 171 (by decide +kernel) (by decide +kernel)
theorem k173 : Cond.fieldLink RX8 19 "PondStair$Works" "where" "[I" ∈ gt := gt_in 173 (by decide +kernel) (by decide +kernel)
theorem k175 : Cond.fieldLink RX8 22 "PondStair$Works" "much" "[I" ∈ gt := gt_in 175 (by decide +kernel) (by decide +kernel)
theorem k318 : Cond.methodLink RX5 3 objectInit ∈ gt := gt_in 318 (by decide +kernel) (by decide +kernel)
theorem k319 : Cond.fieldLink RX5 9 "PondStair$Storm" "ponds" "I" ∈ gt := gt_in 319 (by decide +kernel) (by decide +kernel)
theorem k320 : Cond.fieldLink RX5 15 "PondStair$Storm" "went" "I" ∈ gt := gt_in 320 (by decide +kernel) (by decide +kernel)
theorem k324 : Cond.fieldLink RX5 18 "PondStair$Storm" "harm" "I" ∈ gt := gt_in 324 (by decide +kernel) (by decide +kernel)
theorem k326 : Cond.fieldLink RX5 21 "PondStair$Storm" "heard" "I" ∈ gt := gt_in 326 (by decide +kernel) (by decide +kernel)
theorem k327 : Cond.fieldLink RX5 24 "PondStair$Storm" "brook" "I" ∈ gt := gt_in 327 (by decide +kernel) (by decide +kernel)
theorem k329 : Cond.fieldLink RX5 27 "PondStair$Storm" "water" "[I" ∈ gt := gt_in 329 (by decide +kernel) (by decide +kernel)
theorem k330 : Cond.fieldLink RX5 31 "PondStair$Storm" "left" "[I" ∈ gt := gt_in 330 (by decide +kernel) (by decide +kernel)
theorem k231 : Cond.methodLink RX6 1 objectInit ∈ gt := gt_in 231 (by decide +kernel) (by decide +kernel)
theorem k232 : Cond.fieldLink RX6 7 "PondStair$Tokens" "tape" "[B" ∈ gt := gt_in 232 (by decide +kernel) (by decide +kernel)
theorem k233 : Cond.fieldLink RX6 13 "PondStair$Tokens" "length" "I" ∈ gt := gt_in 233 (by decide +kernel) (by decide +kernel)
theorem k235 : Cond.fieldLink RX6 17 "PondStair$Tokens" "next" "I" ∈ gt := gt_in 235 (by decide +kernel) (by decide +kernel)
theorem k236 : Cond.fieldLink RX6 20 "PondStair$Tokens" "kind" "I" ∈ gt := gt_in 236 (by decide +kernel) (by decide +kernel)
theorem k238 : Cond.fieldLink RX6 23 "PondStair$Tokens" "start" "I" ∈ gt := gt_in 238 (by decide +kernel) (by decide +kernel)
theorem k240 : Cond.fieldLink RX6 26 "PondStair$Tokens" "value" "I" ∈ gt := gt_in 240 (by decide +kernel) (by decide +kernel)
theorem k120 : Cond.methodLink RX7 3 objectInit ∈ gt := gt_in 120 (by decide +kernel) (by decide +kernel)
theorem k186 : Cond.fieldLink RX7 9 "PondStair$Told" "tape" "[B" ∈ gt := gt_in 186 (by decide +kernel) (by decide +kernel)
theorem k188 : Cond.fieldLink RX7 15 "PondStair$Told" "length" "I" ∈ gt := gt_in 188 (by decide +kernel) (by decide +kernel)
theorem k190 : Cond.fieldLink RX7 19 "PondStair$Told" "fault" "I" ∈ gt := gt_in 190 (by decide +kernel) (by decide +kernel)
theorem k192 : Cond.fieldLink RX7 22 "PondStair$Told" "place" "I" ∈ gt := gt_in 192 (by decide +kernel) (by decide +kernel)
theorem k121 : Cond.classLink RX7 25 RX1 ∈ gt := gt_in 121 (by decide +kernel) (by decide +kernel)
theorem k194 : Cond.fieldLink RX7 27 "PondStair$Told" "hill" "[LPondStair$Hill;" ∈ gt := gt_in 194 (by decide +kernel) (by decide +kernel)
theorem k196 : Cond.fieldLink RX7 31 "PondStair$Told" "hills" "I" ∈ gt := gt_in 196 (by decide +kernel) (by decide +kernel)
theorem k123 : Cond.classLink RX7 34 RX8 ∈ gt := gt_in 123 (by decide +kernel) (by decide +kernel)
theorem k198 : Cond.fieldLink RX7 36 "PondStair$Told" "works" "[LPondStair$Works;" ∈ gt := gt_in 198 (by decide +kernel) (by decide +kernel)
theorem k200 : Cond.fieldLink RX7 40 "PondStair$Told" "plans" "I" ∈ gt := gt_in 200 (by decide +kernel) (by decide +kernel)
theorem k125 : Cond.instantiable RX1 6 ∈ gt := gt_in 125 (by decide +kernel) (by decide +kernel)
theorem k89 : Cond.initialized RX1 ∈ gt := gt_in 89 (by decide +kernel) (by decide +kernel)
theorem k126 : Cond.methodLinkNest RX7 43 yX1_init "PondStair" ∈ nt := nt_in 126 (by decide +kernel) (by decide +kernel)
theorem k127 : Cond.instanceMethod yX1_init ∈ gt := gt_in 127 (by decide +kernel) (by decide +kernel)
theorem k128 : Cond.code yX1_init cX1_init 1 none ∈ gt := gt_in 128 (by decide +kernel) (by decide +kernel)
theorem np_X1_init : yX1_init.cls ≠ "java/lang/invoke/MethodHandle" ∧ yX1_init.cls ≠ "java/lang/invoke/VarHandle" ∧ (parseMethodDescriptor yX1_init.desc).map (fun d => d.parameters.length) = some 0 := by decide +kernel
theorem k163 : Cond.instantiable RX8 4 ∈ gt := gt_in 163 (by decide +kernel) (by decide +kernel)
theorem k90 : Cond.initialized RX8 ∈ gt := gt_in 90 (by decide +kernel) (by decide +kernel)
theorem k164 : Cond.methodLinkNest RX7 44 yX8_init "PondStair" ∈ nt := nt_in 164 (by decide +kernel) (by decide +kernel)
theorem k165 : Cond.instanceMethod yX8_init ∈ gt := gt_in 165 (by decide +kernel) (by decide +kernel)
theorem k166 : Cond.code yX8_init cX8_init 1 none ∈ gt := gt_in 166 (by decide +kernel) (by decide +kernel)
theorem np_X8_init : yX8_init.cls ≠ "java/lang/invoke/MethodHandle" ∧ yX8_init.cls ≠ "java/lang/invoke/VarHandle" ∧ (parseMethodDescriptor yX8_init.desc).map (fun d => d.parameters.length) = some 0 := by decide +kernel
theorem k225 : Cond.methodLink RX3 3 objectInit ∈ gt := gt_in 225 (by decide +kernel) (by decide +kernel)
theorem k226 : Cond.classLink RX3 9 RX6 ∈ gt := gt_in 226 (by decide +kernel) (by decide +kernel)
theorem k227 : Cond.instantiable RX6 6 ∈ gt := gt_in 227 (by decide +kernel) (by decide +kernel)
theorem k92 : Cond.initialized RX6 ∈ gt := gt_in 92 (by decide +kernel) (by decide +kernel)
theorem k228 : Cond.methodLinkNest RX3 11 yX6_init "PondStair" ∈ nt := nt_in 228 (by decide +kernel) (by decide +kernel)
theorem k229 : Cond.instanceMethod yX6_init ∈ gt := gt_in 229 (by decide +kernel) (by decide +kernel)
theorem k230 : Cond.code yX6_init cX6_init 1 none ∈ gt := gt_in 230 (by decide +kernel) (by decide +kernel)
theorem np_X6_init : yX6_init.cls ≠ "java/lang/invoke/MethodHandle" ∧ yX6_init.cls ≠ "java/lang/invoke/VarHandle" ∧ (parseMethodDescriptor yX6_init.desc).map (fun d => d.parameters.length) = some 0 := by decide +kernel
theorem k260 : Cond.fieldLink RX3 12 "PondStair$Reader" "tokens" "LPondStair$Tokens;" ∈ gt := gt_in 260 (by decide +kernel) (by decide +kernel)
theorem k256 : Cond.classLink RX3 18 RX1 ∈ gt := gt_in 256 (by decide +kernel) (by decide +kernel)
theorem k257 : Cond.methodLinkNest RX3 20 yX1_init "PondStair" ∈ nt := nt_in 257 (by decide +kernel) (by decide +kernel)
theorem k261 : Cond.fieldLink RX3 21 "PondStair$Reader" "hill" "LPondStair$Hill;" ∈ gt := gt_in 261 (by decide +kernel) (by decide +kernel)
theorem k258 : Cond.classLink RX3 25 RX8 ∈ gt := gt_in 258 (by decide +kernel) (by decide +kernel)
theorem k259 : Cond.methodLinkNest RX3 27 yX8_init "PondStair" ∈ nt := nt_in 259 (by decide +kernel) (by decide +kernel)
theorem k263 : Cond.fieldLink RX3 28 "PondStair$Reader" "works" "LPondStair$Works;" ∈ gt := gt_in 263 (by decide +kernel) (by decide +kernel)
theorem k265 : Cond.fieldLink RX3 32 "PondStair$Reader" "numbers" "[I" ∈ gt := gt_in 265 (by decide +kernel) (by decide +kernel)
theorem k266 : Cond.fieldLink RX3 36 "PondStair$Reader" "places" "[I" ∈ gt := gt_in 266 (by decide +kernel) (by decide +kernel)
theorem k267 : Cond.fieldLink RX3 39 "PondStair$Reader" "fault" "I" ∈ gt := gt_in 267 (by decide +kernel) (by decide +kernel)
theorem k269 : Cond.fieldLink RX3 43 "PondStair$Reader" "place" "I" ∈ gt := gt_in 269 (by decide +kernel) (by decide +kernel)
theorem k291 : Cond.methodLink RX4 3 objectInit ∈ gt := gt_in 291 (by decide +kernel) (by decide +kernel)
theorem k292 : Cond.classLink RX4 9 RX1 ∈ gt := gt_in 292 (by decide +kernel) (by decide +kernel)
theorem k293 : Cond.methodLinkNest RX4 11 yX1_init "PondStair" ∈ nt := nt_in 293 (by decide +kernel) (by decide +kernel)
theorem k294 : Cond.fieldLink RX4 12 "PondStair$Site" "ground" "LPondStair$Hill;" ∈ gt := gt_in 294 (by decide +kernel) (by decide +kernel)
theorem k296 : Cond.fieldLink RX4 18 "PondStair$Site" "stop" "I" ∈ gt := gt_in 296 (by decide +kernel) (by decide +kernel)
theorem k298 : Cond.fieldLink RX4 22 "PondStair$Site" "days" "I" ∈ gt := gt_in 298 (by decide +kernel) (by decide +kernel)
theorem k300 : Cond.fieldLink RX4 25 "PondStair$Site" "lost" "I" ∈ gt := gt_in 300 (by decide +kernel) (by decide +kernel)
theorem k357 : Cond.methodLink RX2 3 objectInit ∈ gt := gt_in 357 (by decide +kernel) (by decide +kernel)
theorem k358 : Cond.classLink RX2 9 RX5 ∈ gt := gt_in 358 (by decide +kernel) (by decide +kernel)
theorem k314 : Cond.instantiable RX5 7 ∈ gt := gt_in 314 (by decide +kernel) (by decide +kernel)
theorem k94 : Cond.initialized RX5 ∈ gt := gt_in 94 (by decide +kernel) (by decide +kernel)
theorem k359 : Cond.methodLinkNest RX2 11 yX5_init "PondStair" ∈ nt := nt_in 359 (by decide +kernel) (by decide +kernel)
theorem k316 : Cond.instanceMethod yX5_init ∈ gt := gt_in 316 (by decide +kernel) (by decide +kernel)
theorem k317 : Cond.code yX5_init cX5_init 1 none ∈ gt := gt_in 317 (by decide +kernel) (by decide +kernel)
theorem np_X5_init : yX5_init.cls ≠ "java/lang/invoke/MethodHandle" ∧ yX5_init.cls ≠ "java/lang/invoke/VarHandle" ∧ (parseMethodDescriptor yX5_init.desc).map (fun d => d.parameters.length) = some 0 := by decide +kernel
theorem k362 : Cond.fieldLink RX2 12 "PondStair$Odds" "flow" "LPondStair$Storm;" ∈ gt := gt_in 362 (by decide +kernel) (by decide +kernel)
theorem k360 : Cond.classLink RX2 18 RX1 ∈ gt := gt_in 360 (by decide +kernel) (by decide +kernel)
theorem k361 : Cond.methodLinkNest RX2 20 yX1_init "PondStair" ∈ nt := nt_in 361 (by decide +kernel) (by decide +kernel)
theorem k363 : Cond.fieldLink RX2 21 "PondStair$Odds" "hill" "LPondStair$Hill;" ∈ gt := gt_in 363 (by decide +kernel) (by decide +kernel)
theorem k365 : Cond.fieldLink RX2 25 "PondStair$Odds" "went" "[I" ∈ gt := gt_in 365 (by decide +kernel) (by decide +kernel)
theorem k366 : Cond.fieldLink RX2 29 "PondStair$Odds" "harm" "[I" ∈ gt := gt_in 366 (by decide +kernel) (by decide +kernel)
theorem k367 : Cond.fieldLink RX2 32 "PondStair$Odds" "weight" "[J" ∈ gt := gt_in 367 (by decide +kernel) (by decide +kernel)
theorem k368 : Cond.fieldLink RX2 36 "PondStair$Odds" "together" "[J" ∈ gt := gt_in 368 (by decide +kernel) (by decide +kernel)
theorem k351 : Cond.methodLink RX0 3 objectInit ∈ gt := gt_in 351 (by decide +kernel) (by decide +kernel)
theorem k352 : Cond.classLink RX0 9 RX2 ∈ gt := gt_in 352 (by decide +kernel) (by decide +kernel)
theorem k353 : Cond.instantiable RX2 6 ∈ gt := gt_in 353 (by decide +kernel) (by decide +kernel)
theorem k96 : Cond.initialized RX2 ∈ gt := gt_in 96 (by decide +kernel) (by decide +kernel)
theorem k354 : Cond.methodLinkNest RX0 11 yX2_init "PondStair" ∈ nt := nt_in 354 (by decide +kernel) (by decide +kernel)
theorem k355 : Cond.instanceMethod yX2_init ∈ gt := gt_in 355 (by decide +kernel) (by decide +kernel)
theorem k356 : Cond.code yX2_init cX2_init 1 none ∈ gt := gt_in 356 (by decide +kernel) (by decide +kernel)
theorem np_X2_init : yX2_init.cls ≠ "java/lang/invoke/MethodHandle" ∧ yX2_init.cls ≠ "java/lang/invoke/VarHandle" ∧ (parseMethodDescriptor yX2_init.desc).map (fun d => d.parameters.length) = some 0 := by decide +kernel
theorem k386 : Cond.fieldLink RX0 12 "PondStair$Choice" "odds" "LPondStair$Odds;" ∈ gt := gt_in 386 (by decide +kernel) (by decide +kernel)
theorem k384 : Cond.classLink RX0 18 RX1 ∈ gt := gt_in 384 (by decide +kernel) (by decide +kernel)
theorem k385 : Cond.methodLinkNest RX0 20 yX1_init "PondStair" ∈ nt := nt_in 385 (by decide +kernel) (by decide +kernel)
theorem k388 : Cond.fieldLink RX0 21 "PondStair$Choice" "trial" "LPondStair$Hill;" ∈ gt := gt_in 388 (by decide +kernel) (by decide +kernel)
theorem k389 : Cond.fieldLink RX0 25 "PondStair$Choice" "first" "I" ∈ gt := gt_in 389 (by decide +kernel) (by decide +kernel)
theorem k391 : Cond.fieldLink RX0 29 "PondStair$Choice" "second" "I" ∈ gt := gt_in 391 (by decide +kernel) (by decide +kernel)
theorem k393 : Cond.fieldLink RX0 32 "PondStair$Choice" "least" "J" ∈ gt := gt_in 393 (by decide +kernel) (by decide +kernel)
theorem k395 : Cond.fieldLink RX0 36 "PondStair$Choice" "filling" "I" ∈ gt := gt_in 395 (by decide +kernel) (by decide +kernel)
theorem k396 : Cond.fieldLink RX0 39 "PondStair$Choice" "toFill" "[I" ∈ gt := gt_in 396 (by decide +kernel) (by decide +kernel)
theorem k397 : Cond.fieldLink RX0 43 "PondStair$Choice" "order" "[I" ∈ gt := gt_in 397 (by decide +kernel) (by decide +kernel)
theorem k398 : Cond.fieldLink RX0 46 "PondStair$Choice" "tried" "[I" ∈ gt := gt_in 398 (by decide +kernel) (by decide +kernel)
theorem k399 : Cond.fieldLink RX0 49 "PondStair$Choice" "filledMean" "[J" ∈ gt := gt_in 399 (by decide +kernel) (by decide +kernel)
theorem k112 : Cond.methodLink RX10 1 objectInit ∈ gt := gt_in 112 (by decide +kernel) (by decide +kernel)
theorem k115 : Cond.classLink RX10 7 RX7 ∈ gt := gt_in 115 (by decide +kernel) (by decide +kernel)
theorem k116 : Cond.instantiable RX7 8 ∈ gt := gt_in 116 (by decide +kernel) (by decide +kernel)
theorem k88 : Cond.initialized RX7 ∈ gt := gt_in 88 (by decide +kernel) (by decide +kernel)
theorem k117 : Cond.methodLink RX10 9 yX7_init ∈ gt := gt_in 117 (by decide +kernel) (by decide +kernel)
theorem k118 : Cond.instanceMethod yX7_init ∈ gt := gt_in 118 (by decide +kernel) (by decide +kernel)
theorem k119 : Cond.code yX7_init cX7_init 2 none ∈ gt := gt_in 119 (by decide +kernel) (by decide +kernel)
theorem np_X7_init : yX7_init.cls ≠ "java/lang/invoke/MethodHandle" ∧ yX7_init.cls ≠ "java/lang/invoke/VarHandle" ∧ (parseMethodDescriptor yX7_init.desc).map (fun d => d.parameters.length) = some 0 := by decide +kernel
theorem k423 : Cond.fieldLink RX10 10 "PondStair" "told" "LPondStair$Told;" ∈ gt := gt_in 423 (by decide +kernel) (by decide +kernel)
theorem k424 : Cond.fieldLink RX10 16 "PondStair" "images" "[LPondStair$Told;" ∈ gt := gt_in 424 (by decide +kernel) (by decide +kernel)
theorem k425 : Cond.fieldLink RX10 20 "PondStair" "taken" "[Z" ∈ gt := gt_in 425 (by decide +kernel) (by decide +kernel)
theorem k220 : Cond.classLink RX10 24 RX3 ∈ gt := gt_in 220 (by decide +kernel) (by decide +kernel)
theorem k221 : Cond.instantiable RX3 7 ∈ gt := gt_in 221 (by decide +kernel) (by decide +kernel)
theorem k91 : Cond.initialized RX3 ∈ gt := gt_in 91 (by decide +kernel) (by decide +kernel)
theorem k222 : Cond.methodLinkNest RX10 26 yX3_init "PondStair" ∈ nt := nt_in 222 (by decide +kernel) (by decide +kernel)
theorem k223 : Cond.instanceMethod yX3_init ∈ gt := gt_in 223 (by decide +kernel) (by decide +kernel)
theorem k224 : Cond.code yX3_init cX3_init 1 none ∈ gt := gt_in 224 (by decide +kernel) (by decide +kernel)
theorem np_X3_init : yX3_init.cls ≠ "java/lang/invoke/MethodHandle" ∧ yX3_init.cls ≠ "java/lang/invoke/VarHandle" ∧ (parseMethodDescriptor yX3_init.desc).map (fun d => d.parameters.length) = some 0 := by decide +kernel
theorem k426 : Cond.fieldLink RX10 27 "PondStair" "reader" "LPondStair$Reader;" ∈ gt := gt_in 426 (by decide +kernel) (by decide +kernel)
theorem k286 : Cond.classLink RX10 31 RX4 ∈ gt := gt_in 286 (by decide +kernel) (by decide +kernel)
theorem k287 : Cond.instantiable RX4 4 ∈ gt := gt_in 287 (by decide +kernel) (by decide +kernel)
theorem k93 : Cond.initialized RX4 ∈ gt := gt_in 93 (by decide +kernel) (by decide +kernel)
theorem k288 : Cond.methodLinkNest RX10 33 yX4_init "PondStair" ∈ nt := nt_in 288 (by decide +kernel) (by decide +kernel)
theorem k289 : Cond.instanceMethod yX4_init ∈ gt := gt_in 289 (by decide +kernel) (by decide +kernel)
theorem k290 : Cond.code yX4_init cX4_init 1 none ∈ gt := gt_in 290 (by decide +kernel) (by decide +kernel)
theorem np_X4_init : yX4_init.cls ≠ "java/lang/invoke/MethodHandle" ∧ yX4_init.cls ≠ "java/lang/invoke/VarHandle" ∧ (parseMethodDescriptor yX4_init.desc).map (fun d => d.parameters.length) = some 0 := by decide +kernel
theorem k427 : Cond.fieldLink RX10 34 "PondStair" "site" "LPondStair$Site;" ∈ gt := gt_in 427 (by decide +kernel) (by decide +kernel)
theorem k311 : Cond.classLink RX10 38 RX8 ∈ gt := gt_in 311 (by decide +kernel) (by decide +kernel)
theorem k312 : Cond.methodLinkNest RX10 40 yX8_init "PondStair" ∈ nt := nt_in 312 (by decide +kernel) (by decide +kernel)
theorem k428 : Cond.fieldLink RX10 41 "PondStair" "nothing" "LPondStair$Works;" ∈ gt := gt_in 428 (by decide +kernel) (by decide +kernel)
theorem k313 : Cond.classLink RX10 45 RX5 ∈ gt := gt_in 313 (by decide +kernel) (by decide +kernel)
theorem k315 : Cond.methodLinkNest RX10 47 yX5_init "PondStair" ∈ nt := nt_in 315 (by decide +kernel) (by decide +kernel)
theorem k429 : Cond.fieldLink RX10 48 "PondStair" "flow" "LPondStair$Storm;" ∈ gt := gt_in 429 (by decide +kernel) (by decide +kernel)
theorem k346 : Cond.classLink RX10 52 RX0 ∈ gt := gt_in 346 (by decide +kernel) (by decide +kernel)
theorem k347 : Cond.instantiable RX0 10 ∈ gt := gt_in 347 (by decide +kernel) (by decide +kernel)
theorem k95 : Cond.initialized RX0 ∈ gt := gt_in 95 (by decide +kernel) (by decide +kernel)
theorem k348 : Cond.methodLinkNest RX10 54 yX0_init "PondStair" ∈ nt := nt_in 348 (by decide +kernel) (by decide +kernel)
theorem k349 : Cond.instanceMethod yX0_init ∈ gt := gt_in 349 (by decide +kernel) (by decide +kernel)
theorem k350 : Cond.code yX0_init cX0_init 1 none ∈ gt := gt_in 350 (by decide +kernel) (by decide +kernel)
theorem np_X0_init : yX0_init.cls ≠ "java/lang/invoke/MethodHandle" ∧ yX0_init.cls ≠ "java/lang/invoke/VarHandle" ∧ (parseMethodDescriptor yX0_init.desc).map (fun d => d.parameters.length) = some 0 := by decide +kernel
theorem k430 : Cond.fieldLink RX10 55 "PondStair" "choice" "LPondStair$Choice;" ∈ gt := gt_in 430 (by decide +kernel) (by decide +kernel)
theorem k387 : Cond.fieldLinkNest RX10 59 "PondStair$Choice" "odds" "LPondStair$Odds;" "PondStair" ∈ nt := nt_in 387 (by decide +kernel) (by decide +kernel)
theorem k431 : Cond.fieldLink RX10 63 "PondStair" "odds" "LPondStair$Odds;" ∈ gt := gt_in 431 (by decide +kernel) (by decide +kernel)
theorem k421 : Cond.classLink RX10 64 RX1 ∈ gt := gt_in 421 (by decide +kernel) (by decide +kernel)
theorem k422 : Cond.methodLinkNest RX10 66 yX1_init "PondStair" ∈ nt := nt_in 422 (by decide +kernel) (by decide +kernel)
theorem k432 : Cond.fieldLink RX10 67 "PondStair" "trial" "LPondStair$Hill;" ∈ gt := gt_in 432 (by decide +kernel) (by decide +kernel)
theorem k1263 : Cond.methodLink RX11 1 objectInit ∈ gt := gt_in 1263 (by decide +kernel) (by decide +kernel)
theorem k1265 : Cond.fieldLink RX11 7 "PondStairModel" "tape" "[B" ∈ gt := gt_in 1265 (by decide +kernel) (by decide +kernel)
theorem k1266 : Cond.fieldLink RX11 13 "PondStairModel" "size" "[I" ∈ gt := gt_in 1266 (by decide +kernel) (by decide +kernel)
theorem k1267 : Cond.fieldLink RX11 17 "PondStairModel" "fault" "[I" ∈ gt := gt_in 1267 (by decide +kernel) (by decide +kernel)
theorem k1268 : Cond.fieldLink RX11 20 "PondStairModel" "faultPlace" "[I" ∈ gt := gt_in 1268 (by decide +kernel) (by decide +kernel)
theorem k1269 : Cond.fieldLink RX11 23 "PondStairModel" "many" "[I" ∈ gt := gt_in 1269 (by decide +kernel) (by decide +kernel)
theorem k1270 : Cond.fieldLink RX11 26 "PondStairModel" "hills" "[I" ∈ gt := gt_in 1270 (by decide +kernel) (by decide +kernel)
theorem k1271 : Cond.fieldLink RX11 29 "PondStairModel" "plans" "[I" ∈ gt := gt_in 1271 (by decide +kernel) (by decide +kernel)
theorem k1283 : Cond.fieldLink RX11 32 "PondStairModel" "row" "[I" ∈ gt := gt_in 1283 (by decide +kernel) (by decide +kernel)
theorem k1284 : Cond.fieldLink RX11 35 "PondStairModel" "got" "[I" ∈ gt := gt_in 1284 (by decide +kernel) (by decide +kernel)
theorem k1285 : Cond.fieldLink RX11 38 "PondStairModel" "now" "[I" ∈ gt := gt_in 1285 (by decide +kernel) (by decide +kernel)
theorem k1292 : Cond.fieldLink RX11 41 "PondStairModel" "water" "[I" ∈ gt := gt_in 1292 (by decide +kernel) (by decide +kernel)
theorem k1293 : Cond.fieldLink RX11 44 "PondStairModel" "comes" "[I" ∈ gt := gt_in 1293 (by decide +kernel) (by decide +kernel)
theorem k1294 : Cond.fieldLink RX11 47 "PondStairModel" "left" "[I" ∈ gt := gt_in 1294 (by decide +kernel) (by decide +kernel)
theorem k1298 : Cond.fieldLink RX11 50 "PondStairModel" "partsOfSet" "[J" ∈ gt := gt_in 1298 (by decide +kernel) (by decide +kernel)
theorem k1299 : Cond.fieldLink RX11 54 "PondStairModel" "chance" "[I" ∈ gt := gt_in 1299 (by decide +kernel) (by decide +kernel)
theorem k1300 : Cond.fieldLink RX11 57 "PondStairModel" "level" "[I" ∈ gt := gt_in 1300 (by decide +kernel) (by decide +kernel)
theorem k1301 : Cond.fieldLink RX11 60 "PondStairModel" "row4" "[I" ∈ gt := gt_in 1301 (by decide +kernel) (by decide +kernel)
theorem k1302 : Cond.fieldLink RX11 63 "PondStairModel" "best4" "[I" ∈ gt := gt_in 1302 (by decide +kernel) (by decide +kernel)
theorem k1306 : Cond.fieldLink RX11 66 "PondStairModel" "stored" "[Z" ∈ gt := gt_in 1306 (by decide +kernel) (by decide +kernel)
theorem dX1_init_0 : decode cX1_init 0 = .ok (.aload_n 0, 1) := by decide +kernel
theorem dX1_init_1 : decode cX1_init 1 = .ok (.invokespecial 3, 3) := by decide +kernel
theorem dX1_init_4 : decode cX1_init 4 = .ok (.aload_n 0, 1) := by decide +kernel
theorem dX1_init_5 : decode cX1_init 5 = .ok (.iconst 0, 1) := by decide +kernel
theorem dX1_init_6 : decode cX1_init 6 = .ok (.putfield 9, 3) := by decide +kernel
theorem dX1_init_9 : decode cX1_init 9 = .ok (.aload_n 0, 1) := by decide +kernel
theorem dX1_init_10 : decode cX1_init 10 = .ok (.sipush 144, 3) := by decide +kernel
theorem dX1_init_13 : decode cX1_init 13 = .ok (.newarray .int, 2) := by decide +kernel
theorem dX1_init_15 : decode cX1_init 15 = .ok (.putfield 15, 3) := by decide +kernel
theorem dX1_init_18 : decode cX1_init 18 = .ok (.aload_n 0, 1) := by decide +kernel
theorem dX1_init_19 : decode cX1_init 19 = .ok (.iconst 0, 1) := by decide +kernel
theorem dX1_init_20 : decode cX1_init 20 = .ok (.putfield 19, 3) := by decide +kernel
theorem dX1_init_23 : decode cX1_init 23 = .ok (.aload_n 0, 1) := by decide +kernel
theorem dX1_init_24 : decode cX1_init 24 = .ok (.iconst 4, 1) := by decide +kernel
theorem dX1_init_25 : decode cX1_init 25 = .ok (.newarray .int, 2) := by decide +kernel
theorem dX1_init_27 : decode cX1_init 27 = .ok (.putfield 22, 3) := by decide +kernel
theorem dX1_init_30 : decode cX1_init 30 = .ok (.aload_n 0, 1) := by decide +kernel
theorem dX1_init_31 : decode cX1_init 31 = .ok (.iconst 4, 1) := by decide +kernel
theorem dX1_init_32 : decode cX1_init 32 = .ok (.newarray .int, 2) := by decide +kernel
theorem dX1_init_34 : decode cX1_init 34 = .ok (.putfield 25, 3) := by decide +kernel
theorem dX1_init_37 : decode cX1_init 37 = .ok (.aload_n 0, 1) := by decide +kernel
theorem dX1_init_38 : decode cX1_init 38 = .ok (.iconst 3, 1) := by decide +kernel
theorem dX1_init_39 : decode cX1_init 39 = .ok (.newarray .int, 2) := by decide +kernel
theorem dX1_init_41 : decode cX1_init 41 = .ok (.putfield 28, 3) := by decide +kernel
theorem dX1_init_44 : decode cX1_init 44 = .ok (.return_, 1) := by decide +kernel
theorem dX8_init_0 : decode cX8_init 0 = .ok (.aload_n 0, 1) := by decide +kernel
theorem dX8_init_1 : decode cX8_init 1 = .ok (.invokespecial 3, 3) := by decide +kernel
theorem dX8_init_4 : decode cX8_init 4 = .ok (.aload_n 0, 1) := by decide +kernel
theorem dX8_init_5 : decode cX8_init 5 = .ok (.iconst 0, 1) := by decide +kernel
theorem dX8_init_6 : decode cX8_init 6 = .ok (.putfield 9, 3) := by decide +kernel
theorem dX8_init_9 : decode cX8_init 9 = .ok (.aload_n 0, 1) := by decide +kernel
theorem dX8_init_10 : decode cX8_init 10 = .ok (.bipush 12, 2) := by decide +kernel
theorem dX8_init_12 : decode cX8_init 12 = .ok (.newarray .int, 2) := by decide +kernel
theorem dX8_init_14 : decode cX8_init 14 = .ok (.putfield 15, 3) := by decide +kernel
theorem dX8_init_17 : decode cX8_init 17 = .ok (.aload_n 0, 1) := by decide +kernel
theorem dX8_init_18 : decode cX8_init 18 = .ok (.bipush 12, 2) := by decide +kernel
theorem dX8_init_20 : decode cX8_init 20 = .ok (.newarray .int, 2) := by decide +kernel
theorem dX8_init_22 : decode cX8_init 22 = .ok (.putfield 19, 3) := by decide +kernel
theorem dX8_init_25 : decode cX8_init 25 = .ok (.aload_n 0, 1) := by decide +kernel
theorem dX8_init_26 : decode cX8_init 26 = .ok (.bipush 12, 2) := by decide +kernel
theorem dX8_init_28 : decode cX8_init 28 = .ok (.newarray .int, 2) := by decide +kernel
theorem dX8_init_30 : decode cX8_init 30 = .ok (.putfield 22, 3) := by decide +kernel
theorem dX8_init_33 : decode cX8_init 33 = .ok (.return_, 1) := by decide +kernel
theorem dX5_init_0 : decode cX5_init 0 = .ok (.aload_n 0, 1) := by decide +kernel
theorem dX5_init_1 : decode cX5_init 1 = .ok (.invokespecial 3, 3) := by decide +kernel
theorem dX5_init_4 : decode cX5_init 4 = .ok (.aload_n 0, 1) := by decide +kernel
theorem dX5_init_5 : decode cX5_init 5 = .ok (.iconst 0, 1) := by decide +kernel
theorem dX5_init_6 : decode cX5_init 6 = .ok (.putfield 9, 3) := by decide +kernel
theorem dX5_init_9 : decode cX5_init 9 = .ok (.aload_n 0, 1) := by decide +kernel
theorem dX5_init_10 : decode cX5_init 10 = .ok (.iconst 0, 1) := by decide +kernel
theorem dX5_init_11 : decode cX5_init 11 = .ok (.putfield 15, 3) := by decide +kernel
theorem dX5_init_14 : decode cX5_init 14 = .ok (.aload_n 0, 1) := by decide +kernel
theorem dX5_init_15 : decode cX5_init 15 = .ok (.iconst 0, 1) := by decide +kernel
theorem dX5_init_16 : decode cX5_init 16 = .ok (.putfield 18, 3) := by decide +kernel
theorem dX5_init_19 : decode cX5_init 19 = .ok (.aload_n 0, 1) := by decide +kernel
theorem dX5_init_20 : decode cX5_init 20 = .ok (.iconst 0, 1) := by decide +kernel
theorem dX5_init_21 : decode cX5_init 21 = .ok (.putfield 21, 3) := by decide +kernel
theorem dX5_init_24 : decode cX5_init 24 = .ok (.aload_n 0, 1) := by decide +kernel
theorem dX5_init_25 : decode cX5_init 25 = .ok (.iconst 0, 1) := by decide +kernel
theorem dX5_init_26 : decode cX5_init 26 = .ok (.putfield 24, 3) := by decide +kernel
theorem dX5_init_29 : decode cX5_init 29 = .ok (.aload_n 0, 1) := by decide +kernel
theorem dX5_init_30 : decode cX5_init 30 = .ok (.bipush 9, 2) := by decide +kernel
theorem dX5_init_32 : decode cX5_init 32 = .ok (.newarray .int, 2) := by decide +kernel
theorem dX5_init_34 : decode cX5_init 34 = .ok (.putfield 27, 3) := by decide +kernel
theorem dX5_init_37 : decode cX5_init 37 = .ok (.aload_n 0, 1) := by decide +kernel
theorem dX5_init_38 : decode cX5_init 38 = .ok (.bipush 9, 2) := by decide +kernel
theorem dX5_init_40 : decode cX5_init 40 = .ok (.newarray .int, 2) := by decide +kernel
theorem dX5_init_42 : decode cX5_init 42 = .ok (.putfield 31, 3) := by decide +kernel
theorem dX5_init_45 : decode cX5_init 45 = .ok (.return_, 1) := by decide +kernel
theorem dX6_init_0 : decode cX6_init 0 = .ok (.aload_n 0, 1) := by decide +kernel
theorem dX6_init_1 : decode cX6_init 1 = .ok (.invokespecial 1, 3) := by decide +kernel
theorem dX6_init_4 : decode cX6_init 4 = .ok (.aload_n 0, 1) := by decide +kernel
theorem dX6_init_5 : decode cX6_init 5 = .ok (.iconst 0, 1) := by decide +kernel
theorem dX6_init_6 : decode cX6_init 6 = .ok (.newarray .byte, 2) := by decide +kernel
theorem dX6_init_8 : decode cX6_init 8 = .ok (.putfield 7, 3) := by decide +kernel
theorem dX6_init_11 : decode cX6_init 11 = .ok (.aload_n 0, 1) := by decide +kernel
theorem dX6_init_12 : decode cX6_init 12 = .ok (.iconst 0, 1) := by decide +kernel
theorem dX6_init_13 : decode cX6_init 13 = .ok (.putfield 13, 3) := by decide +kernel
theorem dX6_init_16 : decode cX6_init 16 = .ok (.aload_n 0, 1) := by decide +kernel
theorem dX6_init_17 : decode cX6_init 17 = .ok (.iconst 0, 1) := by decide +kernel
theorem dX6_init_18 : decode cX6_init 18 = .ok (.putfield 17, 3) := by decide +kernel
theorem dX6_init_21 : decode cX6_init 21 = .ok (.aload_n 0, 1) := by decide +kernel
theorem dX6_init_22 : decode cX6_init 22 = .ok (.iconst 0, 1) := by decide +kernel
theorem dX6_init_23 : decode cX6_init 23 = .ok (.putfield 20, 3) := by decide +kernel
theorem dX6_init_26 : decode cX6_init 26 = .ok (.aload_n 0, 1) := by decide +kernel
theorem dX6_init_27 : decode cX6_init 27 = .ok (.iconst 0, 1) := by decide +kernel
theorem dX6_init_28 : decode cX6_init 28 = .ok (.putfield 23, 3) := by decide +kernel
theorem dX6_init_31 : decode cX6_init 31 = .ok (.aload_n 0, 1) := by decide +kernel
theorem dX6_init_32 : decode cX6_init 32 = .ok (.iconst 0, 1) := by decide +kernel
theorem dX6_init_33 : decode cX6_init 33 = .ok (.putfield 26, 3) := by decide +kernel
theorem dX6_init_36 : decode cX6_init 36 = .ok (.return_, 1) := by decide +kernel
theorem dX7_init_0 : decode cX7_init 0 = .ok (.aload_n 0, 1) := by decide +kernel
theorem dX7_init_1 : decode cX7_init 1 = .ok (.invokespecial 3, 3) := by decide +kernel
theorem dX7_init_4 : decode cX7_init 4 = .ok (.aload_n 0, 1) := by decide +kernel
theorem dX7_init_5 : decode cX7_init 5 = .ok (.sipush 600, 3) := by decide +kernel
theorem dX7_init_8 : decode cX7_init 8 = .ok (.newarray .byte, 2) := by decide +kernel
theorem dX7_init_10 : decode cX7_init 10 = .ok (.putfield 9, 3) := by decide +kernel
theorem dX7_init_13 : decode cX7_init 13 = .ok (.aload_n 0, 1) := by decide +kernel
theorem dX7_init_14 : decode cX7_init 14 = .ok (.iconst 0, 1) := by decide +kernel
theorem dX7_init_15 : decode cX7_init 15 = .ok (.putfield 15, 3) := by decide +kernel
theorem dX7_init_18 : decode cX7_init 18 = .ok (.aload_n 0, 1) := by decide +kernel
theorem dX7_init_19 : decode cX7_init 19 = .ok (.iconst 0, 1) := by decide +kernel
theorem dX7_init_20 : decode cX7_init 20 = .ok (.putfield 19, 3) := by decide +kernel
theorem dX7_init_23 : decode cX7_init 23 = .ok (.aload_n 0, 1) := by decide +kernel
theorem dX7_init_24 : decode cX7_init 24 = .ok (.iconst (-1), 1) := by decide +kernel
theorem dX7_init_25 : decode cX7_init 25 = .ok (.putfield 22, 3) := by decide +kernel
theorem dX7_init_28 : decode cX7_init 28 = .ok (.aload_n 0, 1) := by decide +kernel
theorem dX7_init_29 : decode cX7_init 29 = .ok (.iconst 2, 1) := by decide +kernel
theorem dX7_init_30 : decode cX7_init 30 = .ok (.anewarray 25, 3) := by decide +kernel
theorem dX7_init_33 : decode cX7_init 33 = .ok (.putfield 27, 3) := by decide +kernel
theorem dX7_init_36 : decode cX7_init 36 = .ok (.aload_n 0, 1) := by decide +kernel
theorem dX7_init_37 : decode cX7_init 37 = .ok (.iconst 0, 1) := by decide +kernel
theorem dX7_init_38 : decode cX7_init 38 = .ok (.putfield 31, 3) := by decide +kernel
theorem dX7_init_41 : decode cX7_init 41 = .ok (.aload_n 0, 1) := by decide +kernel
theorem dX7_init_42 : decode cX7_init 42 = .ok (.iconst 3, 1) := by decide +kernel
theorem dX7_init_43 : decode cX7_init 43 = .ok (.anewarray 34, 3) := by decide +kernel
theorem dX7_init_46 : decode cX7_init 46 = .ok (.putfield 36, 3) := by decide +kernel
theorem dX7_init_49 : decode cX7_init 49 = .ok (.aload_n 0, 1) := by decide +kernel
theorem dX7_init_50 : decode cX7_init 50 = .ok (.iconst 0, 1) := by decide +kernel
theorem dX7_init_51 : decode cX7_init 51 = .ok (.putfield 40, 3) := by decide +kernel
theorem dX7_init_54 : decode cX7_init 54 = .ok (.iconst 0, 1) := by decide +kernel
theorem dX7_init_55 : decode cX7_init 55 = .ok (.istore_n 1, 1) := by decide +kernel
theorem dX7_init_56 : decode cX7_init 56 = .ok (.iload_n 1, 1) := by decide +kernel
theorem dX7_init_57 : decode cX7_init 57 = .ok (.iconst 2, 1) := by decide +kernel
theorem dX7_init_58 : decode cX7_init 58 = .ok (.if_icmp .ge 22, 3) := by decide +kernel
theorem dX7_init_61 : decode cX7_init 61 = .ok (.aload_n 0, 1) := by decide +kernel
theorem dX7_init_62 : decode cX7_init 62 = .ok (.getfield 27, 3) := by decide +kernel
theorem dX7_init_65 : decode cX7_init 65 = .ok (.iload_n 1, 1) := by decide +kernel
theorem dX7_init_66 : decode cX7_init 66 = .ok (.new 25, 3) := by decide +kernel
theorem dX7_init_69 : decode cX7_init 69 = .ok (.dup, 1) := by decide +kernel
theorem dX7_init_70 : decode cX7_init 70 = .ok (.invokespecial 43, 3) := by decide +kernel
theorem dX7_init_73 : decode cX7_init 73 = .ok (.aastore, 1) := by decide +kernel
theorem dX7_init_74 : decode cX7_init 74 = .ok (.iinc 1 1, 3) := by decide +kernel
theorem dX7_init_77 : decode cX7_init 77 = .ok (.goto (-21), 3) := by decide +kernel
theorem dX7_init_80 : decode cX7_init 80 = .ok (.iconst 0, 1) := by decide +kernel
theorem dX7_init_81 : decode cX7_init 81 = .ok (.istore_n 1, 1) := by decide +kernel
theorem dX7_init_82 : decode cX7_init 82 = .ok (.iload_n 1, 1) := by decide +kernel
theorem dX7_init_83 : decode cX7_init 83 = .ok (.iconst 3, 1) := by decide +kernel
theorem dX7_init_84 : decode cX7_init 84 = .ok (.if_icmp .ge 22, 3) := by decide +kernel
theorem dX7_init_87 : decode cX7_init 87 = .ok (.aload_n 0, 1) := by decide +kernel
theorem dX7_init_88 : decode cX7_init 88 = .ok (.getfield 36, 3) := by decide +kernel
theorem dX7_init_91 : decode cX7_init 91 = .ok (.iload_n 1, 1) := by decide +kernel
theorem dX7_init_92 : decode cX7_init 92 = .ok (.new 34, 3) := by decide +kernel
theorem dX7_init_95 : decode cX7_init 95 = .ok (.dup, 1) := by decide +kernel
theorem dX7_init_96 : decode cX7_init 96 = .ok (.invokespecial 44, 3) := by decide +kernel
theorem dX7_init_99 : decode cX7_init 99 = .ok (.aastore, 1) := by decide +kernel
theorem dX7_init_100 : decode cX7_init 100 = .ok (.iinc 1 1, 3) := by decide +kernel
theorem dX7_init_103 : decode cX7_init 103 = .ok (.goto (-21), 3) := by decide +kernel
theorem dX7_init_106 : decode cX7_init 106 = .ok (.return_, 1) := by decide +kernel
theorem dX3_init_0 : decode cX3_init 0 = .ok (.aload_n 0, 1) := by decide +kernel
theorem dX3_init_1 : decode cX3_init 1 = .ok (.invokespecial 3, 3) := by decide +kernel
theorem dX3_init_4 : decode cX3_init 4 = .ok (.aload_n 0, 1) := by decide +kernel
theorem dX3_init_5 : decode cX3_init 5 = .ok (.new 9, 3) := by decide +kernel
theorem dX3_init_8 : decode cX3_init 8 = .ok (.dup, 1) := by decide +kernel
theorem dX3_init_9 : decode cX3_init 9 = .ok (.invokespecial 11, 3) := by decide +kernel
theorem dX3_init_12 : decode cX3_init 12 = .ok (.putfield 12, 3) := by decide +kernel
theorem dX3_init_15 : decode cX3_init 15 = .ok (.aload_n 0, 1) := by decide +kernel
theorem dX3_init_16 : decode cX3_init 16 = .ok (.new 18, 3) := by decide +kernel
theorem dX3_init_19 : decode cX3_init 19 = .ok (.dup, 1) := by decide +kernel
theorem dX3_init_20 : decode cX3_init 20 = .ok (.invokespecial 20, 3) := by decide +kernel
theorem dX3_init_23 : decode cX3_init 23 = .ok (.putfield 21, 3) := by decide +kernel
theorem dX3_init_26 : decode cX3_init 26 = .ok (.aload_n 0, 1) := by decide +kernel
theorem dX3_init_27 : decode cX3_init 27 = .ok (.new 25, 3) := by decide +kernel
theorem dX3_init_30 : decode cX3_init 30 = .ok (.dup, 1) := by decide +kernel
theorem dX3_init_31 : decode cX3_init 31 = .ok (.invokespecial 27, 3) := by decide +kernel
theorem dX3_init_34 : decode cX3_init 34 = .ok (.putfield 28, 3) := by decide +kernel
theorem dX3_init_37 : decode cX3_init 37 = .ok (.aload_n 0, 1) := by decide +kernel
theorem dX3_init_38 : decode cX3_init 38 = .ok (.iconst 3, 1) := by decide +kernel
theorem dX3_init_39 : decode cX3_init 39 = .ok (.newarray .int, 2) := by decide +kernel
theorem dX3_init_41 : decode cX3_init 41 = .ok (.putfield 32, 3) := by decide +kernel
theorem dX3_init_44 : decode cX3_init 44 = .ok (.aload_n 0, 1) := by decide +kernel
theorem dX3_init_45 : decode cX3_init 45 = .ok (.iconst 3, 1) := by decide +kernel
theorem dX3_init_46 : decode cX3_init 46 = .ok (.newarray .int, 2) := by decide +kernel
theorem dX3_init_48 : decode cX3_init 48 = .ok (.putfield 36, 3) := by decide +kernel
theorem dX3_init_51 : decode cX3_init 51 = .ok (.aload_n 0, 1) := by decide +kernel
theorem dX3_init_52 : decode cX3_init 52 = .ok (.iconst 0, 1) := by decide +kernel
theorem dX3_init_53 : decode cX3_init 53 = .ok (.putfield 39, 3) := by decide +kernel
theorem dX3_init_56 : decode cX3_init 56 = .ok (.aload_n 0, 1) := by decide +kernel
theorem dX3_init_57 : decode cX3_init 57 = .ok (.iconst (-1), 1) := by decide +kernel
theorem dX3_init_58 : decode cX3_init 58 = .ok (.putfield 43, 3) := by decide +kernel
theorem dX3_init_61 : decode cX3_init 61 = .ok (.return_, 1) := by decide +kernel
theorem dX4_init_0 : decode cX4_init 0 = .ok (.aload_n 0, 1) := by decide +kernel
theorem dX4_init_1 : decode cX4_init 1 = .ok (.invokespecial 3, 3) := by decide +kernel
theorem dX4_init_4 : decode cX4_init 4 = .ok (.aload_n 0, 1) := by decide +kernel
theorem dX4_init_5 : decode cX4_init 5 = .ok (.new 9, 3) := by decide +kernel
theorem dX4_init_8 : decode cX4_init 8 = .ok (.dup, 1) := by decide +kernel
theorem dX4_init_9 : decode cX4_init 9 = .ok (.invokespecial 11, 3) := by decide +kernel
theorem dX4_init_12 : decode cX4_init 12 = .ok (.putfield 12, 3) := by decide +kernel
theorem dX4_init_15 : decode cX4_init 15 = .ok (.aload_n 0, 1) := by decide +kernel
theorem dX4_init_16 : decode cX4_init 16 = .ok (.iconst 0, 1) := by decide +kernel
theorem dX4_init_17 : decode cX4_init 17 = .ok (.putfield 18, 3) := by decide +kernel
theorem dX4_init_20 : decode cX4_init 20 = .ok (.aload_n 0, 1) := by decide +kernel
theorem dX4_init_21 : decode cX4_init 21 = .ok (.iconst 0, 1) := by decide +kernel
theorem dX4_init_22 : decode cX4_init 22 = .ok (.putfield 22, 3) := by decide +kernel
theorem dX4_init_25 : decode cX4_init 25 = .ok (.aload_n 0, 1) := by decide +kernel
theorem dX4_init_26 : decode cX4_init 26 = .ok (.iconst 0, 1) := by decide +kernel
theorem dX4_init_27 : decode cX4_init 27 = .ok (.putfield 25, 3) := by decide +kernel
theorem dX4_init_30 : decode cX4_init 30 = .ok (.return_, 1) := by decide +kernel
theorem dX2_init_0 : decode cX2_init 0 = .ok (.aload_n 0, 1) := by decide +kernel
theorem dX2_init_1 : decode cX2_init 1 = .ok (.invokespecial 3, 3) := by decide +kernel
theorem dX2_init_4 : decode cX2_init 4 = .ok (.aload_n 0, 1) := by decide +kernel
theorem dX2_init_5 : decode cX2_init 5 = .ok (.new 9, 3) := by decide +kernel
theorem dX2_init_8 : decode cX2_init 8 = .ok (.dup, 1) := by decide +kernel
theorem dX2_init_9 : decode cX2_init 9 = .ok (.invokespecial 11, 3) := by decide +kernel
theorem dX2_init_12 : decode cX2_init 12 = .ok (.putfield 12, 3) := by decide +kernel
theorem dX2_init_15 : decode cX2_init 15 = .ok (.aload_n 0, 1) := by decide +kernel
theorem dX2_init_16 : decode cX2_init 16 = .ok (.new 18, 3) := by decide +kernel
theorem dX2_init_19 : decode cX2_init 19 = .ok (.dup, 1) := by decide +kernel
theorem dX2_init_20 : decode cX2_init 20 = .ok (.invokespecial 20, 3) := by decide +kernel
theorem dX2_init_23 : decode cX2_init 23 = .ok (.putfield 21, 3) := by decide +kernel
theorem dX2_init_26 : decode cX2_init 26 = .ok (.aload_n 0, 1) := by decide +kernel
theorem dX2_init_27 : decode cX2_init 27 = .ok (.sipush 2048, 3) := by decide +kernel
theorem dX2_init_30 : decode cX2_init 30 = .ok (.newarray .int, 2) := by decide +kernel
theorem dX2_init_32 : decode cX2_init 32 = .ok (.putfield 25, 3) := by decide +kernel
theorem dX2_init_35 : decode cX2_init 35 = .ok (.aload_n 0, 1) := by decide +kernel
theorem dX2_init_36 : decode cX2_init 36 = .ok (.sipush 512, 3) := by decide +kernel
theorem dX2_init_39 : decode cX2_init 39 = .ok (.newarray .int, 2) := by decide +kernel
theorem dX2_init_41 : decode cX2_init 41 = .ok (.putfield 29, 3) := by decide +kernel
theorem dX2_init_44 : decode cX2_init 44 = .ok (.aload_n 0, 1) := by decide +kernel
theorem dX2_init_45 : decode cX2_init 45 = .ok (.sipush 512, 3) := by decide +kernel
theorem dX2_init_48 : decode cX2_init 48 = .ok (.newarray .long, 2) := by decide +kernel
theorem dX2_init_50 : decode cX2_init 50 = .ok (.putfield 32, 3) := by decide +kernel
theorem dX2_init_53 : decode cX2_init 53 = .ok (.aload_n 0, 1) := by decide +kernel
theorem dX2_init_54 : decode cX2_init 54 = .ok (.sipush 512, 3) := by decide +kernel
theorem dX2_init_57 : decode cX2_init 57 = .ok (.newarray .long, 2) := by decide +kernel
theorem dX2_init_59 : decode cX2_init 59 = .ok (.putfield 36, 3) := by decide +kernel
theorem dX2_init_62 : decode cX2_init 62 = .ok (.return_, 1) := by decide +kernel
theorem dX0_init_0 : decode cX0_init 0 = .ok (.aload_n 0, 1) := by decide +kernel
theorem dX0_init_1 : decode cX0_init 1 = .ok (.invokespecial 3, 3) := by decide +kernel
theorem dX0_init_4 : decode cX0_init 4 = .ok (.aload_n 0, 1) := by decide +kernel
theorem dX0_init_5 : decode cX0_init 5 = .ok (.new 9, 3) := by decide +kernel
theorem dX0_init_8 : decode cX0_init 8 = .ok (.dup, 1) := by decide +kernel
theorem dX0_init_9 : decode cX0_init 9 = .ok (.invokespecial 11, 3) := by decide +kernel
theorem dX0_init_12 : decode cX0_init 12 = .ok (.putfield 12, 3) := by decide +kernel
theorem dX0_init_15 : decode cX0_init 15 = .ok (.aload_n 0, 1) := by decide +kernel
theorem dX0_init_16 : decode cX0_init 16 = .ok (.new 18, 3) := by decide +kernel
theorem dX0_init_19 : decode cX0_init 19 = .ok (.dup, 1) := by decide +kernel
theorem dX0_init_20 : decode cX0_init 20 = .ok (.invokespecial 20, 3) := by decide +kernel
theorem dX0_init_23 : decode cX0_init 23 = .ok (.putfield 21, 3) := by decide +kernel
theorem dX0_init_26 : decode cX0_init 26 = .ok (.aload_n 0, 1) := by decide +kernel
theorem dX0_init_27 : decode cX0_init 27 = .ok (.iconst (-1), 1) := by decide +kernel
theorem dX0_init_28 : decode cX0_init 28 = .ok (.putfield 25, 3) := by decide +kernel
theorem dX0_init_31 : decode cX0_init 31 = .ok (.aload_n 0, 1) := by decide +kernel
theorem dX0_init_32 : decode cX0_init 32 = .ok (.iconst (-1), 1) := by decide +kernel
theorem dX0_init_33 : decode cX0_init 33 = .ok (.putfield 29, 3) := by decide +kernel
theorem dX0_init_36 : decode cX0_init 36 = .ok (.aload_n 0, 1) := by decide +kernel
theorem dX0_init_37 : decode cX0_init 37 = .ok (.lconst 0, 1) := by decide +kernel
theorem dX0_init_38 : decode cX0_init 38 = .ok (.putfield 32, 3) := by decide +kernel
theorem dX0_init_41 : decode cX0_init 41 = .ok (.aload_n 0, 1) := by decide +kernel
theorem dX0_init_42 : decode cX0_init 42 = .ok (.iconst 0, 1) := by decide +kernel
theorem dX0_init_43 : decode cX0_init 43 = .ok (.putfield 36, 3) := by decide +kernel
theorem dX0_init_46 : decode cX0_init 46 = .ok (.aload_n 0, 1) := by decide +kernel
theorem dX0_init_47 : decode cX0_init 47 = .ok (.iconst 4, 1) := by decide +kernel
theorem dX0_init_48 : decode cX0_init 48 = .ok (.newarray .int, 2) := by decide +kernel
theorem dX0_init_50 : decode cX0_init 50 = .ok (.putfield 39, 3) := by decide +kernel
theorem dX0_init_53 : decode cX0_init 53 = .ok (.aload_n 0, 1) := by decide +kernel
theorem dX0_init_54 : decode cX0_init 54 = .ok (.iconst 4, 1) := by decide +kernel
theorem dX0_init_55 : decode cX0_init 55 = .ok (.newarray .int, 2) := by decide +kernel
theorem dX0_init_57 : decode cX0_init 57 = .ok (.putfield 43, 3) := by decide +kernel
theorem dX0_init_60 : decode cX0_init 60 = .ok (.aload_n 0, 1) := by decide +kernel
theorem dX0_init_61 : decode cX0_init 61 = .ok (.iconst 4, 1) := by decide +kernel
theorem dX0_init_62 : decode cX0_init 62 = .ok (.newarray .int, 2) := by decide +kernel
theorem dX0_init_64 : decode cX0_init 64 = .ok (.putfield 46, 3) := by decide +kernel
theorem dX0_init_67 : decode cX0_init 67 = .ok (.aload_n 0, 1) := by decide +kernel
theorem dX0_init_68 : decode cX0_init 68 = .ok (.bipush 16, 2) := by decide +kernel
theorem dX0_init_70 : decode cX0_init 70 = .ok (.newarray .long, 2) := by decide +kernel
theorem dX0_init_72 : decode cX0_init 72 = .ok (.putfield 49, 3) := by decide +kernel
theorem dX0_init_75 : decode cX0_init 75 = .ok (.return_, 1) := by decide +kernel
theorem dX10_init_0 : decode cX10_init 0 = .ok (.aload_n 0, 1) := by decide +kernel
theorem dX10_init_1 : decode cX10_init 1 = .ok (.invokespecial 1, 3) := by decide +kernel
theorem dX10_init_4 : decode cX10_init 4 = .ok (.aload_n 0, 1) := by decide +kernel
theorem dX10_init_5 : decode cX10_init 5 = .ok (.new 7, 3) := by decide +kernel
theorem dX10_init_8 : decode cX10_init 8 = .ok (.dup, 1) := by decide +kernel
theorem dX10_init_9 : decode cX10_init 9 = .ok (.invokespecial 9, 3) := by decide +kernel
theorem dX10_init_12 : decode cX10_init 12 = .ok (.putfield 10, 3) := by decide +kernel
theorem dX10_init_15 : decode cX10_init 15 = .ok (.aload_n 0, 1) := by decide +kernel
theorem dX10_init_16 : decode cX10_init 16 = .ok (.iconst 3, 1) := by decide +kernel
theorem dX10_init_17 : decode cX10_init 17 = .ok (.anewarray 7, 3) := by decide +kernel
theorem dX10_init_20 : decode cX10_init 20 = .ok (.putfield 16, 3) := by decide +kernel
theorem dX10_init_23 : decode cX10_init 23 = .ok (.aload_n 0, 1) := by decide +kernel
theorem dX10_init_24 : decode cX10_init 24 = .ok (.iconst 3, 1) := by decide +kernel
theorem dX10_init_25 : decode cX10_init 25 = .ok (.newarray .boolean, 2) := by decide +kernel
theorem dX10_init_27 : decode cX10_init 27 = .ok (.putfield 20, 3) := by decide +kernel
theorem dX10_init_30 : decode cX10_init 30 = .ok (.aload_n 0, 1) := by decide +kernel
theorem dX10_init_31 : decode cX10_init 31 = .ok (.new 24, 3) := by decide +kernel
theorem dX10_init_34 : decode cX10_init 34 = .ok (.dup, 1) := by decide +kernel
theorem dX10_init_35 : decode cX10_init 35 = .ok (.invokespecial 26, 3) := by decide +kernel
theorem dX10_init_38 : decode cX10_init 38 = .ok (.putfield 27, 3) := by decide +kernel
theorem dX10_init_41 : decode cX10_init 41 = .ok (.aload_n 0, 1) := by decide +kernel
theorem dX10_init_42 : decode cX10_init 42 = .ok (.new 31, 3) := by decide +kernel
theorem dX10_init_45 : decode cX10_init 45 = .ok (.dup, 1) := by decide +kernel
theorem dX10_init_46 : decode cX10_init 46 = .ok (.invokespecial 33, 3) := by decide +kernel
theorem dX10_init_49 : decode cX10_init 49 = .ok (.putfield 34, 3) := by decide +kernel
theorem dX10_init_52 : decode cX10_init 52 = .ok (.aload_n 0, 1) := by decide +kernel
theorem dX10_init_53 : decode cX10_init 53 = .ok (.new 38, 3) := by decide +kernel
theorem dX10_init_56 : decode cX10_init 56 = .ok (.dup, 1) := by decide +kernel
theorem dX10_init_57 : decode cX10_init 57 = .ok (.invokespecial 40, 3) := by decide +kernel
theorem dX10_init_60 : decode cX10_init 60 = .ok (.putfield 41, 3) := by decide +kernel
theorem dX10_init_63 : decode cX10_init 63 = .ok (.aload_n 0, 1) := by decide +kernel
theorem dX10_init_64 : decode cX10_init 64 = .ok (.new 45, 3) := by decide +kernel
theorem dX10_init_67 : decode cX10_init 67 = .ok (.dup, 1) := by decide +kernel
theorem dX10_init_68 : decode cX10_init 68 = .ok (.invokespecial 47, 3) := by decide +kernel
theorem dX10_init_71 : decode cX10_init 71 = .ok (.putfield 48, 3) := by decide +kernel
theorem dX10_init_74 : decode cX10_init 74 = .ok (.aload_n 0, 1) := by decide +kernel
theorem dX10_init_75 : decode cX10_init 75 = .ok (.new 52, 3) := by decide +kernel
theorem dX10_init_78 : decode cX10_init 78 = .ok (.dup, 1) := by decide +kernel
theorem dX10_init_79 : decode cX10_init 79 = .ok (.invokespecial 54, 3) := by decide +kernel
theorem dX10_init_82 : decode cX10_init 82 = .ok (.putfield 55, 3) := by decide +kernel
theorem dX10_init_85 : decode cX10_init 85 = .ok (.aload_n 0, 1) := by decide +kernel
theorem dX10_init_86 : decode cX10_init 86 = .ok (.aload_n 0, 1) := by decide +kernel
theorem dX10_init_87 : decode cX10_init 87 = .ok (.getfield 55, 3) := by decide +kernel
theorem dX10_init_90 : decode cX10_init 90 = .ok (.getfield 59, 3) := by decide +kernel
theorem dX10_init_93 : decode cX10_init 93 = .ok (.putfield 63, 3) := by decide +kernel
theorem dX10_init_96 : decode cX10_init 96 = .ok (.aload_n 0, 1) := by decide +kernel
theorem dX10_init_97 : decode cX10_init 97 = .ok (.new 64, 3) := by decide +kernel
theorem dX10_init_100 : decode cX10_init 100 = .ok (.dup, 1) := by decide +kernel
theorem dX10_init_101 : decode cX10_init 101 = .ok (.invokespecial 66, 3) := by decide +kernel
theorem dX10_init_104 : decode cX10_init 104 = .ok (.putfield 67, 3) := by decide +kernel
theorem dX10_init_107 : decode cX10_init 107 = .ok (.iconst 0, 1) := by decide +kernel
theorem dX10_init_108 : decode cX10_init 108 = .ok (.istore_n 1, 1) := by decide +kernel
theorem dX10_init_109 : decode cX10_init 109 = .ok (.iload_n 1, 1) := by decide +kernel
theorem dX10_init_110 : decode cX10_init 110 = .ok (.iconst 3, 1) := by decide +kernel
theorem dX10_init_111 : decode cX10_init 111 = .ok (.if_icmp .ge 22, 3) := by decide +kernel
theorem dX10_init_114 : decode cX10_init 114 = .ok (.aload_n 0, 1) := by decide +kernel
theorem dX10_init_115 : decode cX10_init 115 = .ok (.getfield 16, 3) := by decide +kernel
theorem dX10_init_118 : decode cX10_init 118 = .ok (.iload_n 1, 1) := by decide +kernel
theorem dX10_init_119 : decode cX10_init 119 = .ok (.new 7, 3) := by decide +kernel
theorem dX10_init_122 : decode cX10_init 122 = .ok (.dup, 1) := by decide +kernel
theorem dX10_init_123 : decode cX10_init 123 = .ok (.invokespecial 9, 3) := by decide +kernel
theorem dX10_init_126 : decode cX10_init 126 = .ok (.aastore, 1) := by decide +kernel
theorem dX10_init_127 : decode cX10_init 127 = .ok (.iinc 1 1, 3) := by decide +kernel
theorem dX10_init_130 : decode cX10_init 130 = .ok (.goto (-21), 3) := by decide +kernel
theorem dX10_init_133 : decode cX10_init 133 = .ok (.return_, 1) := by decide +kernel
theorem dX11_init_0 : decode cX11_init 0 = .ok (.aload_n 0, 1) := by decide +kernel
theorem dX11_init_1 : decode cX11_init 1 = .ok (.invokespecial 1, 3) := by decide +kernel
theorem dX11_init_4 : decode cX11_init 4 = .ok (.aload_n 0, 1) := by decide +kernel
theorem dX11_init_5 : decode cX11_init 5 = .ok (.sipush 2400, 3) := by decide +kernel
theorem dX11_init_8 : decode cX11_init 8 = .ok (.newarray .byte, 2) := by decide +kernel
theorem dX11_init_10 : decode cX11_init 10 = .ok (.putfield 7, 3) := by decide +kernel
theorem dX11_init_13 : decode cX11_init 13 = .ok (.aload_n 0, 1) := by decide +kernel
theorem dX11_init_14 : decode cX11_init 14 = .ok (.iconst 4, 1) := by decide +kernel
theorem dX11_init_15 : decode cX11_init 15 = .ok (.newarray .int, 2) := by decide +kernel
theorem dX11_init_17 : decode cX11_init 17 = .ok (.putfield 13, 3) := by decide +kernel
theorem dX11_init_20 : decode cX11_init 20 = .ok (.aload_n 0, 1) := by decide +kernel
theorem dX11_init_21 : decode cX11_init 21 = .ok (.iconst 4, 1) := by decide +kernel
theorem dX11_init_22 : decode cX11_init 22 = .ok (.newarray .int, 2) := by decide +kernel
theorem dX11_init_24 : decode cX11_init 24 = .ok (.putfield 17, 3) := by decide +kernel
theorem dX11_init_27 : decode cX11_init 27 = .ok (.aload_n 0, 1) := by decide +kernel
theorem dX11_init_28 : decode cX11_init 28 = .ok (.iconst 4, 1) := by decide +kernel
theorem dX11_init_29 : decode cX11_init 29 = .ok (.newarray .int, 2) := by decide +kernel
theorem dX11_init_31 : decode cX11_init 31 = .ok (.putfield 20, 3) := by decide +kernel
theorem dX11_init_34 : decode cX11_init 34 = .ok (.aload_n 0, 1) := by decide +kernel
theorem dX11_init_35 : decode cX11_init 35 = .ok (.bipush 8, 2) := by decide +kernel
theorem dX11_init_37 : decode cX11_init 37 = .ok (.newarray .int, 2) := by decide +kernel
theorem dX11_init_39 : decode cX11_init 39 = .ok (.putfield 23, 3) := by decide +kernel
theorem dX11_init_42 : decode cX11_init 42 = .ok (.aload_n 0, 1) := by decide +kernel
theorem dX11_init_43 : decode cX11_init 43 = .ok (.sipush 1256, 3) := by decide +kernel
theorem dX11_init_46 : decode cX11_init 46 = .ok (.newarray .int, 2) := by decide +kernel
theorem dX11_init_48 : decode cX11_init 48 = .ok (.putfield 26, 3) := by decide +kernel
theorem dX11_init_51 : decode cX11_init 51 = .ok (.aload_n 0, 1) := by decide +kernel
theorem dX11_init_52 : decode cX11_init 52 = .ok (.sipush 444, 3) := by decide +kernel
theorem dX11_init_55 : decode cX11_init 55 = .ok (.newarray .int, 2) := by decide +kernel
theorem dX11_init_57 : decode cX11_init 57 = .ok (.putfield 29, 3) := by decide +kernel
theorem dX11_init_60 : decode cX11_init 60 = .ok (.aload_n 0, 1) := by decide +kernel
theorem dX11_init_61 : decode cX11_init 61 = .ok (.sipush 157, 3) := by decide +kernel
theorem dX11_init_64 : decode cX11_init 64 = .ok (.newarray .int, 2) := by decide +kernel
theorem dX11_init_66 : decode cX11_init 66 = .ok (.putfield 32, 3) := by decide +kernel
theorem dX11_init_69 : decode cX11_init 69 = .ok (.aload_n 0, 1) := by decide +kernel
theorem dX11_init_70 : decode cX11_init 70 = .ok (.iconst 3, 1) := by decide +kernel
theorem dX11_init_71 : decode cX11_init 71 = .ok (.newarray .int, 2) := by decide +kernel
theorem dX11_init_73 : decode cX11_init 73 = .ok (.putfield 35, 3) := by decide +kernel
theorem dX11_init_76 : decode cX11_init 76 = .ok (.aload_n 0, 1) := by decide +kernel
theorem dX11_init_77 : decode cX11_init 77 = .ok (.sipush 157, 3) := by decide +kernel
theorem dX11_init_80 : decode cX11_init 80 = .ok (.newarray .int, 2) := by decide +kernel
theorem dX11_init_82 : decode cX11_init 82 = .ok (.putfield 38, 3) := by decide +kernel
theorem dX11_init_85 : decode cX11_init 85 = .ok (.aload_n 0, 1) := by decide +kernel
theorem dX11_init_86 : decode cX11_init 86 = .ok (.bipush 9, 2) := by decide +kernel
theorem dX11_init_88 : decode cX11_init 88 = .ok (.newarray .int, 2) := by decide +kernel
theorem dX11_init_90 : decode cX11_init 90 = .ok (.putfield 41, 3) := by decide +kernel
theorem dX11_init_93 : decode cX11_init 93 = .ok (.aload_n 0, 1) := by decide +kernel
theorem dX11_init_94 : decode cX11_init 94 = .ok (.bipush 9, 2) := by decide +kernel
theorem dX11_init_96 : decode cX11_init 96 = .ok (.newarray .int, 2) := by decide +kernel
theorem dX11_init_98 : decode cX11_init 98 = .ok (.putfield 44, 3) := by decide +kernel
theorem dX11_init_101 : decode cX11_init 101 = .ok (.aload_n 0, 1) := by decide +kernel
theorem dX11_init_102 : decode cX11_init 102 = .ok (.bipush 9, 2) := by decide +kernel
theorem dX11_init_104 : decode cX11_init 104 = .ok (.newarray .int, 2) := by decide +kernel
theorem dX11_init_106 : decode cX11_init 106 = .ok (.putfield 47, 3) := by decide +kernel
theorem dX11_init_109 : decode cX11_init 109 = .ok (.aload_n 0, 1) := by decide +kernel
theorem dX11_init_110 : decode cX11_init 110 = .ok (.sipush 512, 3) := by decide +kernel
theorem dX11_init_113 : decode cX11_init 113 = .ok (.newarray .long, 2) := by decide +kernel
theorem dX11_init_115 : decode cX11_init 115 = .ok (.putfield 50, 3) := by decide +kernel
theorem dX11_init_118 : decode cX11_init 118 = .ok (.aload_n 0, 1) := by decide +kernel
theorem dX11_init_119 : decode cX11_init 119 = .ok (.bipush 9, 2) := by decide +kernel
theorem dX11_init_121 : decode cX11_init 121 = .ok (.newarray .int, 2) := by decide +kernel
theorem dX11_init_123 : decode cX11_init 123 = .ok (.putfield 54, 3) := by decide +kernel
theorem dX11_init_126 : decode cX11_init 126 = .ok (.aload_n 0, 1) := by decide +kernel
theorem dX11_init_127 : decode cX11_init 127 = .ok (.bipush 9, 2) := by decide +kernel
theorem dX11_init_129 : decode cX11_init 129 = .ok (.newarray .int, 2) := by decide +kernel
theorem dX11_init_131 : decode cX11_init 131 = .ok (.putfield 57, 3) := by decide +kernel
theorem dX11_init_134 : decode cX11_init 134 = .ok (.aload_n 0, 1) := by decide +kernel
theorem dX11_init_135 : decode cX11_init 135 = .ok (.iconst 4, 1) := by decide +kernel
theorem dX11_init_136 : decode cX11_init 136 = .ok (.newarray .int, 2) := by decide +kernel
theorem dX11_init_138 : decode cX11_init 138 = .ok (.putfield 60, 3) := by decide +kernel
theorem dX11_init_141 : decode cX11_init 141 = .ok (.aload_n 0, 1) := by decide +kernel
theorem dX11_init_142 : decode cX11_init 142 = .ok (.iconst 4, 1) := by decide +kernel
theorem dX11_init_143 : decode cX11_init 143 = .ok (.newarray .int, 2) := by decide +kernel
theorem dX11_init_145 : decode cX11_init 145 = .ok (.putfield 63, 3) := by decide +kernel
theorem dX11_init_148 : decode cX11_init 148 = .ok (.aload_n 0, 1) := by decide +kernel
theorem dX11_init_149 : decode cX11_init 149 = .ok (.iconst 3, 1) := by decide +kernel
theorem dX11_init_150 : decode cX11_init 150 = .ok (.newarray .boolean, 2) := by decide +kernel
theorem dX11_init_152 : decode cX11_init 152 = .ok (.putfield 66, 3) := by decide +kernel
theorem dX11_init_155 : decode cX11_init 155 = .ok (.aload_n 0, 1) := by decide +kernel
theorem dX11_init_156 : decode cX11_init 156 = .ok (.getfield 20, 3) := by decide +kernel
theorem dX11_init_159 : decode cX11_init 159 = .ok (.iconst 0, 1) := by decide +kernel
theorem dX11_init_160 : decode cX11_init 160 = .ok (.iconst (-1), 1) := by decide +kernel
theorem dX11_init_161 : decode cX11_init 161 = .ok (.iastore, 1) := by decide +kernel
theorem dX11_init_162 : decode cX11_init 162 = .ok (.return_, 1) := by decide +kernel
def ob1 (n : Nat) : MC := (.inr (1, [.int 0, .ref (n + 0), .int 0, .ref (n + 1), .ref (n + 2), .ref (n + 3)]))
def bk1 (n : Nat) : List MC := (.inl (1, 144, .inl (fun _ => 0))) :: ((.inl (1, 4, .inl (fun _ => 0))) :: ((.inl (1, 4, .inl (fun _ => 0))) :: ((.inl (1, 3, .inl (fun _ => 0))) :: ([]))))
set_option maxRecDepth 100000 in
theorem bl1 {n : Nat} : (bk1 n).length = 4 := rfl
set_option maxHeartbeats 4000000 in
set_option maxRecDepth 100000 in
theorem c_X1_init {d : Nat} {h : List MC} {o n0 : Nat} (hd : 1 ≤ d) (hn : h.length = n0) (ho : h[o]? = some (.inr (1, [.int 0, .null, .int 0, .null, .null, .null]))) : CT con0 d 4 155 yX1_init cX1_init 1 none [.ref o] h (fun r h2 => r = none ∧ h2.length = n0 + 4 ∧ h2[o]? = some (ob1 n0) ∧ At h2 n0 (bk1 n0) ∧ ∀ j, j < n0 → j ≠ o → h2[j]? = h[j]?) := by
  have hol : o < n0 := by rw [← hn]; exact (List.getElem?_eq_some_iff.mp ho).1
  have hn0 : h.length = n0 + 0 := hn
  refine CT_of (by decide) (Nat.le_of_ble_eq_true rfl) (fun x hq => ?_)
  show J x yX1_init cX1_init 1 none d 4 155 h.length 0 [(0, .ref o)] [] h 0 0
  refine J_aload_n (i := 0) (j := 0) dX1_init_0 rfl rfl ?_
  refine J_obj dX1_init_1 k129 k113 k114 (Nat.le_trans (by decide) hd) (Nat.le_of_ble_eq_true rfl) ?_
  refine J_aload_n (i := 0) (j := 0) dX1_init_4 rfl rfl ?_
  refine J_iconst (v := 0) dX1_init_5 (by decide) ?_
  obtain ⟨h1, e2⟩ : ∃ z, z = h.set (o) (.inr (1, [.int 0, .null, .int 0, .null, .null, .null])) := ⟨_, rfl⟩
  refine J_put (C := RX1) (T := TX1) (Z := 6) (ci := 1) (f := 0) (ty0 := tyX1) dX1_init_6 inG1 rfl tyX1_ok nmX1 (by decide) k130 rfl rfl ho (Nat.le_of_ble_eq_true rfl) (fun _ _ => ⟨rfl, rfl⟩) e2.symm ?_
  have f3 := a_set e2 ho
  have l4 : h1.length = n0 + 0 := l_set e2 hn0
  have r5 := r_set (N := n0 + 0) e2
  refine J_aload_n (i := 0) (j := 0) dX1_init_9 rfl rfl ?_
  refine J_sipush (v := 144) dX1_init_10 (by decide) ?_
  refine J_newa1 (Z := 144) dX1_init_13 ka1 (by decide) (by decide) (by decide) (hk1 hn l4) (by decide) (by decide) ?_
  obtain ⟨h6, e7⟩ : ∃ z, z = h1 ++ [(.inl (1, 144, .inl (fun _ => 0)))] := ⟨_, rfl⟩
  refine J_w e7.symm ?_
  refine J_cr (v := n0 + 0) l4 ?_
  have f8 := a_push e7 l4
  have l9 : h6.length = n0 + 1 := l_push e7 l4 rfl
  have r10 := r_push (a := n0 + 0) e7 l4
  have f11 := (r10 (o) (Nat.lt_of_lt_of_le hol (Nat.le_add_right _ _)) (Nat.ne_of_lt (Nat.lt_of_lt_of_le hol (Nat.le_add_right _ _)))).trans f3
  obtain ⟨h12, e13⟩ : ∃ z, z = h6.set (o) (.inr (1, [.int 0, .ref (n0 + 0), .int 0, .null, .null, .null])) := ⟨_, rfl⟩
  refine J_putF (C := RX1) (T := TX1) (Z := 6) (ci := 1) (f := 1) (ty0 := tyX1) dX1_init_15 inG1 rfl tyX1_ok nmX1 (by decide) k137 rfl rfl rfl rfl f11 (Nat.le_of_ble_eq_true rfl) (fun _ _ => ⟨rfl, rfl⟩) e13.symm ?_
  have f14 := a_set e13 f11
  have l15 : h12.length = n0 + 1 := l_set e13 l9
  have r16 := r_set (N := n0 + 1) e13
  refine J_aload_n (i := 0) (j := 0) dX1_init_18 rfl rfl ?_
  refine J_iconst (v := 0) dX1_init_19 (by decide) ?_
  obtain ⟨h17, e18⟩ : ∃ z, z = h12.set (o) (.inr (1, [.int 0, .ref (n0 + 0), .int 0, .null, .null, .null])) := ⟨_, rfl⟩
  refine J_put (C := RX1) (T := TX1) (Z := 6) (ci := 1) (f := 2) (ty0 := tyX1) dX1_init_20 inG1 rfl tyX1_ok nmX1 (by decide) k138 rfl rfl f14 (Nat.le_of_ble_eq_true rfl) (fun _ _ => ⟨rfl, rfl⟩) e18.symm ?_
  have f19 := a_set e18 f14
  have l20 : h17.length = n0 + 1 := l_set e18 l15
  have r21 := r_set (N := n0 + 1) e18
  refine J_aload_n (i := 0) (j := 0) dX1_init_23 rfl rfl ?_
  refine J_iconst (v := 4) dX1_init_24 (by decide) ?_
  refine J_newa1 (Z := 4) dX1_init_25 ka1 (by decide) (by decide) (by decide) (hk1 hn l20) (by decide) (by decide) ?_
  obtain ⟨h22, e23⟩ : ∃ z, z = h17 ++ [(.inl (1, 4, .inl (fun _ => 0)))] := ⟨_, rfl⟩
  refine J_w e23.symm ?_
  refine J_cr (v := n0 + 1) l20 ?_
  have f24 := a_push e23 l20
  have l25 : h22.length = n0 + 2 := l_push e23 l20 rfl
  have r26 := r_push (a := n0 + 1) e23 l20
  have f27 := (r26 (o) (Nat.lt_of_lt_of_le hol (Nat.le_add_right _ _)) (Nat.ne_of_lt (Nat.lt_of_lt_of_le hol (Nat.le_add_right _ _)))).trans f19
  obtain ⟨h28, e29⟩ : ∃ z, z = h22.set (o) (.inr (1, [.int 0, .ref (n0 + 0), .int 0, .ref (n0 + 1), .null, .null])) := ⟨_, rfl⟩
  refine J_putF (C := RX1) (T := TX1) (Z := 6) (ci := 1) (f := 3) (ty0 := tyX1) dX1_init_27 inG1 rfl tyX1_ok nmX1 (by decide) k143 rfl rfl rfl rfl f27 (Nat.le_of_ble_eq_true rfl) (fun _ _ => ⟨rfl, rfl⟩) e29.symm ?_
  have f30 := a_set e29 f27
  have l31 : h28.length = n0 + 2 := l_set e29 l25
  have r32 := r_set (N := n0 + 2) e29
  refine J_aload_n (i := 0) (j := 0) dX1_init_30 rfl rfl ?_
  refine J_iconst (v := 4) dX1_init_31 (by decide) ?_
  refine J_newa1 (Z := 4) dX1_init_32 ka1 (by decide) (by decide) (by decide) (hk1 hn l31) (by decide) (by decide) ?_
  obtain ⟨h33, e34⟩ : ∃ z, z = h28 ++ [(.inl (1, 4, .inl (fun _ => 0)))] := ⟨_, rfl⟩
  refine J_w e34.symm ?_
  refine J_cr (v := n0 + 2) l31 ?_
  have f35 := a_push e34 l31
  have l36 : h33.length = n0 + 3 := l_push e34 l31 rfl
  have r37 := r_push (a := n0 + 2) e34 l31
  have f38 := (r37 (o) (Nat.lt_of_lt_of_le hol (Nat.le_add_right _ _)) (Nat.ne_of_lt (Nat.lt_of_lt_of_le hol (Nat.le_add_right _ _)))).trans f30
  obtain ⟨h39, e40⟩ : ∃ z, z = h33.set (o) (.inr (1, [.int 0, .ref (n0 + 0), .int 0, .ref (n0 + 1), .ref (n0 + 2), .null])) := ⟨_, rfl⟩
  refine J_putF (C := RX1) (T := TX1) (Z := 6) (ci := 1) (f := 4) (ty0 := tyX1) dX1_init_34 inG1 rfl tyX1_ok nmX1 (by decide) k144 rfl rfl rfl rfl f38 (Nat.le_of_ble_eq_true rfl) (fun _ _ => ⟨rfl, rfl⟩) e40.symm ?_
  have f41 := a_set e40 f38
  have l42 : h39.length = n0 + 3 := l_set e40 l36
  have r43 := r_set (N := n0 + 3) e40
  refine J_aload_n (i := 0) (j := 0) dX1_init_37 rfl rfl ?_
  refine J_iconst (v := 3) dX1_init_38 (by decide) ?_
  refine J_newa1 (Z := 3) dX1_init_39 ka1 (by decide) (by decide) (by decide) (hk1 hn l42) (by decide) (by decide) ?_
  obtain ⟨h44, e45⟩ : ∃ z, z = h39 ++ [(.inl (1, 3, .inl (fun _ => 0)))] := ⟨_, rfl⟩
  refine J_w e45.symm ?_
  refine J_cr (v := n0 + 3) l42 ?_
  have f46 := a_push e45 l42
  have l47 : h44.length = n0 + 4 := l_push e45 l42 rfl
  have r48 := r_push (a := n0 + 3) e45 l42
  have f49 := (r48 (o) (Nat.lt_of_lt_of_le hol (Nat.le_add_right _ _)) (Nat.ne_of_lt (Nat.lt_of_lt_of_le hol (Nat.le_add_right _ _)))).trans f41
  obtain ⟨h50, e51⟩ : ∃ z, z = h44.set (o) (.inr (1, [.int 0, .ref (n0 + 0), .int 0, .ref (n0 + 1), .ref (n0 + 2), .ref (n0 + 3)])) := ⟨_, rfl⟩
  refine J_putF (C := RX1) (T := TX1) (Z := 6) (ci := 1) (f := 5) (ty0 := tyX1) dX1_init_41 inG1 rfl tyX1_ok nmX1 (by decide) k145 rfl rfl rfl rfl f49 (Nat.le_of_ble_eq_true rfl) (fun _ _ => ⟨rfl, rfl⟩) e51.symm ?_
  have f52 := a_set e51 f49
  have l53 : h50.length = n0 + 4 := l_set e51 l47
  have r54 := r_set (N := n0 + 4) e51
  have f55 := (r16 (n0 + 0) (Nat.add_lt_add_left (by decide) n0) (Nat.ne_of_gt (Nat.lt_of_lt_of_le hol (Nat.le_add_right _ _)))).trans f8
  have f56 := (r21 (n0 + 0) (Nat.add_lt_add_left (by decide) n0) (Nat.ne_of_gt (Nat.lt_of_lt_of_le hol (Nat.le_add_right _ _)))).trans f55
  have f57 := (r26 (n0 + 0) (Nat.add_lt_add_left (by decide) n0) (fun q => absurd (Nat.add_left_cancel q) (by decide))).trans f56
  have f58 := (r32 (n0 + 0) (Nat.add_lt_add_left (by decide) n0) (Nat.ne_of_gt (Nat.lt_of_lt_of_le hol (Nat.le_add_right _ _)))).trans f57
  have f59 := (r37 (n0 + 0) (Nat.add_lt_add_left (by decide) n0) (fun q => absurd (Nat.add_left_cancel q) (by decide))).trans f58
  have f60 := (r43 (n0 + 0) (Nat.add_lt_add_left (by decide) n0) (Nat.ne_of_gt (Nat.lt_of_lt_of_le hol (Nat.le_add_right _ _)))).trans f59
  have f61 := (r48 (n0 + 0) (Nat.add_lt_add_left (by decide) n0) (fun q => absurd (Nat.add_left_cancel q) (by decide))).trans f60
  have f62 := (r54 (n0 + 0) (Nat.add_lt_add_left (by decide) n0) (Nat.ne_of_gt (Nat.lt_of_lt_of_le hol (Nat.le_add_right _ _)))).trans f61
  have f63 := (r32 (n0 + 1) (Nat.add_lt_add_left (by decide) n0) (Nat.ne_of_gt (Nat.lt_of_lt_of_le hol (Nat.le_add_right _ _)))).trans f24
  have f64 := (r37 (n0 + 1) (Nat.add_lt_add_left (by decide) n0) (fun q => absurd (Nat.add_left_cancel q) (by decide))).trans f63
  have f65 := (r43 (n0 + 1) (Nat.add_lt_add_left (by decide) n0) (Nat.ne_of_gt (Nat.lt_of_lt_of_le hol (Nat.le_add_right _ _)))).trans f64
  have f66 := (r48 (n0 + 1) (Nat.add_lt_add_left (by decide) n0) (fun q => absurd (Nat.add_left_cancel q) (by decide))).trans f65
  have f67 := (r54 (n0 + 1) (Nat.add_lt_add_left (by decide) n0) (Nat.ne_of_gt (Nat.lt_of_lt_of_le hol (Nat.le_add_right _ _)))).trans f66
  have f68 := (r43 (n0 + 2) (Nat.add_lt_add_left (by decide) n0) (Nat.ne_of_gt (Nat.lt_of_lt_of_le hol (Nat.le_add_right _ _)))).trans f35
  have f69 := (r48 (n0 + 2) (Nat.add_lt_add_left (by decide) n0) (fun q => absurd (Nat.add_left_cancel q) (by decide))).trans f68
  have f70 := (r54 (n0 + 2) (Nat.add_lt_add_left (by decide) n0) (Nat.ne_of_gt (Nat.lt_of_lt_of_le hol (Nat.le_add_right _ _)))).trans f69
  have f71 := (r54 (n0 + 3) (Nat.add_lt_add_left (by decide) n0) (Nat.ne_of_gt (Nat.lt_of_lt_of_le hol (Nat.le_add_right _ _)))).trans f46
  have hfr : ∀ j, j < n0 → j ≠ o → h50[j]? = h[j]? := by
    intro j hj hjo
    rw [r54 j (Nat.lt_of_lt_of_le hj (Nat.le_add_right _ _)) hjo, r48 j (Nat.lt_of_lt_of_le hj (Nat.le_add_right _ _)) (Nat.ne_of_lt (Nat.lt_of_lt_of_le hj (Nat.le_add_right _ _))), r43 j (Nat.lt_of_lt_of_le hj (Nat.le_add_right _ _)) hjo, r37 j (Nat.lt_of_lt_of_le hj (Nat.le_add_right _ _)) (Nat.ne_of_lt (Nat.lt_of_lt_of_le hj (Nat.le_add_right _ _))), r32 j (Nat.lt_of_lt_of_le hj (Nat.le_add_right _ _)) hjo, r26 j (Nat.lt_of_lt_of_le hj (Nat.le_add_right _ _)) (Nat.ne_of_lt (Nat.lt_of_lt_of_le hj (Nat.le_add_right _ _))), r21 j (Nat.lt_of_lt_of_le hj (Nat.le_add_right _ _)) hjo, r16 j (Nat.lt_of_lt_of_le hj (Nat.le_add_right _ _)) hjo, r10 j (Nat.lt_of_lt_of_le hj (Nat.le_add_right _ _)) (Nat.ne_of_lt (Nat.lt_of_lt_of_le hj (Nat.le_add_right _ _))), r5 j (Nat.lt_of_lt_of_le hj (Nat.le_add_right _ _)) hjo]
  exact J_vret hq dX1_init_44 rfl (hk1 hn l53) (by decide) (by decide) ⟨rfl, l53, f52, (At_cons f62 (At_cons f67 (At_cons f70 (At_cons f71 At_nil)))), hfr⟩
def ob8 (n : Nat) : MC := (.inr (8, [.int 0, .ref (n + 0), .ref (n + 1), .ref (n + 2)]))
def bk8 (n : Nat) : List MC := (.inl (1, 12, .inl (fun _ => 0))) :: ((.inl (1, 12, .inl (fun _ => 0))) :: ((.inl (1, 12, .inl (fun _ => 0))) :: ([])))
set_option maxRecDepth 100000 in
theorem bl8 {n : Nat} : (bk8 n).length = 3 := rfl
set_option maxHeartbeats 4000000 in
set_option maxRecDepth 100000 in
theorem c_X8_init {d : Nat} {h : List MC} {o n0 : Nat} (hd : 1 ≤ d) (hn : h.length = n0) (ho : h[o]? = some (.inr (8, [.int 0, .null, .null, .null]))) : CT con0 d 3 36 yX8_init cX8_init 1 none [.ref o] h (fun r h2 => r = none ∧ h2.length = n0 + 3 ∧ h2[o]? = some (ob8 n0) ∧ At h2 n0 (bk8 n0) ∧ ∀ j, j < n0 → j ≠ o → h2[j]? = h[j]?) := by
  have hol : o < n0 := by rw [← hn]; exact (List.getElem?_eq_some_iff.mp ho).1
  have hn0 : h.length = n0 + 0 := hn
  refine CT_of (by decide) (Nat.le_of_ble_eq_true rfl) (fun x hq => ?_)
  show J x yX8_init cX8_init 1 none d 3 36 h.length 0 [(0, .ref o)] [] h 0 0
  refine J_aload_n (i := 0) (j := 0) dX8_init_0 rfl rfl ?_
  refine J_obj dX8_init_1 k167 k113 k114 (Nat.le_trans (by decide) hd) (Nat.le_of_ble_eq_true rfl) ?_
  refine J_aload_n (i := 0) (j := 0) dX8_init_4 rfl rfl ?_
  refine J_iconst (v := 0) dX8_init_5 (by decide) ?_
  obtain ⟨h1, e2⟩ : ∃ z, z = h.set (o) (.inr (8, [.int 0, .null, .null, .null])) := ⟨_, rfl⟩
  refine J_put (C := RX8) (T := TX8) (Z := 4) (ci := 8) (f := 0) (ty0 := tyX8) dX8_init_6 inG8 rfl tyX8_ok nmX8 (by decide) k168 rfl rfl ho (Nat.le_of_ble_eq_true rfl) (fun _ _ => ⟨rfl, rfl⟩) e2.symm ?_
  have f3 := a_set e2 ho
  have l4 : h1.length = n0 + 0 := l_set e2 hn0
  have r5 := r_set (N := n0 + 0) e2
  refine J_aload_n (i := 0) (j := 0) dX8_init_9 rfl rfl ?_
  refine J_bipush (v := 12) dX8_init_10 (by decide) ?_
  refine J_newa1 (Z := 12) dX8_init_12 ka1 (by decide) (by decide) (by decide) (hk1 hn l4) (by decide) (by decide) ?_
  obtain ⟨h6, e7⟩ : ∃ z, z = h1 ++ [(.inl (1, 12, .inl (fun _ => 0)))] := ⟨_, rfl⟩
  refine J_w e7.symm ?_
  refine J_cr (v := n0 + 0) l4 ?_
  have f8 := a_push e7 l4
  have l9 : h6.length = n0 + 1 := l_push e7 l4 rfl
  have r10 := r_push (a := n0 + 0) e7 l4
  have f11 := (r10 (o) (Nat.lt_of_lt_of_le hol (Nat.le_add_right _ _)) (Nat.ne_of_lt (Nat.lt_of_lt_of_le hol (Nat.le_add_right _ _)))).trans f3
  obtain ⟨h12, e13⟩ : ∃ z, z = h6.set (o) (.inr (8, [.int 0, .ref (n0 + 0), .null, .null])) := ⟨_, rfl⟩
  refine J_putF (C := RX8) (T := TX8) (Z := 4) (ci := 8) (f := 1) (ty0 := tyX8) dX8_init_14 inG8 rfl tyX8_ok nmX8 (by decide) k171 rfl rfl rfl rfl f11 (Nat.le_of_ble_eq_true rfl) (fun _ _ => ⟨rfl, rfl⟩) e13.symm ?_
  have f14 := a_set e13 f11
  have l15 : h12.length = n0 + 1 := l_set e13 l9
  have r16 := r_set (N := n0 + 1) e13
  refine J_aload_n (i := 0) (j := 0) dX8_init_17 rfl rfl ?_
  refine J_bipush (v := 12) dX8_init_18 (by decide) ?_
  refine J_newa1 (Z := 12) dX8_init_20 ka1 (by decide) (by decide) (by decide) (hk1 hn l15) (by decide) (by decide) ?_
  obtain ⟨h17, e18⟩ : ∃ z, z = h12 ++ [(.inl (1, 12, .inl (fun _ => 0)))] := ⟨_, rfl⟩
  refine J_w e18.symm ?_
  refine J_cr (v := n0 + 1) l15 ?_
  have f19 := a_push e18 l15
  have l20 : h17.length = n0 + 2 := l_push e18 l15 rfl
  have r21 := r_push (a := n0 + 1) e18 l15
  have f22 := (r21 (o) (Nat.lt_of_lt_of_le hol (Nat.le_add_right _ _)) (Nat.ne_of_lt (Nat.lt_of_lt_of_le hol (Nat.le_add_right _ _)))).trans f14
  obtain ⟨h23, e24⟩ : ∃ z, z = h17.set (o) (.inr (8, [.int 0, .ref (n0 + 0), .ref (n0 + 1), .null])) := ⟨_, rfl⟩
  refine J_putF (C := RX8) (T := TX8) (Z := 4) (ci := 8) (f := 2) (ty0 := tyX8) dX8_init_22 inG8 rfl tyX8_ok nmX8 (by decide) k173 rfl rfl rfl rfl f22 (Nat.le_of_ble_eq_true rfl) (fun _ _ => ⟨rfl, rfl⟩) e24.symm ?_
  have f25 := a_set e24 f22
  have l26 : h23.length = n0 + 2 := l_set e24 l20
  have r27 := r_set (N := n0 + 2) e24
  refine J_aload_n (i := 0) (j := 0) dX8_init_25 rfl rfl ?_
  refine J_bipush (v := 12) dX8_init_26 (by decide) ?_
  refine J_newa1 (Z := 12) dX8_init_28 ka1 (by decide) (by decide) (by decide) (hk1 hn l26) (by decide) (by decide) ?_
  obtain ⟨h28, e29⟩ : ∃ z, z = h23 ++ [(.inl (1, 12, .inl (fun _ => 0)))] := ⟨_, rfl⟩
  refine J_w e29.symm ?_
  refine J_cr (v := n0 + 2) l26 ?_
  have f30 := a_push e29 l26
  have l31 : h28.length = n0 + 3 := l_push e29 l26 rfl
  have r32 := r_push (a := n0 + 2) e29 l26
  have f33 := (r32 (o) (Nat.lt_of_lt_of_le hol (Nat.le_add_right _ _)) (Nat.ne_of_lt (Nat.lt_of_lt_of_le hol (Nat.le_add_right _ _)))).trans f25
  obtain ⟨h34, e35⟩ : ∃ z, z = h28.set (o) (.inr (8, [.int 0, .ref (n0 + 0), .ref (n0 + 1), .ref (n0 + 2)])) := ⟨_, rfl⟩
  refine J_putF (C := RX8) (T := TX8) (Z := 4) (ci := 8) (f := 3) (ty0 := tyX8) dX8_init_30 inG8 rfl tyX8_ok nmX8 (by decide) k175 rfl rfl rfl rfl f33 (Nat.le_of_ble_eq_true rfl) (fun _ _ => ⟨rfl, rfl⟩) e35.symm ?_
  have f36 := a_set e35 f33
  have l37 : h34.length = n0 + 3 := l_set e35 l31
  have r38 := r_set (N := n0 + 3) e35
  have f39 := (r16 (n0 + 0) (Nat.add_lt_add_left (by decide) n0) (Nat.ne_of_gt (Nat.lt_of_lt_of_le hol (Nat.le_add_right _ _)))).trans f8
  have f40 := (r21 (n0 + 0) (Nat.add_lt_add_left (by decide) n0) (fun q => absurd (Nat.add_left_cancel q) (by decide))).trans f39
  have f41 := (r27 (n0 + 0) (Nat.add_lt_add_left (by decide) n0) (Nat.ne_of_gt (Nat.lt_of_lt_of_le hol (Nat.le_add_right _ _)))).trans f40
  have f42 := (r32 (n0 + 0) (Nat.add_lt_add_left (by decide) n0) (fun q => absurd (Nat.add_left_cancel q) (by decide))).trans f41
  have f43 := (r38 (n0 + 0) (Nat.add_lt_add_left (by decide) n0) (Nat.ne_of_gt (Nat.lt_of_lt_of_le hol (Nat.le_add_right _ _)))).trans f42
  have f44 := (r27 (n0 + 1) (Nat.add_lt_add_left (by decide) n0) (Nat.ne_of_gt (Nat.lt_of_lt_of_le hol (Nat.le_add_right _ _)))).trans f19
  have f45 := (r32 (n0 + 1) (Nat.add_lt_add_left (by decide) n0) (fun q => absurd (Nat.add_left_cancel q) (by decide))).trans f44
  have f46 := (r38 (n0 + 1) (Nat.add_lt_add_left (by decide) n0) (Nat.ne_of_gt (Nat.lt_of_lt_of_le hol (Nat.le_add_right _ _)))).trans f45
  have f47 := (r38 (n0 + 2) (Nat.add_lt_add_left (by decide) n0) (Nat.ne_of_gt (Nat.lt_of_lt_of_le hol (Nat.le_add_right _ _)))).trans f30
  have hfr : ∀ j, j < n0 → j ≠ o → h34[j]? = h[j]? := by
    intro j hj hjo
    rw [r38 j (Nat.lt_of_lt_of_le hj (Nat.le_add_right _ _)) hjo, r32 j (Nat.lt_of_lt_of_le hj (Nat.le_add_right _ _)) (Nat.ne_of_lt (Nat.lt_of_lt_of_le hj (Nat.le_add_right _ _))), r27 j (Nat.lt_of_lt_of_le hj (Nat.le_add_right _ _)) hjo, r21 j (Nat.lt_of_lt_of_le hj (Nat.le_add_right _ _)) (Nat.ne_of_lt (Nat.lt_of_lt_of_le hj (Nat.le_add_right _ _))), r16 j (Nat.lt_of_lt_of_le hj (Nat.le_add_right _ _)) hjo, r10 j (Nat.lt_of_lt_of_le hj (Nat.le_add_right _ _)) (Nat.ne_of_lt (Nat.lt_of_lt_of_le hj (Nat.le_add_right _ _))), r5 j (Nat.lt_of_lt_of_le hj (Nat.le_add_right _ _)) hjo]
  exact J_vret hq dX8_init_33 rfl (hk1 hn l37) (by decide) (by decide) ⟨rfl, l37, f36, (At_cons f43 (At_cons f46 (At_cons f47 At_nil))), hfr⟩
def ob5 (n : Nat) : MC := (.inr (5, [.int 0, .int 0, .int 0, .int 0, .int 0, .ref (n + 0), .ref (n + 1)]))
def bk5 (n : Nat) : List MC := (.inl (1, 9, .inl (fun _ => 0))) :: ((.inl (1, 9, .inl (fun _ => 0))) :: ([]))
set_option maxRecDepth 100000 in
theorem bl5 {n : Nat} : (bk5 n).length = 2 := rfl
set_option maxHeartbeats 4000000 in
set_option maxRecDepth 100000 in
theorem c_X5_init {d : Nat} {h : List MC} {o n0 : Nat} (hd : 1 ≤ d) (hn : h.length = n0) (ho : h[o]? = some (.inr (5, [.int 0, .int 0, .int 0, .int 0, .int 0, .null, .null]))) : CT con0 d 2 18 yX5_init cX5_init 1 none [.ref o] h (fun r h2 => r = none ∧ h2.length = n0 + 2 ∧ h2[o]? = some (ob5 n0) ∧ At h2 n0 (bk5 n0) ∧ ∀ j, j < n0 → j ≠ o → h2[j]? = h[j]?) := by
  have hol : o < n0 := by rw [← hn]; exact (List.getElem?_eq_some_iff.mp ho).1
  have hn0 : h.length = n0 + 0 := hn
  refine CT_of (by decide) (Nat.le_of_ble_eq_true rfl) (fun x hq => ?_)
  show J x yX5_init cX5_init 1 none d 2 18 h.length 0 [(0, .ref o)] [] h 0 0
  refine J_aload_n (i := 0) (j := 0) dX5_init_0 rfl rfl ?_
  refine J_obj dX5_init_1 k318 k113 k114 (Nat.le_trans (by decide) hd) (Nat.le_of_ble_eq_true rfl) ?_
  refine J_aload_n (i := 0) (j := 0) dX5_init_4 rfl rfl ?_
  refine J_iconst (v := 0) dX5_init_5 (by decide) ?_
  obtain ⟨h1, e2⟩ : ∃ z, z = h.set (o) (.inr (5, [.int 0, .int 0, .int 0, .int 0, .int 0, .null, .null])) := ⟨_, rfl⟩
  refine J_put (C := RX5) (T := TX5) (Z := 7) (ci := 5) (f := 0) (ty0 := tyX5) dX5_init_6 inG5 rfl tyX5_ok nmX5 (by decide) k319 rfl rfl ho (Nat.le_of_ble_eq_true rfl) (fun _ _ => ⟨rfl, rfl⟩) e2.symm ?_
  have f3 := a_set e2 ho
  have l4 : h1.length = n0 + 0 := l_set e2 hn0
  have r5 := r_set (N := n0 + 0) e2
  refine J_aload_n (i := 0) (j := 0) dX5_init_9 rfl rfl ?_
  refine J_iconst (v := 0) dX5_init_10 (by decide) ?_
  obtain ⟨h6, e7⟩ : ∃ z, z = h1.set (o) (.inr (5, [.int 0, .int 0, .int 0, .int 0, .int 0, .null, .null])) := ⟨_, rfl⟩
  refine J_put (C := RX5) (T := TX5) (Z := 7) (ci := 5) (f := 1) (ty0 := tyX5) dX5_init_11 inG5 rfl tyX5_ok nmX5 (by decide) k320 rfl rfl f3 (Nat.le_of_ble_eq_true rfl) (fun _ _ => ⟨rfl, rfl⟩) e7.symm ?_
  have f8 := a_set e7 f3
  have l9 : h6.length = n0 + 0 := l_set e7 l4
  have r10 := r_set (N := n0 + 0) e7
  refine J_aload_n (i := 0) (j := 0) dX5_init_14 rfl rfl ?_
  refine J_iconst (v := 0) dX5_init_15 (by decide) ?_
  obtain ⟨h11, e12⟩ : ∃ z, z = h6.set (o) (.inr (5, [.int 0, .int 0, .int 0, .int 0, .int 0, .null, .null])) := ⟨_, rfl⟩
  refine J_put (C := RX5) (T := TX5) (Z := 7) (ci := 5) (f := 2) (ty0 := tyX5) dX5_init_16 inG5 rfl tyX5_ok nmX5 (by decide) k324 rfl rfl f8 (Nat.le_of_ble_eq_true rfl) (fun _ _ => ⟨rfl, rfl⟩) e12.symm ?_
  have f13 := a_set e12 f8
  have l14 : h11.length = n0 + 0 := l_set e12 l9
  have r15 := r_set (N := n0 + 0) e12
  refine J_aload_n (i := 0) (j := 0) dX5_init_19 rfl rfl ?_
  refine J_iconst (v := 0) dX5_init_20 (by decide) ?_
  obtain ⟨h16, e17⟩ : ∃ z, z = h11.set (o) (.inr (5, [.int 0, .int 0, .int 0, .int 0, .int 0, .null, .null])) := ⟨_, rfl⟩
  refine J_put (C := RX5) (T := TX5) (Z := 7) (ci := 5) (f := 3) (ty0 := tyX5) dX5_init_21 inG5 rfl tyX5_ok nmX5 (by decide) k326 rfl rfl f13 (Nat.le_of_ble_eq_true rfl) (fun _ _ => ⟨rfl, rfl⟩) e17.symm ?_
  have f18 := a_set e17 f13
  have l19 : h16.length = n0 + 0 := l_set e17 l14
  have r20 := r_set (N := n0 + 0) e17
  refine J_aload_n (i := 0) (j := 0) dX5_init_24 rfl rfl ?_
  refine J_iconst (v := 0) dX5_init_25 (by decide) ?_
  obtain ⟨h21, e22⟩ : ∃ z, z = h16.set (o) (.inr (5, [.int 0, .int 0, .int 0, .int 0, .int 0, .null, .null])) := ⟨_, rfl⟩
  refine J_put (C := RX5) (T := TX5) (Z := 7) (ci := 5) (f := 4) (ty0 := tyX5) dX5_init_26 inG5 rfl tyX5_ok nmX5 (by decide) k327 rfl rfl f18 (Nat.le_of_ble_eq_true rfl) (fun _ _ => ⟨rfl, rfl⟩) e22.symm ?_
  have f23 := a_set e22 f18
  have l24 : h21.length = n0 + 0 := l_set e22 l19
  have r25 := r_set (N := n0 + 0) e22
  refine J_aload_n (i := 0) (j := 0) dX5_init_29 rfl rfl ?_
  refine J_bipush (v := 9) dX5_init_30 (by decide) ?_
  refine J_newa1 (Z := 9) dX5_init_32 ka1 (by decide) (by decide) (by decide) (hk1 hn l24) (by decide) (by decide) ?_
  obtain ⟨h26, e27⟩ : ∃ z, z = h21 ++ [(.inl (1, 9, .inl (fun _ => 0)))] := ⟨_, rfl⟩
  refine J_w e27.symm ?_
  refine J_cr (v := n0 + 0) l24 ?_
  have f28 := a_push e27 l24
  have l29 : h26.length = n0 + 1 := l_push e27 l24 rfl
  have r30 := r_push (a := n0 + 0) e27 l24
  have f31 := (r30 (o) (Nat.lt_of_lt_of_le hol (Nat.le_add_right _ _)) (Nat.ne_of_lt (Nat.lt_of_lt_of_le hol (Nat.le_add_right _ _)))).trans f23
  obtain ⟨h32, e33⟩ : ∃ z, z = h26.set (o) (.inr (5, [.int 0, .int 0, .int 0, .int 0, .int 0, .ref (n0 + 0), .null])) := ⟨_, rfl⟩
  refine J_putF (C := RX5) (T := TX5) (Z := 7) (ci := 5) (f := 5) (ty0 := tyX5) dX5_init_34 inG5 rfl tyX5_ok nmX5 (by decide) k329 rfl rfl rfl rfl f31 (Nat.le_of_ble_eq_true rfl) (fun _ _ => ⟨rfl, rfl⟩) e33.symm ?_
  have f34 := a_set e33 f31
  have l35 : h32.length = n0 + 1 := l_set e33 l29
  have r36 := r_set (N := n0 + 1) e33
  refine J_aload_n (i := 0) (j := 0) dX5_init_37 rfl rfl ?_
  refine J_bipush (v := 9) dX5_init_38 (by decide) ?_
  refine J_newa1 (Z := 9) dX5_init_40 ka1 (by decide) (by decide) (by decide) (hk1 hn l35) (by decide) (by decide) ?_
  obtain ⟨h37, e38⟩ : ∃ z, z = h32 ++ [(.inl (1, 9, .inl (fun _ => 0)))] := ⟨_, rfl⟩
  refine J_w e38.symm ?_
  refine J_cr (v := n0 + 1) l35 ?_
  have f39 := a_push e38 l35
  have l40 : h37.length = n0 + 2 := l_push e38 l35 rfl
  have r41 := r_push (a := n0 + 1) e38 l35
  have f42 := (r41 (o) (Nat.lt_of_lt_of_le hol (Nat.le_add_right _ _)) (Nat.ne_of_lt (Nat.lt_of_lt_of_le hol (Nat.le_add_right _ _)))).trans f34
  obtain ⟨h43, e44⟩ : ∃ z, z = h37.set (o) (.inr (5, [.int 0, .int 0, .int 0, .int 0, .int 0, .ref (n0 + 0), .ref (n0 + 1)])) := ⟨_, rfl⟩
  refine J_putF (C := RX5) (T := TX5) (Z := 7) (ci := 5) (f := 6) (ty0 := tyX5) dX5_init_42 inG5 rfl tyX5_ok nmX5 (by decide) k330 rfl rfl rfl rfl f42 (Nat.le_of_ble_eq_true rfl) (fun _ _ => ⟨rfl, rfl⟩) e44.symm ?_
  have f45 := a_set e44 f42
  have l46 : h43.length = n0 + 2 := l_set e44 l40
  have r47 := r_set (N := n0 + 2) e44
  have f48 := (r36 (n0 + 0) (Nat.add_lt_add_left (by decide) n0) (Nat.ne_of_gt (Nat.lt_of_lt_of_le hol (Nat.le_add_right _ _)))).trans f28
  have f49 := (r41 (n0 + 0) (Nat.add_lt_add_left (by decide) n0) (fun q => absurd (Nat.add_left_cancel q) (by decide))).trans f48
  have f50 := (r47 (n0 + 0) (Nat.add_lt_add_left (by decide) n0) (Nat.ne_of_gt (Nat.lt_of_lt_of_le hol (Nat.le_add_right _ _)))).trans f49
  have f51 := (r47 (n0 + 1) (Nat.add_lt_add_left (by decide) n0) (Nat.ne_of_gt (Nat.lt_of_lt_of_le hol (Nat.le_add_right _ _)))).trans f39
  have hfr : ∀ j, j < n0 → j ≠ o → h43[j]? = h[j]? := by
    intro j hj hjo
    rw [r47 j (Nat.lt_of_lt_of_le hj (Nat.le_add_right _ _)) hjo, r41 j (Nat.lt_of_lt_of_le hj (Nat.le_add_right _ _)) (Nat.ne_of_lt (Nat.lt_of_lt_of_le hj (Nat.le_add_right _ _))), r36 j (Nat.lt_of_lt_of_le hj (Nat.le_add_right _ _)) hjo, r30 j (Nat.lt_of_lt_of_le hj (Nat.le_add_right _ _)) (Nat.ne_of_lt (Nat.lt_of_lt_of_le hj (Nat.le_add_right _ _))), r25 j (Nat.lt_of_lt_of_le hj (Nat.le_add_right _ _)) hjo, r20 j (Nat.lt_of_lt_of_le hj (Nat.le_add_right _ _)) hjo, r15 j (Nat.lt_of_lt_of_le hj (Nat.le_add_right _ _)) hjo, r10 j (Nat.lt_of_lt_of_le hj (Nat.le_add_right _ _)) hjo, r5 j (Nat.lt_of_lt_of_le hj (Nat.le_add_right _ _)) hjo]
  exact J_vret hq dX5_init_45 rfl (hk1 hn l46) (by decide) (by decide) ⟨rfl, l46, f45, (At_cons f50 (At_cons f51 At_nil)), hfr⟩
def ob6 (n : Nat) : MC := (.inr (6, [.ref (n + 0), .int 0, .int 0, .int 0, .int 0, .int 0]))
def bk6 (n : Nat) : List MC := (.inl (0, 0, .inl (fun _ => 0))) :: ([])
set_option maxRecDepth 100000 in
theorem bl6 {n : Nat} : (bk6 n).length = 1 := rfl
set_option maxHeartbeats 4000000 in
set_option maxRecDepth 100000 in
theorem c_X6_init {d : Nat} {h : List MC} {o n0 : Nat} (hd : 1 ≤ d) (hn : h.length = n0) (ho : h[o]? = some (.inr (6, [.null, .int 0, .int 0, .int 0, .int 0, .int 0]))) : CT con0 d 1 0 yX6_init cX6_init 1 none [.ref o] h (fun r h2 => r = none ∧ h2.length = n0 + 1 ∧ h2[o]? = some (ob6 n0) ∧ At h2 n0 (bk6 n0) ∧ ∀ j, j < n0 → j ≠ o → h2[j]? = h[j]?) := by
  have hol : o < n0 := by rw [← hn]; exact (List.getElem?_eq_some_iff.mp ho).1
  have hn0 : h.length = n0 + 0 := hn
  refine CT_of (by decide) (Nat.le_of_ble_eq_true rfl) (fun x hq => ?_)
  show J x yX6_init cX6_init 1 none d 1 0 h.length 0 [(0, .ref o)] [] h 0 0
  refine J_aload_n (i := 0) (j := 0) dX6_init_0 rfl rfl ?_
  refine J_obj dX6_init_1 k231 k113 k114 (Nat.le_trans (by decide) hd) (Nat.le_of_ble_eq_true rfl) ?_
  refine J_aload_n (i := 0) (j := 0) dX6_init_4 rfl rfl ?_
  refine J_iconst (v := 0) dX6_init_5 (by decide) ?_
  refine J_newa0 (Z := 0) dX6_init_6 ka0 (by decide) (by decide) (by decide) (hk1 hn hn0) (by decide) (by decide) ?_
  obtain ⟨h1, e2⟩ : ∃ z, z = h ++ [(.inl (0, 0, .inl (fun _ => 0)))] := ⟨_, rfl⟩
  refine J_w e2.symm ?_
  refine J_cr (v := n0 + 0) hn0 ?_
  have f3 := a_push e2 hn0
  have l4 : h1.length = n0 + 1 := l_push e2 hn0 rfl
  have r5 := r_push (a := n0 + 0) e2 hn0
  have f6 := (r5 (o) (Nat.lt_of_lt_of_le hol (Nat.le_add_right _ _)) (Nat.ne_of_lt (Nat.lt_of_lt_of_le hol (Nat.le_add_right _ _)))).trans ho
  obtain ⟨h7, e8⟩ : ∃ z, z = h1.set (o) (.inr (6, [.ref (n0 + 0), .int 0, .int 0, .int 0, .int 0, .int 0])) := ⟨_, rfl⟩
  refine J_put (C := RX6) (T := TX6) (Z := 6) (ci := 6) (f := 0) (ty0 := tyX6) dX6_init_8 inG6 rfl tyX6_ok nmX6 (by decide) k232 rfl rfl f6 (Nat.le_of_ble_eq_true rfl) (fun _ _ => ⟨rfl, rfl⟩) e8.symm ?_
  have f9 := a_set e8 f6
  have l10 : h7.length = n0 + 1 := l_set e8 l4
  have r11 := r_set (N := n0 + 1) e8
  refine J_aload_n (i := 0) (j := 0) dX6_init_11 rfl rfl ?_
  refine J_iconst (v := 0) dX6_init_12 (by decide) ?_
  obtain ⟨h12, e13⟩ : ∃ z, z = h7.set (o) (.inr (6, [.ref (n0 + 0), .int 0, .int 0, .int 0, .int 0, .int 0])) := ⟨_, rfl⟩
  refine J_put (C := RX6) (T := TX6) (Z := 6) (ci := 6) (f := 1) (ty0 := tyX6) dX6_init_13 inG6 rfl tyX6_ok nmX6 (by decide) k233 rfl rfl f9 (Nat.le_of_ble_eq_true rfl) (fun _ _ => ⟨rfl, rfl⟩) e13.symm ?_
  have f14 := a_set e13 f9
  have l15 : h12.length = n0 + 1 := l_set e13 l10
  have r16 := r_set (N := n0 + 1) e13
  refine J_aload_n (i := 0) (j := 0) dX6_init_16 rfl rfl ?_
  refine J_iconst (v := 0) dX6_init_17 (by decide) ?_
  obtain ⟨h17, e18⟩ : ∃ z, z = h12.set (o) (.inr (6, [.ref (n0 + 0), .int 0, .int 0, .int 0, .int 0, .int 0])) := ⟨_, rfl⟩
  refine J_put (C := RX6) (T := TX6) (Z := 6) (ci := 6) (f := 2) (ty0 := tyX6) dX6_init_18 inG6 rfl tyX6_ok nmX6 (by decide) k235 rfl rfl f14 (Nat.le_of_ble_eq_true rfl) (fun _ _ => ⟨rfl, rfl⟩) e18.symm ?_
  have f19 := a_set e18 f14
  have l20 : h17.length = n0 + 1 := l_set e18 l15
  have r21 := r_set (N := n0 + 1) e18
  refine J_aload_n (i := 0) (j := 0) dX6_init_21 rfl rfl ?_
  refine J_iconst (v := 0) dX6_init_22 (by decide) ?_
  obtain ⟨h22, e23⟩ : ∃ z, z = h17.set (o) (.inr (6, [.ref (n0 + 0), .int 0, .int 0, .int 0, .int 0, .int 0])) := ⟨_, rfl⟩
  refine J_put (C := RX6) (T := TX6) (Z := 6) (ci := 6) (f := 3) (ty0 := tyX6) dX6_init_23 inG6 rfl tyX6_ok nmX6 (by decide) k236 rfl rfl f19 (Nat.le_of_ble_eq_true rfl) (fun _ _ => ⟨rfl, rfl⟩) e23.symm ?_
  have f24 := a_set e23 f19
  have l25 : h22.length = n0 + 1 := l_set e23 l20
  have r26 := r_set (N := n0 + 1) e23
  refine J_aload_n (i := 0) (j := 0) dX6_init_26 rfl rfl ?_
  refine J_iconst (v := 0) dX6_init_27 (by decide) ?_
  obtain ⟨h27, e28⟩ : ∃ z, z = h22.set (o) (.inr (6, [.ref (n0 + 0), .int 0, .int 0, .int 0, .int 0, .int 0])) := ⟨_, rfl⟩
  refine J_put (C := RX6) (T := TX6) (Z := 6) (ci := 6) (f := 4) (ty0 := tyX6) dX6_init_28 inG6 rfl tyX6_ok nmX6 (by decide) k238 rfl rfl f24 (Nat.le_of_ble_eq_true rfl) (fun _ _ => ⟨rfl, rfl⟩) e28.symm ?_
  have f29 := a_set e28 f24
  have l30 : h27.length = n0 + 1 := l_set e28 l25
  have r31 := r_set (N := n0 + 1) e28
  refine J_aload_n (i := 0) (j := 0) dX6_init_31 rfl rfl ?_
  refine J_iconst (v := 0) dX6_init_32 (by decide) ?_
  obtain ⟨h32, e33⟩ : ∃ z, z = h27.set (o) (.inr (6, [.ref (n0 + 0), .int 0, .int 0, .int 0, .int 0, .int 0])) := ⟨_, rfl⟩
  refine J_put (C := RX6) (T := TX6) (Z := 6) (ci := 6) (f := 5) (ty0 := tyX6) dX6_init_33 inG6 rfl tyX6_ok nmX6 (by decide) k240 rfl rfl f29 (Nat.le_of_ble_eq_true rfl) (fun _ _ => ⟨rfl, rfl⟩) e33.symm ?_
  have f34 := a_set e33 f29
  have l35 : h32.length = n0 + 1 := l_set e33 l30
  have r36 := r_set (N := n0 + 1) e33
  have f37 := (r11 (n0 + 0) (Nat.add_lt_add_left (by decide) n0) (Nat.ne_of_gt (Nat.lt_of_lt_of_le hol (Nat.le_add_right _ _)))).trans f3
  have f38 := (r16 (n0 + 0) (Nat.add_lt_add_left (by decide) n0) (Nat.ne_of_gt (Nat.lt_of_lt_of_le hol (Nat.le_add_right _ _)))).trans f37
  have f39 := (r21 (n0 + 0) (Nat.add_lt_add_left (by decide) n0) (Nat.ne_of_gt (Nat.lt_of_lt_of_le hol (Nat.le_add_right _ _)))).trans f38
  have f40 := (r26 (n0 + 0) (Nat.add_lt_add_left (by decide) n0) (Nat.ne_of_gt (Nat.lt_of_lt_of_le hol (Nat.le_add_right _ _)))).trans f39
  have f41 := (r31 (n0 + 0) (Nat.add_lt_add_left (by decide) n0) (Nat.ne_of_gt (Nat.lt_of_lt_of_le hol (Nat.le_add_right _ _)))).trans f40
  have f42 := (r36 (n0 + 0) (Nat.add_lt_add_left (by decide) n0) (Nat.ne_of_gt (Nat.lt_of_lt_of_le hol (Nat.le_add_right _ _)))).trans f41
  have hfr : ∀ j, j < n0 → j ≠ o → h32[j]? = h[j]? := by
    intro j hj hjo
    rw [r36 j (Nat.lt_of_lt_of_le hj (Nat.le_add_right _ _)) hjo, r31 j (Nat.lt_of_lt_of_le hj (Nat.le_add_right _ _)) hjo, r26 j (Nat.lt_of_lt_of_le hj (Nat.le_add_right _ _)) hjo, r21 j (Nat.lt_of_lt_of_le hj (Nat.le_add_right _ _)) hjo, r16 j (Nat.lt_of_lt_of_le hj (Nat.le_add_right _ _)) hjo, r11 j (Nat.lt_of_lt_of_le hj (Nat.le_add_right _ _)) hjo, r5 j (Nat.lt_of_lt_of_le hj (Nat.le_add_right _ _)) (Nat.ne_of_lt (Nat.lt_of_lt_of_le hj (Nat.le_add_right _ _)))]
  exact J_vret hq dX6_init_36 rfl (hk1 hn l35) (by decide) (by decide) ⟨rfl, l35, f34, (At_cons f42 At_nil), hfr⟩
def ob7 (n : Nat) : MC := (.inr (7, [.ref (n + 0), .int 0, .int 0, .int (-1), .ref (n + 1), .int 0, .ref (n + 2), .int 0]))
def bk7 (n : Nat) : List MC := (.inl (0, 600, .inl (fun _ => 0))) :: ((.inl (4, 2, .inr (.inr (va_up (va_up (fun _ => none) ((0 : Int32).toNatClampNeg) (some (n + 3))) ((1 : Int32).toNatClampNeg) (some (n + 8)))))) :: ((.inl (6, 3, .inr (.inr (va_up (va_up (va_up (fun _ => none) ((0 : Int32).toNatClampNeg) (some (n + 13))) ((1 : Int32).toNatClampNeg) (some (n + 17))) ((2 : Int32).toNatClampNeg) (some (n + 21)))))) :: (ob1 (n + 4) :: (bk1 (n + 4) ++ (ob1 (n + 9) :: (bk1 (n + 9) ++ (ob8 (n + 14) :: (bk8 (n + 14) ++ (ob8 (n + 18) :: (bk8 (n + 18) ++ (ob8 (n + 22) :: (bk8 (n + 22) ++ ([])))))))))))))
set_option maxRecDepth 100000 in
theorem bl7 {n : Nat} : (bk7 n).length = 25 := rfl
set_option maxHeartbeats 4000000 in
set_option maxRecDepth 100000 in
theorem c_X7_init {d : Nat} {h : List MC} {o n0 : Nat} (hd : 2 ≤ d) (hn : h.length = n0) (ho : h[o]? = some (.inr (7, [.null, .int 0, .int 0, .int 0, .null, .int 0, .null, .int 0]))) : CT con0 d 25 1047 yX7_init cX7_init 2 none [.ref o] h (fun r h2 => r = none ∧ h2.length = n0 + 25 ∧ h2[o]? = some (ob7 n0) ∧ At h2 n0 (bk7 n0) ∧ ∀ j, j < n0 → j ≠ o → h2[j]? = h[j]?) := by
  have hol : o < n0 := by rw [← hn]; exact (List.getElem?_eq_some_iff.mp ho).1
  have hn0 : h.length = n0 + 0 := hn
  refine CT_of (by decide) (Nat.le_of_ble_eq_true rfl) (fun x hq => ?_)
  show J x yX7_init cX7_init 2 none d 25 1047 h.length 0 [(0, .ref o)] [] h 0 0
  refine J_aload_n (i := 0) (j := 0) dX7_init_0 rfl rfl ?_
  refine J_obj dX7_init_1 k120 k113 k114 (Nat.le_trans (by decide) hd) (Nat.le_of_ble_eq_true rfl) ?_
  refine J_aload_n (i := 0) (j := 0) dX7_init_4 rfl rfl ?_
  refine J_sipush (v := 600) dX7_init_5 (by decide) ?_
  refine J_newa0 (Z := 600) dX7_init_8 ka0 (by decide) (by decide) (by decide) (hk1 hn hn0) (by decide) (by decide) ?_
  obtain ⟨h1, e2⟩ : ∃ z, z = h ++ [(.inl (0, 600, .inl (fun _ => 0)))] := ⟨_, rfl⟩
  refine J_w e2.symm ?_
  refine J_cr (v := n0 + 0) hn0 ?_
  have f3 := a_push e2 hn0
  have l4 : h1.length = n0 + 1 := l_push e2 hn0 rfl
  have r5 := r_push (a := n0 + 0) e2 hn0
  have f6 := (r5 (o) (Nat.lt_of_lt_of_le hol (Nat.le_add_right _ _)) (Nat.ne_of_lt (Nat.lt_of_lt_of_le hol (Nat.le_add_right _ _)))).trans ho
  obtain ⟨h7, e8⟩ : ∃ z, z = h1.set (o) (.inr (7, [.ref (n0 + 0), .int 0, .int 0, .int 0, .null, .int 0, .null, .int 0])) := ⟨_, rfl⟩
  refine J_putF (C := RX7) (T := TX7) (Z := 8) (ci := 7) (f := 0) (ty0 := tyX7) dX7_init_10 inG7 rfl tyX7_ok nmX7 (by decide) k186 rfl rfl rfl rfl f6 (Nat.le_of_ble_eq_true rfl) (fun _ _ => ⟨rfl, rfl⟩) e8.symm ?_
  have f9 := a_set e8 f6
  have l10 : h7.length = n0 + 1 := l_set e8 l4
  have r11 := r_set (N := n0 + 1) e8
  refine J_aload_n (i := 0) (j := 0) dX7_init_13 rfl rfl ?_
  refine J_iconst (v := 0) dX7_init_14 (by decide) ?_
  obtain ⟨h12, e13⟩ : ∃ z, z = h7.set (o) (.inr (7, [.ref (n0 + 0), .int 0, .int 0, .int 0, .null, .int 0, .null, .int 0])) := ⟨_, rfl⟩
  refine J_put (C := RX7) (T := TX7) (Z := 8) (ci := 7) (f := 1) (ty0 := tyX7) dX7_init_15 inG7 rfl tyX7_ok nmX7 (by decide) k188 rfl rfl f9 (Nat.le_of_ble_eq_true rfl) (fun _ _ => ⟨rfl, rfl⟩) e13.symm ?_
  have f14 := a_set e13 f9
  have l15 : h12.length = n0 + 1 := l_set e13 l10
  have r16 := r_set (N := n0 + 1) e13
  refine J_aload_n (i := 0) (j := 0) dX7_init_18 rfl rfl ?_
  refine J_iconst (v := 0) dX7_init_19 (by decide) ?_
  obtain ⟨h17, e18⟩ : ∃ z, z = h12.set (o) (.inr (7, [.ref (n0 + 0), .int 0, .int 0, .int 0, .null, .int 0, .null, .int 0])) := ⟨_, rfl⟩
  refine J_put (C := RX7) (T := TX7) (Z := 8) (ci := 7) (f := 2) (ty0 := tyX7) dX7_init_20 inG7 rfl tyX7_ok nmX7 (by decide) k190 rfl rfl f14 (Nat.le_of_ble_eq_true rfl) (fun _ _ => ⟨rfl, rfl⟩) e18.symm ?_
  have f19 := a_set e18 f14
  have l20 : h17.length = n0 + 1 := l_set e18 l15
  have r21 := r_set (N := n0 + 1) e18
  refine J_aload_n (i := 0) (j := 0) dX7_init_23 rfl rfl ?_
  refine J_iconst (v := (-1)) dX7_init_24 (by decide) ?_
  obtain ⟨h22, e23⟩ : ∃ z, z = h17.set (o) (.inr (7, [.ref (n0 + 0), .int 0, .int 0, .int (-1), .null, .int 0, .null, .int 0])) := ⟨_, rfl⟩
  refine J_put (C := RX7) (T := TX7) (Z := 8) (ci := 7) (f := 3) (ty0 := tyX7) dX7_init_25 inG7 rfl tyX7_ok nmX7 (by decide) k192 rfl rfl f19 (Nat.le_of_ble_eq_true rfl) (fun _ _ => ⟨rfl, rfl⟩) e23.symm ?_
  have f24 := a_set e23 f19
  have l25 : h22.length = n0 + 1 := l_set e23 l20
  have r26 := r_set (N := n0 + 1) e23
  refine J_aload_n (i := 0) (j := 0) dX7_init_28 rfl rfl ?_
  refine J_iconst (v := 2) dX7_init_29 (by decide) ?_
  refine J_newq (t := 4) (Z := 2) dX7_init_30 k121 ko4 (fun _ => rfl) (by decide) (by decide) (by decide) (hk1 hn l25) (by decide) (by decide) ?_
  obtain ⟨h27, e28⟩ : ∃ z, z = h22 ++ [(.inl (4, 2, .inr (.inr (fun _ => none))))] := ⟨_, rfl⟩
  refine J_w e28.symm ?_
  refine J_cr (v := n0 + 1) l25 ?_
  have f29 := a_push e28 l25
  have l30 : h27.length = n0 + 2 := l_push e28 l25 rfl
  have r31 := r_push (a := n0 + 1) e28 l25
  have f32 := (r31 (o) (Nat.lt_of_lt_of_le hol (Nat.le_add_right _ _)) (Nat.ne_of_lt (Nat.lt_of_lt_of_le hol (Nat.le_add_right _ _)))).trans f24
  obtain ⟨h33, e34⟩ : ∃ z, z = h27.set (o) (.inr (7, [.ref (n0 + 0), .int 0, .int 0, .int (-1), .ref (n0 + 1), .int 0, .null, .int 0])) := ⟨_, rfl⟩
  refine J_putF (C := RX7) (T := TX7) (Z := 8) (ci := 7) (f := 4) (ty0 := tyX7) dX7_init_33 inG7 rfl tyX7_ok nmX7 (by decide) k194 rfl rfl rfl rfl f32 (Nat.le_of_ble_eq_true rfl) (fun _ _ => ⟨rfl, rfl⟩) e34.symm ?_
  have f35 := a_set e34 f32
  have l36 : h33.length = n0 + 2 := l_set e34 l30
  have r37 := r_set (N := n0 + 2) e34
  refine J_aload_n (i := 0) (j := 0) dX7_init_36 rfl rfl ?_
  refine J_iconst (v := 0) dX7_init_37 (by decide) ?_
  obtain ⟨h38, e39⟩ : ∃ z, z = h33.set (o) (.inr (7, [.ref (n0 + 0), .int 0, .int 0, .int (-1), .ref (n0 + 1), .int 0, .null, .int 0])) := ⟨_, rfl⟩
  refine J_put (C := RX7) (T := TX7) (Z := 8) (ci := 7) (f := 5) (ty0 := tyX7) dX7_init_38 inG7 rfl tyX7_ok nmX7 (by decide) k196 rfl rfl f35 (Nat.le_of_ble_eq_true rfl) (fun _ _ => ⟨rfl, rfl⟩) e39.symm ?_
  have f40 := a_set e39 f35
  have l41 : h38.length = n0 + 2 := l_set e39 l36
  have r42 := r_set (N := n0 + 2) e39
  refine J_aload_n (i := 0) (j := 0) dX7_init_41 rfl rfl ?_
  refine J_iconst (v := 3) dX7_init_42 (by decide) ?_
  refine J_newq (t := 6) (Z := 3) dX7_init_43 k123 ko6 (fun _ => rfl) (by decide) (by decide) (by decide) (hk1 hn l41) (by decide) (by decide) ?_
  obtain ⟨h43, e44⟩ : ∃ z, z = h38 ++ [(.inl (6, 3, .inr (.inr (fun _ => none))))] := ⟨_, rfl⟩
  refine J_w e44.symm ?_
  refine J_cr (v := n0 + 2) l41 ?_
  have f45 := a_push e44 l41
  have l46 : h43.length = n0 + 3 := l_push e44 l41 rfl
  have r47 := r_push (a := n0 + 2) e44 l41
  have f48 := (r47 (o) (Nat.lt_of_lt_of_le hol (Nat.le_add_right _ _)) (Nat.ne_of_lt (Nat.lt_of_lt_of_le hol (Nat.le_add_right _ _)))).trans f40
  obtain ⟨h49, e50⟩ : ∃ z, z = h43.set (o) (.inr (7, [.ref (n0 + 0), .int 0, .int 0, .int (-1), .ref (n0 + 1), .int 0, .ref (n0 + 2), .int 0])) := ⟨_, rfl⟩
  refine J_putF (C := RX7) (T := TX7) (Z := 8) (ci := 7) (f := 6) (ty0 := tyX7) dX7_init_46 inG7 rfl tyX7_ok nmX7 (by decide) k198 rfl rfl rfl rfl f48 (Nat.le_of_ble_eq_true rfl) (fun _ _ => ⟨rfl, rfl⟩) e50.symm ?_
  have f51 := a_set e50 f48
  have l52 : h49.length = n0 + 3 := l_set e50 l46
  have r53 := r_set (N := n0 + 3) e50
  refine J_aload_n (i := 0) (j := 0) dX7_init_49 rfl rfl ?_
  refine J_iconst (v := 0) dX7_init_50 (by decide) ?_
  obtain ⟨h54, e55⟩ : ∃ z, z = h49.set (o) (.inr (7, [.ref (n0 + 0), .int 0, .int 0, .int (-1), .ref (n0 + 1), .int 0, .ref (n0 + 2), .int 0])) := ⟨_, rfl⟩
  refine J_put (C := RX7) (T := TX7) (Z := 8) (ci := 7) (f := 7) (ty0 := tyX7) dX7_init_51 inG7 rfl tyX7_ok nmX7 (by decide) k200 rfl rfl f51 (Nat.le_of_ble_eq_true rfl) (fun _ _ => ⟨rfl, rfl⟩) e55.symm ?_
  have f56 := a_set e55 f51
  have l57 : h54.length = n0 + 3 := l_set e55 l52
  have r58 := r_set (N := n0 + 3) e55
  refine J_iconst (v := 0) dX7_init_54 (by decide) ?_
  refine J_istore_n (i := 1) (lw := [(1, .int 0), (0, .ref o)]) dX7_init_55 rfl (by decide) rfl ?_
  refine J_iload_n (i := 1) (j := 0) dX7_init_56 rfl rfl ?_
  refine J_iconst (v := 2) dX7_init_57 (by decide) ?_
  refine J_icmp_ge (tgt := 80) dX7_init_58 (by decide) (fun q => absurd q (by decide)) (fun _ => ?_)
  refine J_aload_n (i := 0) (j := 1) dX7_init_61 rfl rfl ?_
  refine J_get (C := RX7) (T := TX7) (Z := 8) (ci := 7) (f := 4) dX7_init_62 inG7 rfl (by decide) k194 f56 rfl ?_
  refine J_iload_n (i := 1) (j := 0) dX7_init_65 rfl rfl ?_
  refine J_new (C := RX1) (T := TX1) (Z := 6) (ci := 1) (fs := [.int 0, .null, .int 0, .null, .null, .null]) (ty0 := tyX1) dX7_init_66 inG1 rfl tyX1_ok k121 k125 k89 fsX1 (hk1 hn l57) (by decide) (by decide) ?_
  obtain ⟨h59, e60⟩ : ∃ z, z = h54 ++ [(.inr (1, [.int 0, .null, .int 0, .null, .null, .null]))] := ⟨_, rfl⟩
  refine J_w e60.symm ?_
  refine J_cr (v := n0 + 3) l57 ?_
  have f61 := a_push e60 l57
  have l62 : h59.length = n0 + 4 := l_push e60 l57 rfl
  have r63 := r_push (a := n0 + 3) e60 l57
  refine J_dup dX7_init_69 rfl ?_
  refine J_callIN (As := []) (rest := [.ref (n0 + 3), .int 0, .ref (n0 + 1)]) dX7_init_70 (c_X1_init (d := 1) (h := h59) (o := n0 + 3) (n0 := n0 + 4) (by decide) l62 f61) hq.n k126 k127 rfl rfl k89 k128 np_X1_init (Nat.le_trans (by decide) hd) (by decide) (by decide) (by decide) (hk1 hn l62) rfl (Nat.le_of_ble_eq_true rfl) (fun r64 h65 p66 => ?_)
  obtain ⟨rfl, l67, f68, b69, r70⟩ := p66
  have l71 : h65.length = n0 + 8 := l67
  have f72 := (r37 (n0 + 1) (Nat.add_lt_add_left (by decide) n0) (Nat.ne_of_gt (Nat.lt_of_lt_of_le hol (Nat.le_add_right _ _)))).trans f29
  have f73 := (r42 (n0 + 1) (Nat.add_lt_add_left (by decide) n0) (Nat.ne_of_gt (Nat.lt_of_lt_of_le hol (Nat.le_add_right _ _)))).trans f72
  have f74 := (r47 (n0 + 1) (Nat.add_lt_add_left (by decide) n0) (fun q => absurd (Nat.add_left_cancel q) (by decide))).trans f73
  have f75 := (r53 (n0 + 1) (Nat.add_lt_add_left (by decide) n0) (Nat.ne_of_gt (Nat.lt_of_lt_of_le hol (Nat.le_add_right _ _)))).trans f74
  have f76 := (r58 (n0 + 1) (Nat.add_lt_add_left (by decide) n0) (Nat.ne_of_gt (Nat.lt_of_lt_of_le hol (Nat.le_add_right _ _)))).trans f75
  have f77 := (r63 (n0 + 1) (Nat.add_lt_add_left (by decide) n0) (fun q => absurd (Nat.add_left_cancel q) (by decide))).trans f76
  have f78 := (r70 (n0 + 1) (Nat.add_lt_add_left (by decide) n0) (fun q => absurd (Nat.add_left_cancel q) (by decide))).trans f77
  obtain ⟨h79, e80⟩ : ∃ z, z = h65.set (n0 + 1) (.inl (4, 2, .inr (.inr (va_up (fun _ => none) ((0 : Int32).toNatClampNeg) (some (n0 + 3)))))) := ⟨_, rfl⟩
  refine J_aast (r := (RX1, TX1, 6)) dX7_init_73 f78 (fun _ => rfl) f68 rfl (vp_c (by decide)) e80.symm ?_
  have f81 := a_set e80 f78
  have l82 : h79.length = n0 + 8 := l_set e80 l71
  have r83 := r_set (N := n0 + 8) e80
  refine J_iinc (i := 1) (j := 0) (v := 1) (lw := [(1, .int 1), (0, .ref o)]) dX7_init_74 rfl (by decide) (by decide) rfl ?_
  refine J_goto (tgt := 56) dX7_init_77 (by decide) ?_
  refine J_iload_n (i := 1) (j := 0) dX7_init_56 rfl rfl ?_
  refine J_iconst (v := 2) dX7_init_57 (by decide) ?_
  refine J_icmp_ge (tgt := 80) dX7_init_58 (by decide) (fun q => absurd q (by decide)) (fun _ => ?_)
  refine J_aload_n (i := 0) (j := 1) dX7_init_61 rfl rfl ?_
  have f84 := (r63 (o) (Nat.lt_of_lt_of_le hol (Nat.le_add_right _ _)) (Nat.ne_of_lt (Nat.lt_of_lt_of_le hol (Nat.le_add_right _ _)))).trans f56
  have f85 := (r70 (o) (Nat.lt_of_lt_of_le hol (Nat.le_add_right _ _)) (Nat.ne_of_lt (Nat.lt_of_lt_of_le hol (Nat.le_add_right _ _)))).trans f84
  have f86 := (r83 (o) (Nat.lt_of_lt_of_le hol (Nat.le_add_right _ _)) (Nat.ne_of_lt (Nat.lt_of_lt_of_le hol (Nat.le_add_right _ _)))).trans f85
  refine J_get (C := RX7) (T := TX7) (Z := 8) (ci := 7) (f := 4) dX7_init_62 inG7 rfl (by decide) k194 f86 rfl ?_
  refine J_iload_n (i := 1) (j := 0) dX7_init_65 rfl rfl ?_
  refine J_new (C := RX1) (T := TX1) (Z := 6) (ci := 1) (fs := [.int 0, .null, .int 0, .null, .null, .null]) (ty0 := tyX1) dX7_init_66 inG1 rfl tyX1_ok k121 k125 k89 fsX1 (hk1 hn l82) (by decide) (by decide) ?_
  obtain ⟨h87, e88⟩ : ∃ z, z = h79 ++ [(.inr (1, [.int 0, .null, .int 0, .null, .null, .null]))] := ⟨_, rfl⟩
  refine J_w e88.symm ?_
  refine J_cr (v := n0 + 8) l82 ?_
  have f89 := a_push e88 l82
  have l90 : h87.length = n0 + 9 := l_push e88 l82 rfl
  have r91 := r_push (a := n0 + 8) e88 l82
  refine J_dup dX7_init_69 rfl ?_
  refine J_callIN (As := []) (rest := [.ref (n0 + 8), .int 1, .ref (n0 + 1)]) dX7_init_70 (c_X1_init (d := 1) (h := h87) (o := n0 + 8) (n0 := n0 + 9) (by decide) l90 f89) hq.n k126 k127 rfl rfl k89 k128 np_X1_init (Nat.le_trans (by decide) hd) (by decide) (by decide) (by decide) (hk1 hn l90) rfl (Nat.le_of_ble_eq_true rfl) (fun r92 h93 p94 => ?_)
  obtain ⟨rfl, l95, f96, b97, r98⟩ := p94
  have l99 : h93.length = n0 + 13 := l95
  have f100 := (r91 (n0 + 1) (Nat.add_lt_add_left (by decide) n0) (fun q => absurd (Nat.add_left_cancel q) (by decide))).trans f81
  have f101 := (r98 (n0 + 1) (Nat.add_lt_add_left (by decide) n0) (fun q => absurd (Nat.add_left_cancel q) (by decide))).trans f100
  obtain ⟨h102, e103⟩ : ∃ z, z = h93.set (n0 + 1) (.inl (4, 2, .inr (.inr (va_up (va_up (fun _ => none) ((0 : Int32).toNatClampNeg) (some (n0 + 3))) ((1 : Int32).toNatClampNeg) (some (n0 + 8)))))) := ⟨_, rfl⟩
  refine J_aast (r := (RX1, TX1, 6)) dX7_init_73 f101 (fun _ => rfl) f96 rfl (vp_c (by decide)) e103.symm ?_
  have f104 := a_set e103 f101
  have l105 : h102.length = n0 + 13 := l_set e103 l99
  have r106 := r_set (N := n0 + 13) e103
  refine J_iinc (i := 1) (j := 0) (v := 2) (lw := [(1, .int 2), (0, .ref o)]) dX7_init_74 rfl (by decide) (by decide) rfl ?_
  refine J_goto (tgt := 56) dX7_init_77 (by decide) ?_
  refine J_iload_n (i := 1) (j := 0) dX7_init_56 rfl rfl ?_
  refine J_iconst (v := 2) dX7_init_57 (by decide) ?_
  refine J_icmp_ge (tgt := 80) dX7_init_58 (by decide) (fun _ => ?_) (fun q => absurd (by decide) q)
  refine J_iconst (v := 0) dX7_init_80 (by decide) ?_
  refine J_istore_n (i := 1) (lw := [(1, .int 0), (0, .ref o)]) dX7_init_81 rfl (by decide) rfl ?_
  refine J_iload_n (i := 1) (j := 0) dX7_init_82 rfl rfl ?_
  refine J_iconst (v := 3) dX7_init_83 (by decide) ?_
  refine J_icmp_ge (tgt := 106) dX7_init_84 (by decide) (fun q => absurd q (by decide)) (fun _ => ?_)
  refine J_aload_n (i := 0) (j := 1) dX7_init_87 rfl rfl ?_
  have f107 := (r91 (o) (Nat.lt_of_lt_of_le hol (Nat.le_add_right _ _)) (Nat.ne_of_lt (Nat.lt_of_lt_of_le hol (Nat.le_add_right _ _)))).trans f86
  have f108 := (r98 (o) (Nat.lt_of_lt_of_le hol (Nat.le_add_right _ _)) (Nat.ne_of_lt (Nat.lt_of_lt_of_le hol (Nat.le_add_right _ _)))).trans f107
  have f109 := (r106 (o) (Nat.lt_of_lt_of_le hol (Nat.le_add_right _ _)) (Nat.ne_of_lt (Nat.lt_of_lt_of_le hol (Nat.le_add_right _ _)))).trans f108
  refine J_get (C := RX7) (T := TX7) (Z := 8) (ci := 7) (f := 6) dX7_init_88 inG7 rfl (by decide) k198 f109 rfl ?_
  refine J_iload_n (i := 1) (j := 0) dX7_init_91 rfl rfl ?_
  refine J_new (C := RX8) (T := TX8) (Z := 4) (ci := 8) (fs := [.int 0, .null, .null, .null]) (ty0 := tyX8) dX7_init_92 inG8 rfl tyX8_ok k123 k163 k90 fsX8 (hk1 hn l105) (by decide) (by decide) ?_
  obtain ⟨h110, e111⟩ : ∃ z, z = h102 ++ [(.inr (8, [.int 0, .null, .null, .null]))] := ⟨_, rfl⟩
  refine J_w e111.symm ?_
  refine J_cr (v := n0 + 13) l105 ?_
  have f112 := a_push e111 l105
  have l113 : h110.length = n0 + 14 := l_push e111 l105 rfl
  have r114 := r_push (a := n0 + 13) e111 l105
  refine J_dup dX7_init_95 rfl ?_
  refine J_callIN (As := []) (rest := [.ref (n0 + 13), .int 0, .ref (n0 + 2)]) dX7_init_96 (c_X8_init (d := 1) (h := h110) (o := n0 + 13) (n0 := n0 + 14) (by decide) l113 f112) hq.n k164 k165 rfl rfl k90 k166 np_X8_init (Nat.le_trans (by decide) hd) (by decide) (by decide) (by decide) (hk1 hn l113) rfl (Nat.le_of_ble_eq_true rfl) (fun r115 h116 p117 => ?_)
  obtain ⟨rfl, l118, f119, b120, r121⟩ := p117
  have l122 : h116.length = n0 + 17 := l118
  have f123 := (r53 (n0 + 2) (Nat.add_lt_add_left (by decide) n0) (Nat.ne_of_gt (Nat.lt_of_lt_of_le hol (Nat.le_add_right _ _)))).trans f45
  have f124 := (r58 (n0 + 2) (Nat.add_lt_add_left (by decide) n0) (Nat.ne_of_gt (Nat.lt_of_lt_of_le hol (Nat.le_add_right _ _)))).trans f123
  have f125 := (r63 (n0 + 2) (Nat.add_lt_add_left (by decide) n0) (fun q => absurd (Nat.add_left_cancel q) (by decide))).trans f124
  have f126 := (r70 (n0 + 2) (Nat.add_lt_add_left (by decide) n0) (fun q => absurd (Nat.add_left_cancel q) (by decide))).trans f125
  have f127 := (r83 (n0 + 2) (Nat.add_lt_add_left (by decide) n0) (fun q => absurd (Nat.add_left_cancel q) (by decide))).trans f126
  have f128 := (r91 (n0 + 2) (Nat.add_lt_add_left (by decide) n0) (fun q => absurd (Nat.add_left_cancel q) (by decide))).trans f127
  have f129 := (r98 (n0 + 2) (Nat.add_lt_add_left (by decide) n0) (fun q => absurd (Nat.add_left_cancel q) (by decide))).trans f128
  have f130 := (r106 (n0 + 2) (Nat.add_lt_add_left (by decide) n0) (fun q => absurd (Nat.add_left_cancel q) (by decide))).trans f129
  have f131 := (r114 (n0 + 2) (Nat.add_lt_add_left (by decide) n0) (fun q => absurd (Nat.add_left_cancel q) (by decide))).trans f130
  have f132 := (r121 (n0 + 2) (Nat.add_lt_add_left (by decide) n0) (fun q => absurd (Nat.add_left_cancel q) (by decide))).trans f131
  obtain ⟨h133, e134⟩ : ∃ z, z = h116.set (n0 + 2) (.inl (6, 3, .inr (.inr (va_up (fun _ => none) ((0 : Int32).toNatClampNeg) (some (n0 + 13)))))) := ⟨_, rfl⟩
  refine J_aast (r := (RX8, TX8, 4)) dX7_init_99 f132 (fun _ => rfl) f119 rfl (vp_c (by decide)) e134.symm ?_
  have f135 := a_set e134 f132
  have l136 : h133.length = n0 + 17 := l_set e134 l122
  have r137 := r_set (N := n0 + 17) e134
  refine J_iinc (i := 1) (j := 0) (v := 1) (lw := [(1, .int 1), (0, .ref o)]) dX7_init_100 rfl (by decide) (by decide) rfl ?_
  refine J_goto (tgt := 82) dX7_init_103 (by decide) ?_
  refine J_iload_n (i := 1) (j := 0) dX7_init_82 rfl rfl ?_
  refine J_iconst (v := 3) dX7_init_83 (by decide) ?_
  refine J_icmp_ge (tgt := 106) dX7_init_84 (by decide) (fun q => absurd q (by decide)) (fun _ => ?_)
  refine J_aload_n (i := 0) (j := 1) dX7_init_87 rfl rfl ?_
  have f138 := (r114 (o) (Nat.lt_of_lt_of_le hol (Nat.le_add_right _ _)) (Nat.ne_of_lt (Nat.lt_of_lt_of_le hol (Nat.le_add_right _ _)))).trans f109
  have f139 := (r121 (o) (Nat.lt_of_lt_of_le hol (Nat.le_add_right _ _)) (Nat.ne_of_lt (Nat.lt_of_lt_of_le hol (Nat.le_add_right _ _)))).trans f138
  have f140 := (r137 (o) (Nat.lt_of_lt_of_le hol (Nat.le_add_right _ _)) (Nat.ne_of_lt (Nat.lt_of_lt_of_le hol (Nat.le_add_right _ _)))).trans f139
  refine J_get (C := RX7) (T := TX7) (Z := 8) (ci := 7) (f := 6) dX7_init_88 inG7 rfl (by decide) k198 f140 rfl ?_
  refine J_iload_n (i := 1) (j := 0) dX7_init_91 rfl rfl ?_
  refine J_new (C := RX8) (T := TX8) (Z := 4) (ci := 8) (fs := [.int 0, .null, .null, .null]) (ty0 := tyX8) dX7_init_92 inG8 rfl tyX8_ok k123 k163 k90 fsX8 (hk1 hn l136) (by decide) (by decide) ?_
  obtain ⟨h141, e142⟩ : ∃ z, z = h133 ++ [(.inr (8, [.int 0, .null, .null, .null]))] := ⟨_, rfl⟩
  refine J_w e142.symm ?_
  refine J_cr (v := n0 + 17) l136 ?_
  have f143 := a_push e142 l136
  have l144 : h141.length = n0 + 18 := l_push e142 l136 rfl
  have r145 := r_push (a := n0 + 17) e142 l136
  refine J_dup dX7_init_95 rfl ?_
  refine J_callIN (As := []) (rest := [.ref (n0 + 17), .int 1, .ref (n0 + 2)]) dX7_init_96 (c_X8_init (d := 1) (h := h141) (o := n0 + 17) (n0 := n0 + 18) (by decide) l144 f143) hq.n k164 k165 rfl rfl k90 k166 np_X8_init (Nat.le_trans (by decide) hd) (by decide) (by decide) (by decide) (hk1 hn l144) rfl (Nat.le_of_ble_eq_true rfl) (fun r146 h147 p148 => ?_)
  obtain ⟨rfl, l149, f150, b151, r152⟩ := p148
  have l153 : h147.length = n0 + 21 := l149
  have f154 := (r145 (n0 + 2) (Nat.add_lt_add_left (by decide) n0) (fun q => absurd (Nat.add_left_cancel q) (by decide))).trans f135
  have f155 := (r152 (n0 + 2) (Nat.add_lt_add_left (by decide) n0) (fun q => absurd (Nat.add_left_cancel q) (by decide))).trans f154
  obtain ⟨h156, e157⟩ : ∃ z, z = h147.set (n0 + 2) (.inl (6, 3, .inr (.inr (va_up (va_up (fun _ => none) ((0 : Int32).toNatClampNeg) (some (n0 + 13))) ((1 : Int32).toNatClampNeg) (some (n0 + 17)))))) := ⟨_, rfl⟩
  refine J_aast (r := (RX8, TX8, 4)) dX7_init_99 f155 (fun _ => rfl) f150 rfl (vp_c (by decide)) e157.symm ?_
  have f158 := a_set e157 f155
  have l159 : h156.length = n0 + 21 := l_set e157 l153
  have r160 := r_set (N := n0 + 21) e157
  refine J_iinc (i := 1) (j := 0) (v := 2) (lw := [(1, .int 2), (0, .ref o)]) dX7_init_100 rfl (by decide) (by decide) rfl ?_
  refine J_goto (tgt := 82) dX7_init_103 (by decide) ?_
  refine J_iload_n (i := 1) (j := 0) dX7_init_82 rfl rfl ?_
  refine J_iconst (v := 3) dX7_init_83 (by decide) ?_
  refine J_icmp_ge (tgt := 106) dX7_init_84 (by decide) (fun q => absurd q (by decide)) (fun _ => ?_)
  refine J_aload_n (i := 0) (j := 1) dX7_init_87 rfl rfl ?_
  have f161 := (r145 (o) (Nat.lt_of_lt_of_le hol (Nat.le_add_right _ _)) (Nat.ne_of_lt (Nat.lt_of_lt_of_le hol (Nat.le_add_right _ _)))).trans f140
  have f162 := (r152 (o) (Nat.lt_of_lt_of_le hol (Nat.le_add_right _ _)) (Nat.ne_of_lt (Nat.lt_of_lt_of_le hol (Nat.le_add_right _ _)))).trans f161
  have f163 := (r160 (o) (Nat.lt_of_lt_of_le hol (Nat.le_add_right _ _)) (Nat.ne_of_lt (Nat.lt_of_lt_of_le hol (Nat.le_add_right _ _)))).trans f162
  refine J_get (C := RX7) (T := TX7) (Z := 8) (ci := 7) (f := 6) dX7_init_88 inG7 rfl (by decide) k198 f163 rfl ?_
  refine J_iload_n (i := 1) (j := 0) dX7_init_91 rfl rfl ?_
  refine J_new (C := RX8) (T := TX8) (Z := 4) (ci := 8) (fs := [.int 0, .null, .null, .null]) (ty0 := tyX8) dX7_init_92 inG8 rfl tyX8_ok k123 k163 k90 fsX8 (hk1 hn l159) (by decide) (by decide) ?_
  obtain ⟨h164, e165⟩ : ∃ z, z = h156 ++ [(.inr (8, [.int 0, .null, .null, .null]))] := ⟨_, rfl⟩
  refine J_w e165.symm ?_
  refine J_cr (v := n0 + 21) l159 ?_
  have f166 := a_push e165 l159
  have l167 : h164.length = n0 + 22 := l_push e165 l159 rfl
  have r168 := r_push (a := n0 + 21) e165 l159
  refine J_dup dX7_init_95 rfl ?_
  refine J_callIN (As := []) (rest := [.ref (n0 + 21), .int 2, .ref (n0 + 2)]) dX7_init_96 (c_X8_init (d := 1) (h := h164) (o := n0 + 21) (n0 := n0 + 22) (by decide) l167 f166) hq.n k164 k165 rfl rfl k90 k166 np_X8_init (Nat.le_trans (by decide) hd) (by decide) (by decide) (by decide) (hk1 hn l167) rfl (Nat.le_of_ble_eq_true rfl) (fun r169 h170 p171 => ?_)
  obtain ⟨rfl, l172, f173, b174, r175⟩ := p171
  have l176 : h170.length = n0 + 25 := l172
  have f177 := (r168 (n0 + 2) (Nat.add_lt_add_left (by decide) n0) (fun q => absurd (Nat.add_left_cancel q) (by decide))).trans f158
  have f178 := (r175 (n0 + 2) (Nat.add_lt_add_left (by decide) n0) (fun q => absurd (Nat.add_left_cancel q) (by decide))).trans f177
  obtain ⟨h179, e180⟩ : ∃ z, z = h170.set (n0 + 2) (.inl (6, 3, .inr (.inr (va_up (va_up (va_up (fun _ => none) ((0 : Int32).toNatClampNeg) (some (n0 + 13))) ((1 : Int32).toNatClampNeg) (some (n0 + 17))) ((2 : Int32).toNatClampNeg) (some (n0 + 21)))))) := ⟨_, rfl⟩
  refine J_aast (r := (RX8, TX8, 4)) dX7_init_99 f178 (fun _ => rfl) f173 rfl (vp_c (by decide)) e180.symm ?_
  have f181 := a_set e180 f178
  have l182 : h179.length = n0 + 25 := l_set e180 l176
  have r183 := r_set (N := n0 + 25) e180
  refine J_iinc (i := 1) (j := 0) (v := 3) (lw := [(1, .int 3), (0, .ref o)]) dX7_init_100 rfl (by decide) (by decide) rfl ?_
  refine J_goto (tgt := 82) dX7_init_103 (by decide) ?_
  refine J_iload_n (i := 1) (j := 0) dX7_init_82 rfl rfl ?_
  refine J_iconst (v := 3) dX7_init_83 (by decide) ?_
  refine J_icmp_ge (tgt := 106) dX7_init_84 (by decide) (fun _ => ?_) (fun q => absurd (by decide) q)
  have f184 := (r168 (o) (Nat.lt_of_lt_of_le hol (Nat.le_add_right _ _)) (Nat.ne_of_lt (Nat.lt_of_lt_of_le hol (Nat.le_add_right _ _)))).trans f163
  have f185 := (r175 (o) (Nat.lt_of_lt_of_le hol (Nat.le_add_right _ _)) (Nat.ne_of_lt (Nat.lt_of_lt_of_le hol (Nat.le_add_right _ _)))).trans f184
  have f186 := (r183 (o) (Nat.lt_of_lt_of_le hol (Nat.le_add_right _ _)) (Nat.ne_of_lt (Nat.lt_of_lt_of_le hol (Nat.le_add_right _ _)))).trans f185
  have f187 := (r11 (n0 + 0) (Nat.add_lt_add_left (by decide) n0) (Nat.ne_of_gt (Nat.lt_of_lt_of_le hol (Nat.le_add_right _ _)))).trans f3
  have f188 := (r16 (n0 + 0) (Nat.add_lt_add_left (by decide) n0) (Nat.ne_of_gt (Nat.lt_of_lt_of_le hol (Nat.le_add_right _ _)))).trans f187
  have f189 := (r21 (n0 + 0) (Nat.add_lt_add_left (by decide) n0) (Nat.ne_of_gt (Nat.lt_of_lt_of_le hol (Nat.le_add_right _ _)))).trans f188
  have f190 := (r26 (n0 + 0) (Nat.add_lt_add_left (by decide) n0) (Nat.ne_of_gt (Nat.lt_of_lt_of_le hol (Nat.le_add_right _ _)))).trans f189
  have f191 := (r31 (n0 + 0) (Nat.add_lt_add_left (by decide) n0) (fun q => absurd (Nat.add_left_cancel q) (by decide))).trans f190
  have f192 := (r37 (n0 + 0) (Nat.add_lt_add_left (by decide) n0) (Nat.ne_of_gt (Nat.lt_of_lt_of_le hol (Nat.le_add_right _ _)))).trans f191
  have f193 := (r42 (n0 + 0) (Nat.add_lt_add_left (by decide) n0) (Nat.ne_of_gt (Nat.lt_of_lt_of_le hol (Nat.le_add_right _ _)))).trans f192
  have f194 := (r47 (n0 + 0) (Nat.add_lt_add_left (by decide) n0) (fun q => absurd (Nat.add_left_cancel q) (by decide))).trans f193
  have f195 := (r53 (n0 + 0) (Nat.add_lt_add_left (by decide) n0) (Nat.ne_of_gt (Nat.lt_of_lt_of_le hol (Nat.le_add_right _ _)))).trans f194
  have f196 := (r58 (n0 + 0) (Nat.add_lt_add_left (by decide) n0) (Nat.ne_of_gt (Nat.lt_of_lt_of_le hol (Nat.le_add_right _ _)))).trans f195
  have f197 := (r63 (n0 + 0) (Nat.add_lt_add_left (by decide) n0) (fun q => absurd (Nat.add_left_cancel q) (by decide))).trans f196
  have f198 := (r70 (n0 + 0) (Nat.add_lt_add_left (by decide) n0) (fun q => absurd (Nat.add_left_cancel q) (by decide))).trans f197
  have f199 := (r83 (n0 + 0) (Nat.add_lt_add_left (by decide) n0) (fun q => absurd (Nat.add_left_cancel q) (by decide))).trans f198
  have f200 := (r91 (n0 + 0) (Nat.add_lt_add_left (by decide) n0) (fun q => absurd (Nat.add_left_cancel q) (by decide))).trans f199
  have f201 := (r98 (n0 + 0) (Nat.add_lt_add_left (by decide) n0) (fun q => absurd (Nat.add_left_cancel q) (by decide))).trans f200
  have f202 := (r106 (n0 + 0) (Nat.add_lt_add_left (by decide) n0) (fun q => absurd (Nat.add_left_cancel q) (by decide))).trans f201
  have f203 := (r114 (n0 + 0) (Nat.add_lt_add_left (by decide) n0) (fun q => absurd (Nat.add_left_cancel q) (by decide))).trans f202
  have f204 := (r121 (n0 + 0) (Nat.add_lt_add_left (by decide) n0) (fun q => absurd (Nat.add_left_cancel q) (by decide))).trans f203
  have f205 := (r137 (n0 + 0) (Nat.add_lt_add_left (by decide) n0) (fun q => absurd (Nat.add_left_cancel q) (by decide))).trans f204
  have f206 := (r145 (n0 + 0) (Nat.add_lt_add_left (by decide) n0) (fun q => absurd (Nat.add_left_cancel q) (by decide))).trans f205
  have f207 := (r152 (n0 + 0) (Nat.add_lt_add_left (by decide) n0) (fun q => absurd (Nat.add_left_cancel q) (by decide))).trans f206
  have f208 := (r160 (n0 + 0) (Nat.add_lt_add_left (by decide) n0) (fun q => absurd (Nat.add_left_cancel q) (by decide))).trans f207
  have f209 := (r168 (n0 + 0) (Nat.add_lt_add_left (by decide) n0) (fun q => absurd (Nat.add_left_cancel q) (by decide))).trans f208
  have f210 := (r175 (n0 + 0) (Nat.add_lt_add_left (by decide) n0) (fun q => absurd (Nat.add_left_cancel q) (by decide))).trans f209
  have f211 := (r183 (n0 + 0) (Nat.add_lt_add_left (by decide) n0) (fun q => absurd (Nat.add_left_cancel q) (by decide))).trans f210
  have f212 := (r114 (n0 + 1) (Nat.add_lt_add_left (by decide) n0) (fun q => absurd (Nat.add_left_cancel q) (by decide))).trans f104
  have f213 := (r121 (n0 + 1) (Nat.add_lt_add_left (by decide) n0) (fun q => absurd (Nat.add_left_cancel q) (by decide))).trans f212
  have f214 := (r137 (n0 + 1) (Nat.add_lt_add_left (by decide) n0) (fun q => absurd (Nat.add_left_cancel q) (by decide))).trans f213
  have f215 := (r145 (n0 + 1) (Nat.add_lt_add_left (by decide) n0) (fun q => absurd (Nat.add_left_cancel q) (by decide))).trans f214
  have f216 := (r152 (n0 + 1) (Nat.add_lt_add_left (by decide) n0) (fun q => absurd (Nat.add_left_cancel q) (by decide))).trans f215
  have f217 := (r160 (n0 + 1) (Nat.add_lt_add_left (by decide) n0) (fun q => absurd (Nat.add_left_cancel q) (by decide))).trans f216
  have f218 := (r168 (n0 + 1) (Nat.add_lt_add_left (by decide) n0) (fun q => absurd (Nat.add_left_cancel q) (by decide))).trans f217
  have f219 := (r175 (n0 + 1) (Nat.add_lt_add_left (by decide) n0) (fun q => absurd (Nat.add_left_cancel q) (by decide))).trans f218
  have f220 := (r183 (n0 + 1) (Nat.add_lt_add_left (by decide) n0) (fun q => absurd (Nat.add_left_cancel q) (by decide))).trans f219
  have f221 := (r83 (n0 + 3) (Nat.add_lt_add_left (by decide) n0) (fun q => absurd (Nat.add_left_cancel q) (by decide))).trans f68
  have f222 := (r91 (n0 + 3) (Nat.add_lt_add_left (by decide) n0) (fun q => absurd (Nat.add_left_cancel q) (by decide))).trans f221
  have f223 := (r98 (n0 + 3) (Nat.add_lt_add_left (by decide) n0) (fun q => absurd (Nat.add_left_cancel q) (by decide))).trans f222
  have f224 := (r106 (n0 + 3) (Nat.add_lt_add_left (by decide) n0) (fun q => absurd (Nat.add_left_cancel q) (by decide))).trans f223
  have f225 := (r114 (n0 + 3) (Nat.add_lt_add_left (by decide) n0) (fun q => absurd (Nat.add_left_cancel q) (by decide))).trans f224
  have f226 := (r121 (n0 + 3) (Nat.add_lt_add_left (by decide) n0) (fun q => absurd (Nat.add_left_cancel q) (by decide))).trans f225
  have f227 := (r137 (n0 + 3) (Nat.add_lt_add_left (by decide) n0) (fun q => absurd (Nat.add_left_cancel q) (by decide))).trans f226
  have f228 := (r145 (n0 + 3) (Nat.add_lt_add_left (by decide) n0) (fun q => absurd (Nat.add_left_cancel q) (by decide))).trans f227
  have f229 := (r152 (n0 + 3) (Nat.add_lt_add_left (by decide) n0) (fun q => absurd (Nat.add_left_cancel q) (by decide))).trans f228
  have f230 := (r160 (n0 + 3) (Nat.add_lt_add_left (by decide) n0) (fun q => absurd (Nat.add_left_cancel q) (by decide))).trans f229
  have f231 := (r168 (n0 + 3) (Nat.add_lt_add_left (by decide) n0) (fun q => absurd (Nat.add_left_cancel q) (by decide))).trans f230
  have f232 := (r175 (n0 + 3) (Nat.add_lt_add_left (by decide) n0) (fun q => absurd (Nat.add_left_cancel q) (by decide))).trans f231
  have f233 := (r183 (n0 + 3) (Nat.add_lt_add_left (by decide) n0) (fun q => absurd (Nat.add_left_cancel q) (by decide))).trans f232
  have b234 : At h79 (n0 + 4) (bk1 (n0 + 4)) := At.fr (m := 4) b69 bl1 r83 (bq (by decide)) (Or.inl (Nat.add_lt_add_left (by decide) n0))
  have b235 : At h87 (n0 + 4) (bk1 (n0 + 4)) := At.fr (m := 4) b234 bl1 r91 (bq (by decide)) (Or.inr (bq (by decide)))
  have b236 : At h93 (n0 + 4) (bk1 (n0 + 4)) := At.fr (m := 4) b235 bl1 r98 (bq (by decide)) (Or.inr (bq (by decide)))
  have b237 : At h102 (n0 + 4) (bk1 (n0 + 4)) := At.fr (m := 4) b236 bl1 r106 (bq (by decide)) (Or.inl (Nat.add_lt_add_left (by decide) n0))
  have b238 : At h110 (n0 + 4) (bk1 (n0 + 4)) := At.fr (m := 4) b237 bl1 r114 (bq (by decide)) (Or.inr (bq (by decide)))
  have b239 : At h116 (n0 + 4) (bk1 (n0 + 4)) := At.fr (m := 4) b238 bl1 r121 (bq (by decide)) (Or.inr (bq (by decide)))
  have b240 : At h133 (n0 + 4) (bk1 (n0 + 4)) := At.fr (m := 4) b239 bl1 r137 (bq (by decide)) (Or.inl (Nat.add_lt_add_left (by decide) n0))
  have b241 : At h141 (n0 + 4) (bk1 (n0 + 4)) := At.fr (m := 4) b240 bl1 r145 (bq (by decide)) (Or.inr (bq (by decide)))
  have b242 : At h147 (n0 + 4) (bk1 (n0 + 4)) := At.fr (m := 4) b241 bl1 r152 (bq (by decide)) (Or.inr (bq (by decide)))
  have b243 : At h156 (n0 + 4) (bk1 (n0 + 4)) := At.fr (m := 4) b242 bl1 r160 (bq (by decide)) (Or.inl (Nat.add_lt_add_left (by decide) n0))
  have b244 : At h164 (n0 + 4) (bk1 (n0 + 4)) := At.fr (m := 4) b243 bl1 r168 (bq (by decide)) (Or.inr (bq (by decide)))
  have b245 : At h170 (n0 + 4) (bk1 (n0 + 4)) := At.fr (m := 4) b244 bl1 r175 (bq (by decide)) (Or.inr (bq (by decide)))
  have b246 : At h179 (n0 + 4) (bk1 (n0 + 4)) := At.fr (m := 4) b245 bl1 r183 (bq (by decide)) (Or.inl (Nat.add_lt_add_left (by decide) n0))
  have f247 := (r106 (n0 + 8) (Nat.add_lt_add_left (by decide) n0) (fun q => absurd (Nat.add_left_cancel q) (by decide))).trans f96
  have f248 := (r114 (n0 + 8) (Nat.add_lt_add_left (by decide) n0) (fun q => absurd (Nat.add_left_cancel q) (by decide))).trans f247
  have f249 := (r121 (n0 + 8) (Nat.add_lt_add_left (by decide) n0) (fun q => absurd (Nat.add_left_cancel q) (by decide))).trans f248
  have f250 := (r137 (n0 + 8) (Nat.add_lt_add_left (by decide) n0) (fun q => absurd (Nat.add_left_cancel q) (by decide))).trans f249
  have f251 := (r145 (n0 + 8) (Nat.add_lt_add_left (by decide) n0) (fun q => absurd (Nat.add_left_cancel q) (by decide))).trans f250
  have f252 := (r152 (n0 + 8) (Nat.add_lt_add_left (by decide) n0) (fun q => absurd (Nat.add_left_cancel q) (by decide))).trans f251
  have f253 := (r160 (n0 + 8) (Nat.add_lt_add_left (by decide) n0) (fun q => absurd (Nat.add_left_cancel q) (by decide))).trans f252
  have f254 := (r168 (n0 + 8) (Nat.add_lt_add_left (by decide) n0) (fun q => absurd (Nat.add_left_cancel q) (by decide))).trans f253
  have f255 := (r175 (n0 + 8) (Nat.add_lt_add_left (by decide) n0) (fun q => absurd (Nat.add_left_cancel q) (by decide))).trans f254
  have f256 := (r183 (n0 + 8) (Nat.add_lt_add_left (by decide) n0) (fun q => absurd (Nat.add_left_cancel q) (by decide))).trans f255
  have b257 : At h102 (n0 + 9) (bk1 (n0 + 9)) := At.fr (m := 4) b97 bl1 r106 (bq (by decide)) (Or.inl (Nat.add_lt_add_left (by decide) n0))
  have b258 : At h110 (n0 + 9) (bk1 (n0 + 9)) := At.fr (m := 4) b257 bl1 r114 (bq (by decide)) (Or.inr (bq (by decide)))
  have b259 : At h116 (n0 + 9) (bk1 (n0 + 9)) := At.fr (m := 4) b258 bl1 r121 (bq (by decide)) (Or.inr (bq (by decide)))
  have b260 : At h133 (n0 + 9) (bk1 (n0 + 9)) := At.fr (m := 4) b259 bl1 r137 (bq (by decide)) (Or.inl (Nat.add_lt_add_left (by decide) n0))
  have b261 : At h141 (n0 + 9) (bk1 (n0 + 9)) := At.fr (m := 4) b260 bl1 r145 (bq (by decide)) (Or.inr (bq (by decide)))
  have b262 : At h147 (n0 + 9) (bk1 (n0 + 9)) := At.fr (m := 4) b261 bl1 r152 (bq (by decide)) (Or.inr (bq (by decide)))
  have b263 : At h156 (n0 + 9) (bk1 (n0 + 9)) := At.fr (m := 4) b262 bl1 r160 (bq (by decide)) (Or.inl (Nat.add_lt_add_left (by decide) n0))
  have b264 : At h164 (n0 + 9) (bk1 (n0 + 9)) := At.fr (m := 4) b263 bl1 r168 (bq (by decide)) (Or.inr (bq (by decide)))
  have b265 : At h170 (n0 + 9) (bk1 (n0 + 9)) := At.fr (m := 4) b264 bl1 r175 (bq (by decide)) (Or.inr (bq (by decide)))
  have b266 : At h179 (n0 + 9) (bk1 (n0 + 9)) := At.fr (m := 4) b265 bl1 r183 (bq (by decide)) (Or.inl (Nat.add_lt_add_left (by decide) n0))
  have f267 := (r137 (n0 + 13) (Nat.add_lt_add_left (by decide) n0) (fun q => absurd (Nat.add_left_cancel q) (by decide))).trans f119
  have f268 := (r145 (n0 + 13) (Nat.add_lt_add_left (by decide) n0) (fun q => absurd (Nat.add_left_cancel q) (by decide))).trans f267
  have f269 := (r152 (n0 + 13) (Nat.add_lt_add_left (by decide) n0) (fun q => absurd (Nat.add_left_cancel q) (by decide))).trans f268
  have f270 := (r160 (n0 + 13) (Nat.add_lt_add_left (by decide) n0) (fun q => absurd (Nat.add_left_cancel q) (by decide))).trans f269
  have f271 := (r168 (n0 + 13) (Nat.add_lt_add_left (by decide) n0) (fun q => absurd (Nat.add_left_cancel q) (by decide))).trans f270
  have f272 := (r175 (n0 + 13) (Nat.add_lt_add_left (by decide) n0) (fun q => absurd (Nat.add_left_cancel q) (by decide))).trans f271
  have f273 := (r183 (n0 + 13) (Nat.add_lt_add_left (by decide) n0) (fun q => absurd (Nat.add_left_cancel q) (by decide))).trans f272
  have b274 : At h133 (n0 + 14) (bk8 (n0 + 14)) := At.fr (m := 3) b120 bl8 r137 (bq (by decide)) (Or.inl (Nat.add_lt_add_left (by decide) n0))
  have b275 : At h141 (n0 + 14) (bk8 (n0 + 14)) := At.fr (m := 3) b274 bl8 r145 (bq (by decide)) (Or.inr (bq (by decide)))
  have b276 : At h147 (n0 + 14) (bk8 (n0 + 14)) := At.fr (m := 3) b275 bl8 r152 (bq (by decide)) (Or.inr (bq (by decide)))
  have b277 : At h156 (n0 + 14) (bk8 (n0 + 14)) := At.fr (m := 3) b276 bl8 r160 (bq (by decide)) (Or.inl (Nat.add_lt_add_left (by decide) n0))
  have b278 : At h164 (n0 + 14) (bk8 (n0 + 14)) := At.fr (m := 3) b277 bl8 r168 (bq (by decide)) (Or.inr (bq (by decide)))
  have b279 : At h170 (n0 + 14) (bk8 (n0 + 14)) := At.fr (m := 3) b278 bl8 r175 (bq (by decide)) (Or.inr (bq (by decide)))
  have b280 : At h179 (n0 + 14) (bk8 (n0 + 14)) := At.fr (m := 3) b279 bl8 r183 (bq (by decide)) (Or.inl (Nat.add_lt_add_left (by decide) n0))
  have f281 := (r160 (n0 + 17) (Nat.add_lt_add_left (by decide) n0) (fun q => absurd (Nat.add_left_cancel q) (by decide))).trans f150
  have f282 := (r168 (n0 + 17) (Nat.add_lt_add_left (by decide) n0) (fun q => absurd (Nat.add_left_cancel q) (by decide))).trans f281
  have f283 := (r175 (n0 + 17) (Nat.add_lt_add_left (by decide) n0) (fun q => absurd (Nat.add_left_cancel q) (by decide))).trans f282
  have f284 := (r183 (n0 + 17) (Nat.add_lt_add_left (by decide) n0) (fun q => absurd (Nat.add_left_cancel q) (by decide))).trans f283
  have b285 : At h156 (n0 + 18) (bk8 (n0 + 18)) := At.fr (m := 3) b151 bl8 r160 (bq (by decide)) (Or.inl (Nat.add_lt_add_left (by decide) n0))
  have b286 : At h164 (n0 + 18) (bk8 (n0 + 18)) := At.fr (m := 3) b285 bl8 r168 (bq (by decide)) (Or.inr (bq (by decide)))
  have b287 : At h170 (n0 + 18) (bk8 (n0 + 18)) := At.fr (m := 3) b286 bl8 r175 (bq (by decide)) (Or.inr (bq (by decide)))
  have b288 : At h179 (n0 + 18) (bk8 (n0 + 18)) := At.fr (m := 3) b287 bl8 r183 (bq (by decide)) (Or.inl (Nat.add_lt_add_left (by decide) n0))
  have f289 := (r183 (n0 + 21) (Nat.add_lt_add_left (by decide) n0) (fun q => absurd (Nat.add_left_cancel q) (by decide))).trans f173
  have b290 : At h179 (n0 + 22) (bk8 (n0 + 22)) := At.fr (m := 3) b174 bl8 r183 (bq (by decide)) (Or.inl (Nat.add_lt_add_left (by decide) n0))
  have hfr : ∀ j, j < n0 → j ≠ o → h179[j]? = h[j]? := by
    intro j hj hjo
    rw [r183 j (Nat.lt_of_lt_of_le hj (Nat.le_add_right _ _)) (Nat.ne_of_lt (Nat.lt_of_lt_of_le hj (Nat.le_add_right _ _))), r175 j (Nat.lt_of_lt_of_le hj (Nat.le_add_right _ _)) (Nat.ne_of_lt (Nat.lt_of_lt_of_le hj (Nat.le_add_right _ _))), r168 j (Nat.lt_of_lt_of_le hj (Nat.le_add_right _ _)) (Nat.ne_of_lt (Nat.lt_of_lt_of_le hj (Nat.le_add_right _ _))), r160 j (Nat.lt_of_lt_of_le hj (Nat.le_add_right _ _)) (Nat.ne_of_lt (Nat.lt_of_lt_of_le hj (Nat.le_add_right _ _))), r152 j (Nat.lt_of_lt_of_le hj (Nat.le_add_right _ _)) (Nat.ne_of_lt (Nat.lt_of_lt_of_le hj (Nat.le_add_right _ _))), r145 j (Nat.lt_of_lt_of_le hj (Nat.le_add_right _ _)) (Nat.ne_of_lt (Nat.lt_of_lt_of_le hj (Nat.le_add_right _ _))), r137 j (Nat.lt_of_lt_of_le hj (Nat.le_add_right _ _)) (Nat.ne_of_lt (Nat.lt_of_lt_of_le hj (Nat.le_add_right _ _))), r121 j (Nat.lt_of_lt_of_le hj (Nat.le_add_right _ _)) (Nat.ne_of_lt (Nat.lt_of_lt_of_le hj (Nat.le_add_right _ _))), r114 j (Nat.lt_of_lt_of_le hj (Nat.le_add_right _ _)) (Nat.ne_of_lt (Nat.lt_of_lt_of_le hj (Nat.le_add_right _ _))), r106 j (Nat.lt_of_lt_of_le hj (Nat.le_add_right _ _)) (Nat.ne_of_lt (Nat.lt_of_lt_of_le hj (Nat.le_add_right _ _))), r98 j (Nat.lt_of_lt_of_le hj (Nat.le_add_right _ _)) (Nat.ne_of_lt (Nat.lt_of_lt_of_le hj (Nat.le_add_right _ _))), r91 j (Nat.lt_of_lt_of_le hj (Nat.le_add_right _ _)) (Nat.ne_of_lt (Nat.lt_of_lt_of_le hj (Nat.le_add_right _ _))), r83 j (Nat.lt_of_lt_of_le hj (Nat.le_add_right _ _)) (Nat.ne_of_lt (Nat.lt_of_lt_of_le hj (Nat.le_add_right _ _))), r70 j (Nat.lt_of_lt_of_le hj (Nat.le_add_right _ _)) (Nat.ne_of_lt (Nat.lt_of_lt_of_le hj (Nat.le_add_right _ _))), r63 j (Nat.lt_of_lt_of_le hj (Nat.le_add_right _ _)) (Nat.ne_of_lt (Nat.lt_of_lt_of_le hj (Nat.le_add_right _ _))), r58 j (Nat.lt_of_lt_of_le hj (Nat.le_add_right _ _)) hjo, r53 j (Nat.lt_of_lt_of_le hj (Nat.le_add_right _ _)) hjo, r47 j (Nat.lt_of_lt_of_le hj (Nat.le_add_right _ _)) (Nat.ne_of_lt (Nat.lt_of_lt_of_le hj (Nat.le_add_right _ _))), r42 j (Nat.lt_of_lt_of_le hj (Nat.le_add_right _ _)) hjo, r37 j (Nat.lt_of_lt_of_le hj (Nat.le_add_right _ _)) hjo, r31 j (Nat.lt_of_lt_of_le hj (Nat.le_add_right _ _)) (Nat.ne_of_lt (Nat.lt_of_lt_of_le hj (Nat.le_add_right _ _))), r26 j (Nat.lt_of_lt_of_le hj (Nat.le_add_right _ _)) hjo, r21 j (Nat.lt_of_lt_of_le hj (Nat.le_add_right _ _)) hjo, r16 j (Nat.lt_of_lt_of_le hj (Nat.le_add_right _ _)) hjo, r11 j (Nat.lt_of_lt_of_le hj (Nat.le_add_right _ _)) hjo, r5 j (Nat.lt_of_lt_of_le hj (Nat.le_add_right _ _)) (Nat.ne_of_lt (Nat.lt_of_lt_of_le hj (Nat.le_add_right _ _)))]
  exact J_vret hq dX7_init_106 rfl (hk1 hn l182) (by decide) (by decide) ⟨rfl, l182, f186, (At_cons f211 (At_cons f220 (At_cons f181 (At_cons f233 (At_app bl1 b246 (At_cons f256 (At_app bl1 b266 (At_cons f273 (At_app bl8 b280 (At_cons f284 (At_app bl8 b288 (At_cons f289 (At_app bl8 b290 At_nil))))))))))))), hfr⟩
def ob3 (n : Nat) : MC := (.inr (3, [.ref (n + 0), .ref (n + 2), .ref (n + 7), .ref (n + 11), .ref (n + 12), .int 0, .int (-1)]))
def bk3 (n : Nat) : List MC := ob6 (n + 1) :: (bk6 (n + 1) ++ (ob1 (n + 3) :: (bk1 (n + 3) ++ (ob8 (n + 8) :: (bk8 (n + 8) ++ ((.inl (1, 3, .inl (fun _ => 0))) :: ((.inl (1, 3, .inl (fun _ => 0))) :: ([]))))))))
set_option maxRecDepth 100000 in
theorem bl3 {n : Nat} : (bk3 n).length = 13 := rfl
set_option maxHeartbeats 4000000 in
set_option maxRecDepth 100000 in
theorem c_X3_init {d : Nat} {h : List MC} {o n0 : Nat} (hd : 2 ≤ d) (hn : h.length = n0) (ho : h[o]? = some (.inr (3, [.null, .null, .null, .null, .null, .int 0, .int 0]))) : CT con0 d 13 213 yX3_init cX3_init 1 none [.ref o] h (fun r h2 => r = none ∧ h2.length = n0 + 13 ∧ h2[o]? = some (ob3 n0) ∧ At h2 n0 (bk3 n0) ∧ ∀ j, j < n0 → j ≠ o → h2[j]? = h[j]?) := by
  have hol : o < n0 := by rw [← hn]; exact (List.getElem?_eq_some_iff.mp ho).1
  have hn0 : h.length = n0 + 0 := hn
  refine CT_of (by decide) (Nat.le_of_ble_eq_true rfl) (fun x hq => ?_)
  show J x yX3_init cX3_init 1 none d 13 213 h.length 0 [(0, .ref o)] [] h 0 0
  refine J_aload_n (i := 0) (j := 0) dX3_init_0 rfl rfl ?_
  refine J_obj dX3_init_1 k225 k113 k114 (Nat.le_trans (by decide) hd) (Nat.le_of_ble_eq_true rfl) ?_
  refine J_aload_n (i := 0) (j := 0) dX3_init_4 rfl rfl ?_
  refine J_new (C := RX6) (T := TX6) (Z := 6) (ci := 6) (fs := [.null, .int 0, .int 0, .int 0, .int 0, .int 0]) (ty0 := tyX6) dX3_init_5 inG6 rfl tyX6_ok k226 k227 k92 fsX6 (hk1 hn hn0) (by decide) (by decide) ?_
  obtain ⟨h1, e2⟩ : ∃ z, z = h ++ [(.inr (6, [.null, .int 0, .int 0, .int 0, .int 0, .int 0]))] := ⟨_, rfl⟩
  refine J_w e2.symm ?_
  refine J_cr (v := n0 + 0) hn0 ?_
  have f3 := a_push e2 hn0
  have l4 : h1.length = n0 + 1 := l_push e2 hn0 rfl
  have r5 := r_push (a := n0 + 0) e2 hn0
  refine J_dup dX3_init_8 rfl ?_
  refine J_callIN (As := []) (rest := [.ref (n0 + 0), .ref o]) dX3_init_9 (c_X6_init (d := 1) (h := h1) (o := n0 + 0) (n0 := n0 + 1) (by decide) l4 f3) hq.n k228 k229 rfl rfl k92 k230 np_X6_init (Nat.le_trans (by decide) hd) (by decide) (by decide) (by decide) (hk1 hn l4) rfl (Nat.le_of_ble_eq_true rfl) (fun r6 h7 p8 => ?_)
  obtain ⟨rfl, l9, f10, b11, r12⟩ := p8
  have l13 : h7.length = n0 + 2 := l9
  have f14 := (r5 (o) (Nat.lt_of_lt_of_le hol (Nat.le_add_right _ _)) (Nat.ne_of_lt (Nat.lt_of_lt_of_le hol (Nat.le_add_right _ _)))).trans ho
  have f15 := (r12 (o) (Nat.lt_of_lt_of_le hol (Nat.le_add_right _ _)) (Nat.ne_of_lt (Nat.lt_of_lt_of_le hol (Nat.le_add_right _ _)))).trans f14
  obtain ⟨h16, e17⟩ : ∃ z, z = h7.set (o) (.inr (3, [.ref (n0 + 0), .null, .null, .null, .null, .int 0, .int 0])) := ⟨_, rfl⟩
  refine J_putF (C := RX3) (T := TX3) (Z := 7) (ci := 3) (f := 0) (ty0 := tyX3) dX3_init_12 inG3 rfl tyX3_ok nmX3 (by decide) k260 rfl rfl rfl rfl f15 (Nat.le_of_ble_eq_true rfl) (fun _ _ => ⟨rfl, rfl⟩) e17.symm ?_
  have f18 := a_set e17 f15
  have l19 : h16.length = n0 + 2 := l_set e17 l13
  have r20 := r_set (N := n0 + 2) e17
  refine J_aload_n (i := 0) (j := 0) dX3_init_15 rfl rfl ?_
  refine J_new (C := RX1) (T := TX1) (Z := 6) (ci := 1) (fs := [.int 0, .null, .int 0, .null, .null, .null]) (ty0 := tyX1) dX3_init_16 inG1 rfl tyX1_ok k256 k125 k89 fsX1 (hk1 hn l19) (by decide) (by decide) ?_
  obtain ⟨h21, e22⟩ : ∃ z, z = h16 ++ [(.inr (1, [.int 0, .null, .int 0, .null, .null, .null]))] := ⟨_, rfl⟩
  refine J_w e22.symm ?_
  refine J_cr (v := n0 + 2) l19 ?_
  have f23 := a_push e22 l19
  have l24 : h21.length = n0 + 3 := l_push e22 l19 rfl
  have r25 := r_push (a := n0 + 2) e22 l19
  refine J_dup dX3_init_19 rfl ?_
  refine J_callIN (As := []) (rest := [.ref (n0 + 2), .ref o]) dX3_init_20 (c_X1_init (d := 1) (h := h21) (o := n0 + 2) (n0 := n0 + 3) (by decide) l24 f23) hq.n k257 k127 rfl rfl k89 k128 np_X1_init (Nat.le_trans (by decide) hd) (by decide) (by decide) (by decide) (hk1 hn l24) rfl (Nat.le_of_ble_eq_true rfl) (fun r26 h27 p28 => ?_)
  obtain ⟨rfl, l29, f30, b31, r32⟩ := p28
  have l33 : h27.length = n0 + 7 := l29
  have f34 := (r25 (o) (Nat.lt_of_lt_of_le hol (Nat.le_add_right _ _)) (Nat.ne_of_lt (Nat.lt_of_lt_of_le hol (Nat.le_add_right _ _)))).trans f18
  have f35 := (r32 (o) (Nat.lt_of_lt_of_le hol (Nat.le_add_right _ _)) (Nat.ne_of_lt (Nat.lt_of_lt_of_le hol (Nat.le_add_right _ _)))).trans f34
  obtain ⟨h36, e37⟩ : ∃ z, z = h27.set (o) (.inr (3, [.ref (n0 + 0), .ref (n0 + 2), .null, .null, .null, .int 0, .int 0])) := ⟨_, rfl⟩
  refine J_putF (C := RX3) (T := TX3) (Z := 7) (ci := 3) (f := 1) (ty0 := tyX3) dX3_init_23 inG3 rfl tyX3_ok nmX3 (by decide) k261 rfl rfl rfl rfl f35 (Nat.le_of_ble_eq_true rfl) (fun _ _ => ⟨rfl, rfl⟩) e37.symm ?_
  have f38 := a_set e37 f35
  have l39 : h36.length = n0 + 7 := l_set e37 l33
  have r40 := r_set (N := n0 + 7) e37
  refine J_aload_n (i := 0) (j := 0) dX3_init_26 rfl rfl ?_
  refine J_new (C := RX8) (T := TX8) (Z := 4) (ci := 8) (fs := [.int 0, .null, .null, .null]) (ty0 := tyX8) dX3_init_27 inG8 rfl tyX8_ok k258 k163 k90 fsX8 (hk1 hn l39) (by decide) (by decide) ?_
  obtain ⟨h41, e42⟩ : ∃ z, z = h36 ++ [(.inr (8, [.int 0, .null, .null, .null]))] := ⟨_, rfl⟩
  refine J_w e42.symm ?_
  refine J_cr (v := n0 + 7) l39 ?_
  have f43 := a_push e42 l39
  have l44 : h41.length = n0 + 8 := l_push e42 l39 rfl
  have r45 := r_push (a := n0 + 7) e42 l39
  refine J_dup dX3_init_30 rfl ?_
  refine J_callIN (As := []) (rest := [.ref (n0 + 7), .ref o]) dX3_init_31 (c_X8_init (d := 1) (h := h41) (o := n0 + 7) (n0 := n0 + 8) (by decide) l44 f43) hq.n k259 k165 rfl rfl k90 k166 np_X8_init (Nat.le_trans (by decide) hd) (by decide) (by decide) (by decide) (hk1 hn l44) rfl (Nat.le_of_ble_eq_true rfl) (fun r46 h47 p48 => ?_)
  obtain ⟨rfl, l49, f50, b51, r52⟩ := p48
  have l53 : h47.length = n0 + 11 := l49
  have f54 := (r45 (o) (Nat.lt_of_lt_of_le hol (Nat.le_add_right _ _)) (Nat.ne_of_lt (Nat.lt_of_lt_of_le hol (Nat.le_add_right _ _)))).trans f38
  have f55 := (r52 (o) (Nat.lt_of_lt_of_le hol (Nat.le_add_right _ _)) (Nat.ne_of_lt (Nat.lt_of_lt_of_le hol (Nat.le_add_right _ _)))).trans f54
  obtain ⟨h56, e57⟩ : ∃ z, z = h47.set (o) (.inr (3, [.ref (n0 + 0), .ref (n0 + 2), .ref (n0 + 7), .null, .null, .int 0, .int 0])) := ⟨_, rfl⟩
  refine J_putF (C := RX3) (T := TX3) (Z := 7) (ci := 3) (f := 2) (ty0 := tyX3) dX3_init_34 inG3 rfl tyX3_ok nmX3 (by decide) k263 rfl rfl rfl rfl f55 (Nat.le_of_ble_eq_true rfl) (fun _ _ => ⟨rfl, rfl⟩) e57.symm ?_
  have f58 := a_set e57 f55
  have l59 : h56.length = n0 + 11 := l_set e57 l53
  have r60 := r_set (N := n0 + 11) e57
  refine J_aload_n (i := 0) (j := 0) dX3_init_37 rfl rfl ?_
  refine J_iconst (v := 3) dX3_init_38 (by decide) ?_
  refine J_newa1 (Z := 3) dX3_init_39 ka1 (by decide) (by decide) (by decide) (hk1 hn l59) (by decide) (by decide) ?_
  obtain ⟨h61, e62⟩ : ∃ z, z = h56 ++ [(.inl (1, 3, .inl (fun _ => 0)))] := ⟨_, rfl⟩
  refine J_w e62.symm ?_
  refine J_cr (v := n0 + 11) l59 ?_
  have f63 := a_push e62 l59
  have l64 : h61.length = n0 + 12 := l_push e62 l59 rfl
  have r65 := r_push (a := n0 + 11) e62 l59
  have f66 := (r65 (o) (Nat.lt_of_lt_of_le hol (Nat.le_add_right _ _)) (Nat.ne_of_lt (Nat.lt_of_lt_of_le hol (Nat.le_add_right _ _)))).trans f58
  obtain ⟨h67, e68⟩ : ∃ z, z = h61.set (o) (.inr (3, [.ref (n0 + 0), .ref (n0 + 2), .ref (n0 + 7), .ref (n0 + 11), .null, .int 0, .int 0])) := ⟨_, rfl⟩
  refine J_putF (C := RX3) (T := TX3) (Z := 7) (ci := 3) (f := 3) (ty0 := tyX3) dX3_init_41 inG3 rfl tyX3_ok nmX3 (by decide) k265 rfl rfl rfl rfl f66 (Nat.le_of_ble_eq_true rfl) (fun _ _ => ⟨rfl, rfl⟩) e68.symm ?_
  have f69 := a_set e68 f66
  have l70 : h67.length = n0 + 12 := l_set e68 l64
  have r71 := r_set (N := n0 + 12) e68
  refine J_aload_n (i := 0) (j := 0) dX3_init_44 rfl rfl ?_
  refine J_iconst (v := 3) dX3_init_45 (by decide) ?_
  refine J_newa1 (Z := 3) dX3_init_46 ka1 (by decide) (by decide) (by decide) (hk1 hn l70) (by decide) (by decide) ?_
  obtain ⟨h72, e73⟩ : ∃ z, z = h67 ++ [(.inl (1, 3, .inl (fun _ => 0)))] := ⟨_, rfl⟩
  refine J_w e73.symm ?_
  refine J_cr (v := n0 + 12) l70 ?_
  have f74 := a_push e73 l70
  have l75 : h72.length = n0 + 13 := l_push e73 l70 rfl
  have r76 := r_push (a := n0 + 12) e73 l70
  have f77 := (r76 (o) (Nat.lt_of_lt_of_le hol (Nat.le_add_right _ _)) (Nat.ne_of_lt (Nat.lt_of_lt_of_le hol (Nat.le_add_right _ _)))).trans f69
  obtain ⟨h78, e79⟩ : ∃ z, z = h72.set (o) (.inr (3, [.ref (n0 + 0), .ref (n0 + 2), .ref (n0 + 7), .ref (n0 + 11), .ref (n0 + 12), .int 0, .int 0])) := ⟨_, rfl⟩
  refine J_putF (C := RX3) (T := TX3) (Z := 7) (ci := 3) (f := 4) (ty0 := tyX3) dX3_init_48 inG3 rfl tyX3_ok nmX3 (by decide) k266 rfl rfl rfl rfl f77 (Nat.le_of_ble_eq_true rfl) (fun _ _ => ⟨rfl, rfl⟩) e79.symm ?_
  have f80 := a_set e79 f77
  have l81 : h78.length = n0 + 13 := l_set e79 l75
  have r82 := r_set (N := n0 + 13) e79
  refine J_aload_n (i := 0) (j := 0) dX3_init_51 rfl rfl ?_
  refine J_iconst (v := 0) dX3_init_52 (by decide) ?_
  obtain ⟨h83, e84⟩ : ∃ z, z = h78.set (o) (.inr (3, [.ref (n0 + 0), .ref (n0 + 2), .ref (n0 + 7), .ref (n0 + 11), .ref (n0 + 12), .int 0, .int 0])) := ⟨_, rfl⟩
  refine J_put (C := RX3) (T := TX3) (Z := 7) (ci := 3) (f := 5) (ty0 := tyX3) dX3_init_53 inG3 rfl tyX3_ok nmX3 (by decide) k267 rfl rfl f80 (Nat.le_of_ble_eq_true rfl) (fun _ _ => ⟨rfl, rfl⟩) e84.symm ?_
  have f85 := a_set e84 f80
  have l86 : h83.length = n0 + 13 := l_set e84 l81
  have r87 := r_set (N := n0 + 13) e84
  refine J_aload_n (i := 0) (j := 0) dX3_init_56 rfl rfl ?_
  refine J_iconst (v := (-1)) dX3_init_57 (by decide) ?_
  obtain ⟨h88, e89⟩ : ∃ z, z = h83.set (o) (.inr (3, [.ref (n0 + 0), .ref (n0 + 2), .ref (n0 + 7), .ref (n0 + 11), .ref (n0 + 12), .int 0, .int (-1)])) := ⟨_, rfl⟩
  refine J_put (C := RX3) (T := TX3) (Z := 7) (ci := 3) (f := 6) (ty0 := tyX3) dX3_init_58 inG3 rfl tyX3_ok nmX3 (by decide) k269 rfl rfl f85 (Nat.le_of_ble_eq_true rfl) (fun _ _ => ⟨rfl, rfl⟩) e89.symm ?_
  have f90 := a_set e89 f85
  have l91 : h88.length = n0 + 13 := l_set e89 l86
  have r92 := r_set (N := n0 + 13) e89
  have f93 := (r20 (n0 + 0) (Nat.add_lt_add_left (by decide) n0) (Nat.ne_of_gt (Nat.lt_of_lt_of_le hol (Nat.le_add_right _ _)))).trans f10
  have f94 := (r25 (n0 + 0) (Nat.add_lt_add_left (by decide) n0) (fun q => absurd (Nat.add_left_cancel q) (by decide))).trans f93
  have f95 := (r32 (n0 + 0) (Nat.add_lt_add_left (by decide) n0) (fun q => absurd (Nat.add_left_cancel q) (by decide))).trans f94
  have f96 := (r40 (n0 + 0) (Nat.add_lt_add_left (by decide) n0) (Nat.ne_of_gt (Nat.lt_of_lt_of_le hol (Nat.le_add_right _ _)))).trans f95
  have f97 := (r45 (n0 + 0) (Nat.add_lt_add_left (by decide) n0) (fun q => absurd (Nat.add_left_cancel q) (by decide))).trans f96
  have f98 := (r52 (n0 + 0) (Nat.add_lt_add_left (by decide) n0) (fun q => absurd (Nat.add_left_cancel q) (by decide))).trans f97
  have f99 := (r60 (n0 + 0) (Nat.add_lt_add_left (by decide) n0) (Nat.ne_of_gt (Nat.lt_of_lt_of_le hol (Nat.le_add_right _ _)))).trans f98
  have f100 := (r65 (n0 + 0) (Nat.add_lt_add_left (by decide) n0) (fun q => absurd (Nat.add_left_cancel q) (by decide))).trans f99
  have f101 := (r71 (n0 + 0) (Nat.add_lt_add_left (by decide) n0) (Nat.ne_of_gt (Nat.lt_of_lt_of_le hol (Nat.le_add_right _ _)))).trans f100
  have f102 := (r76 (n0 + 0) (Nat.add_lt_add_left (by decide) n0) (fun q => absurd (Nat.add_left_cancel q) (by decide))).trans f101
  have f103 := (r82 (n0 + 0) (Nat.add_lt_add_left (by decide) n0) (Nat.ne_of_gt (Nat.lt_of_lt_of_le hol (Nat.le_add_right _ _)))).trans f102
  have f104 := (r87 (n0 + 0) (Nat.add_lt_add_left (by decide) n0) (Nat.ne_of_gt (Nat.lt_of_lt_of_le hol (Nat.le_add_right _ _)))).trans f103
  have f105 := (r92 (n0 + 0) (Nat.add_lt_add_left (by decide) n0) (Nat.ne_of_gt (Nat.lt_of_lt_of_le hol (Nat.le_add_right _ _)))).trans f104
  have b106 : At h16 (n0 + 1) (bk6 (n0 + 1)) := At.fr (m := 1) b11 bl6 r20 (bq (by decide)) (Or.inl (Nat.lt_of_lt_of_le hol (Nat.le_add_right _ _)))
  have b107 : At h21 (n0 + 1) (bk6 (n0 + 1)) := At.fr (m := 1) b106 bl6 r25 (bq (by decide)) (Or.inr (bq (by decide)))
  have b108 : At h27 (n0 + 1) (bk6 (n0 + 1)) := At.fr (m := 1) b107 bl6 r32 (bq (by decide)) (Or.inr (bq (by decide)))
  have b109 : At h36 (n0 + 1) (bk6 (n0 + 1)) := At.fr (m := 1) b108 bl6 r40 (bq (by decide)) (Or.inl (Nat.lt_of_lt_of_le hol (Nat.le_add_right _ _)))
  have b110 : At h41 (n0 + 1) (bk6 (n0 + 1)) := At.fr (m := 1) b109 bl6 r45 (bq (by decide)) (Or.inr (bq (by decide)))
  have b111 : At h47 (n0 + 1) (bk6 (n0 + 1)) := At.fr (m := 1) b110 bl6 r52 (bq (by decide)) (Or.inr (bq (by decide)))
  have b112 : At h56 (n0 + 1) (bk6 (n0 + 1)) := At.fr (m := 1) b111 bl6 r60 (bq (by decide)) (Or.inl (Nat.lt_of_lt_of_le hol (Nat.le_add_right _ _)))
  have b113 : At h61 (n0 + 1) (bk6 (n0 + 1)) := At.fr (m := 1) b112 bl6 r65 (bq (by decide)) (Or.inr (bq (by decide)))
  have b114 : At h67 (n0 + 1) (bk6 (n0 + 1)) := At.fr (m := 1) b113 bl6 r71 (bq (by decide)) (Or.inl (Nat.lt_of_lt_of_le hol (Nat.le_add_right _ _)))
  have b115 : At h72 (n0 + 1) (bk6 (n0 + 1)) := At.fr (m := 1) b114 bl6 r76 (bq (by decide)) (Or.inr (bq (by decide)))
  have b116 : At h78 (n0 + 1) (bk6 (n0 + 1)) := At.fr (m := 1) b115 bl6 r82 (bq (by decide)) (Or.inl (Nat.lt_of_lt_of_le hol (Nat.le_add_right _ _)))
  have b117 : At h83 (n0 + 1) (bk6 (n0 + 1)) := At.fr (m := 1) b116 bl6 r87 (bq (by decide)) (Or.inl (Nat.lt_of_lt_of_le hol (Nat.le_add_right _ _)))
  have b118 : At h88 (n0 + 1) (bk6 (n0 + 1)) := At.fr (m := 1) b117 bl6 r92 (bq (by decide)) (Or.inl (Nat.lt_of_lt_of_le hol (Nat.le_add_right _ _)))
  have f119 := (r40 (n0 + 2) (Nat.add_lt_add_left (by decide) n0) (Nat.ne_of_gt (Nat.lt_of_lt_of_le hol (Nat.le_add_right _ _)))).trans f30
  have f120 := (r45 (n0 + 2) (Nat.add_lt_add_left (by decide) n0) (fun q => absurd (Nat.add_left_cancel q) (by decide))).trans f119
  have f121 := (r52 (n0 + 2) (Nat.add_lt_add_left (by decide) n0) (fun q => absurd (Nat.add_left_cancel q) (by decide))).trans f120
  have f122 := (r60 (n0 + 2) (Nat.add_lt_add_left (by decide) n0) (Nat.ne_of_gt (Nat.lt_of_lt_of_le hol (Nat.le_add_right _ _)))).trans f121
  have f123 := (r65 (n0 + 2) (Nat.add_lt_add_left (by decide) n0) (fun q => absurd (Nat.add_left_cancel q) (by decide))).trans f122
  have f124 := (r71 (n0 + 2) (Nat.add_lt_add_left (by decide) n0) (Nat.ne_of_gt (Nat.lt_of_lt_of_le hol (Nat.le_add_right _ _)))).trans f123
  have f125 := (r76 (n0 + 2) (Nat.add_lt_add_left (by decide) n0) (fun q => absurd (Nat.add_left_cancel q) (by decide))).trans f124
  have f126 := (r82 (n0 + 2) (Nat.add_lt_add_left (by decide) n0) (Nat.ne_of_gt (Nat.lt_of_lt_of_le hol (Nat.le_add_right _ _)))).trans f125
  have f127 := (r87 (n0 + 2) (Nat.add_lt_add_left (by decide) n0) (Nat.ne_of_gt (Nat.lt_of_lt_of_le hol (Nat.le_add_right _ _)))).trans f126
  have f128 := (r92 (n0 + 2) (Nat.add_lt_add_left (by decide) n0) (Nat.ne_of_gt (Nat.lt_of_lt_of_le hol (Nat.le_add_right _ _)))).trans f127
  have b129 : At h36 (n0 + 3) (bk1 (n0 + 3)) := At.fr (m := 4) b31 bl1 r40 (bq (by decide)) (Or.inl (Nat.lt_of_lt_of_le hol (Nat.le_add_right _ _)))
  have b130 : At h41 (n0 + 3) (bk1 (n0 + 3)) := At.fr (m := 4) b129 bl1 r45 (bq (by decide)) (Or.inr (bq (by decide)))
  have b131 : At h47 (n0 + 3) (bk1 (n0 + 3)) := At.fr (m := 4) b130 bl1 r52 (bq (by decide)) (Or.inr (bq (by decide)))
  have b132 : At h56 (n0 + 3) (bk1 (n0 + 3)) := At.fr (m := 4) b131 bl1 r60 (bq (by decide)) (Or.inl (Nat.lt_of_lt_of_le hol (Nat.le_add_right _ _)))
  have b133 : At h61 (n0 + 3) (bk1 (n0 + 3)) := At.fr (m := 4) b132 bl1 r65 (bq (by decide)) (Or.inr (bq (by decide)))
  have b134 : At h67 (n0 + 3) (bk1 (n0 + 3)) := At.fr (m := 4) b133 bl1 r71 (bq (by decide)) (Or.inl (Nat.lt_of_lt_of_le hol (Nat.le_add_right _ _)))
  have b135 : At h72 (n0 + 3) (bk1 (n0 + 3)) := At.fr (m := 4) b134 bl1 r76 (bq (by decide)) (Or.inr (bq (by decide)))
  have b136 : At h78 (n0 + 3) (bk1 (n0 + 3)) := At.fr (m := 4) b135 bl1 r82 (bq (by decide)) (Or.inl (Nat.lt_of_lt_of_le hol (Nat.le_add_right _ _)))
  have b137 : At h83 (n0 + 3) (bk1 (n0 + 3)) := At.fr (m := 4) b136 bl1 r87 (bq (by decide)) (Or.inl (Nat.lt_of_lt_of_le hol (Nat.le_add_right _ _)))
  have b138 : At h88 (n0 + 3) (bk1 (n0 + 3)) := At.fr (m := 4) b137 bl1 r92 (bq (by decide)) (Or.inl (Nat.lt_of_lt_of_le hol (Nat.le_add_right _ _)))
  have f139 := (r60 (n0 + 7) (Nat.add_lt_add_left (by decide) n0) (Nat.ne_of_gt (Nat.lt_of_lt_of_le hol (Nat.le_add_right _ _)))).trans f50
  have f140 := (r65 (n0 + 7) (Nat.add_lt_add_left (by decide) n0) (fun q => absurd (Nat.add_left_cancel q) (by decide))).trans f139
  have f141 := (r71 (n0 + 7) (Nat.add_lt_add_left (by decide) n0) (Nat.ne_of_gt (Nat.lt_of_lt_of_le hol (Nat.le_add_right _ _)))).trans f140
  have f142 := (r76 (n0 + 7) (Nat.add_lt_add_left (by decide) n0) (fun q => absurd (Nat.add_left_cancel q) (by decide))).trans f141
  have f143 := (r82 (n0 + 7) (Nat.add_lt_add_left (by decide) n0) (Nat.ne_of_gt (Nat.lt_of_lt_of_le hol (Nat.le_add_right _ _)))).trans f142
  have f144 := (r87 (n0 + 7) (Nat.add_lt_add_left (by decide) n0) (Nat.ne_of_gt (Nat.lt_of_lt_of_le hol (Nat.le_add_right _ _)))).trans f143
  have f145 := (r92 (n0 + 7) (Nat.add_lt_add_left (by decide) n0) (Nat.ne_of_gt (Nat.lt_of_lt_of_le hol (Nat.le_add_right _ _)))).trans f144
  have b146 : At h56 (n0 + 8) (bk8 (n0 + 8)) := At.fr (m := 3) b51 bl8 r60 (bq (by decide)) (Or.inl (Nat.lt_of_lt_of_le hol (Nat.le_add_right _ _)))
  have b147 : At h61 (n0 + 8) (bk8 (n0 + 8)) := At.fr (m := 3) b146 bl8 r65 (bq (by decide)) (Or.inr (bq (by decide)))
  have b148 : At h67 (n0 + 8) (bk8 (n0 + 8)) := At.fr (m := 3) b147 bl8 r71 (bq (by decide)) (Or.inl (Nat.lt_of_lt_of_le hol (Nat.le_add_right _ _)))
  have b149 : At h72 (n0 + 8) (bk8 (n0 + 8)) := At.fr (m := 3) b148 bl8 r76 (bq (by decide)) (Or.inr (bq (by decide)))
  have b150 : At h78 (n0 + 8) (bk8 (n0 + 8)) := At.fr (m := 3) b149 bl8 r82 (bq (by decide)) (Or.inl (Nat.lt_of_lt_of_le hol (Nat.le_add_right _ _)))
  have b151 : At h83 (n0 + 8) (bk8 (n0 + 8)) := At.fr (m := 3) b150 bl8 r87 (bq (by decide)) (Or.inl (Nat.lt_of_lt_of_le hol (Nat.le_add_right _ _)))
  have b152 : At h88 (n0 + 8) (bk8 (n0 + 8)) := At.fr (m := 3) b151 bl8 r92 (bq (by decide)) (Or.inl (Nat.lt_of_lt_of_le hol (Nat.le_add_right _ _)))
  have f153 := (r71 (n0 + 11) (Nat.add_lt_add_left (by decide) n0) (Nat.ne_of_gt (Nat.lt_of_lt_of_le hol (Nat.le_add_right _ _)))).trans f63
  have f154 := (r76 (n0 + 11) (Nat.add_lt_add_left (by decide) n0) (fun q => absurd (Nat.add_left_cancel q) (by decide))).trans f153
  have f155 := (r82 (n0 + 11) (Nat.add_lt_add_left (by decide) n0) (Nat.ne_of_gt (Nat.lt_of_lt_of_le hol (Nat.le_add_right _ _)))).trans f154
  have f156 := (r87 (n0 + 11) (Nat.add_lt_add_left (by decide) n0) (Nat.ne_of_gt (Nat.lt_of_lt_of_le hol (Nat.le_add_right _ _)))).trans f155
  have f157 := (r92 (n0 + 11) (Nat.add_lt_add_left (by decide) n0) (Nat.ne_of_gt (Nat.lt_of_lt_of_le hol (Nat.le_add_right _ _)))).trans f156
  have f158 := (r82 (n0 + 12) (Nat.add_lt_add_left (by decide) n0) (Nat.ne_of_gt (Nat.lt_of_lt_of_le hol (Nat.le_add_right _ _)))).trans f74
  have f159 := (r87 (n0 + 12) (Nat.add_lt_add_left (by decide) n0) (Nat.ne_of_gt (Nat.lt_of_lt_of_le hol (Nat.le_add_right _ _)))).trans f158
  have f160 := (r92 (n0 + 12) (Nat.add_lt_add_left (by decide) n0) (Nat.ne_of_gt (Nat.lt_of_lt_of_le hol (Nat.le_add_right _ _)))).trans f159
  have hfr : ∀ j, j < n0 → j ≠ o → h88[j]? = h[j]? := by
    intro j hj hjo
    rw [r92 j (Nat.lt_of_lt_of_le hj (Nat.le_add_right _ _)) hjo, r87 j (Nat.lt_of_lt_of_le hj (Nat.le_add_right _ _)) hjo, r82 j (Nat.lt_of_lt_of_le hj (Nat.le_add_right _ _)) hjo, r76 j (Nat.lt_of_lt_of_le hj (Nat.le_add_right _ _)) (Nat.ne_of_lt (Nat.lt_of_lt_of_le hj (Nat.le_add_right _ _))), r71 j (Nat.lt_of_lt_of_le hj (Nat.le_add_right _ _)) hjo, r65 j (Nat.lt_of_lt_of_le hj (Nat.le_add_right _ _)) (Nat.ne_of_lt (Nat.lt_of_lt_of_le hj (Nat.le_add_right _ _))), r60 j (Nat.lt_of_lt_of_le hj (Nat.le_add_right _ _)) hjo, r52 j (Nat.lt_of_lt_of_le hj (Nat.le_add_right _ _)) (Nat.ne_of_lt (Nat.lt_of_lt_of_le hj (Nat.le_add_right _ _))), r45 j (Nat.lt_of_lt_of_le hj (Nat.le_add_right _ _)) (Nat.ne_of_lt (Nat.lt_of_lt_of_le hj (Nat.le_add_right _ _))), r40 j (Nat.lt_of_lt_of_le hj (Nat.le_add_right _ _)) hjo, r32 j (Nat.lt_of_lt_of_le hj (Nat.le_add_right _ _)) (Nat.ne_of_lt (Nat.lt_of_lt_of_le hj (Nat.le_add_right _ _))), r25 j (Nat.lt_of_lt_of_le hj (Nat.le_add_right _ _)) (Nat.ne_of_lt (Nat.lt_of_lt_of_le hj (Nat.le_add_right _ _))), r20 j (Nat.lt_of_lt_of_le hj (Nat.le_add_right _ _)) hjo, r12 j (Nat.lt_of_lt_of_le hj (Nat.le_add_right _ _)) (Nat.ne_of_lt (Nat.lt_of_lt_of_le hj (Nat.le_add_right _ _))), r5 j (Nat.lt_of_lt_of_le hj (Nat.le_add_right _ _)) (Nat.ne_of_lt (Nat.lt_of_lt_of_le hj (Nat.le_add_right _ _)))]
  exact J_vret hq dX3_init_61 rfl (hk1 hn l91) (by decide) (by decide) ⟨rfl, l91, f90, (At_cons f105 (At_app bl6 b118 (At_cons f128 (At_app bl1 b138 (At_cons f145 (At_app bl8 b152 (At_cons f157 (At_cons f160 At_nil)))))))), hfr⟩
def ob4 (n : Nat) : MC := (.inr (4, [.ref (n + 0), .int 0, .int 0, .int 0]))
def bk4 (n : Nat) : List MC := ob1 (n + 1) :: (bk1 (n + 1) ++ ([]))
set_option maxRecDepth 100000 in
theorem bl4 {n : Nat} : (bk4 n).length = 5 := rfl
set_option maxHeartbeats 4000000 in
set_option maxRecDepth 100000 in
theorem c_X4_init {d : Nat} {h : List MC} {o n0 : Nat} (hd : 2 ≤ d) (hn : h.length = n0) (ho : h[o]? = some (.inr (4, [.null, .int 0, .int 0, .int 0]))) : CT con0 d 5 161 yX4_init cX4_init 1 none [.ref o] h (fun r h2 => r = none ∧ h2.length = n0 + 5 ∧ h2[o]? = some (ob4 n0) ∧ At h2 n0 (bk4 n0) ∧ ∀ j, j < n0 → j ≠ o → h2[j]? = h[j]?) := by
  have hol : o < n0 := by rw [← hn]; exact (List.getElem?_eq_some_iff.mp ho).1
  have hn0 : h.length = n0 + 0 := hn
  refine CT_of (by decide) (Nat.le_of_ble_eq_true rfl) (fun x hq => ?_)
  show J x yX4_init cX4_init 1 none d 5 161 h.length 0 [(0, .ref o)] [] h 0 0
  refine J_aload_n (i := 0) (j := 0) dX4_init_0 rfl rfl ?_
  refine J_obj dX4_init_1 k291 k113 k114 (Nat.le_trans (by decide) hd) (Nat.le_of_ble_eq_true rfl) ?_
  refine J_aload_n (i := 0) (j := 0) dX4_init_4 rfl rfl ?_
  refine J_new (C := RX1) (T := TX1) (Z := 6) (ci := 1) (fs := [.int 0, .null, .int 0, .null, .null, .null]) (ty0 := tyX1) dX4_init_5 inG1 rfl tyX1_ok k292 k125 k89 fsX1 (hk1 hn hn0) (by decide) (by decide) ?_
  obtain ⟨h1, e2⟩ : ∃ z, z = h ++ [(.inr (1, [.int 0, .null, .int 0, .null, .null, .null]))] := ⟨_, rfl⟩
  refine J_w e2.symm ?_
  refine J_cr (v := n0 + 0) hn0 ?_
  have f3 := a_push e2 hn0
  have l4 : h1.length = n0 + 1 := l_push e2 hn0 rfl
  have r5 := r_push (a := n0 + 0) e2 hn0
  refine J_dup dX4_init_8 rfl ?_
  refine J_callIN (As := []) (rest := [.ref (n0 + 0), .ref o]) dX4_init_9 (c_X1_init (d := 1) (h := h1) (o := n0 + 0) (n0 := n0 + 1) (by decide) l4 f3) hq.n k293 k127 rfl rfl k89 k128 np_X1_init (Nat.le_trans (by decide) hd) (by decide) (by decide) (by decide) (hk1 hn l4) rfl (Nat.le_of_ble_eq_true rfl) (fun r6 h7 p8 => ?_)
  obtain ⟨rfl, l9, f10, b11, r12⟩ := p8
  have l13 : h7.length = n0 + 5 := l9
  have f14 := (r5 (o) (Nat.lt_of_lt_of_le hol (Nat.le_add_right _ _)) (Nat.ne_of_lt (Nat.lt_of_lt_of_le hol (Nat.le_add_right _ _)))).trans ho
  have f15 := (r12 (o) (Nat.lt_of_lt_of_le hol (Nat.le_add_right _ _)) (Nat.ne_of_lt (Nat.lt_of_lt_of_le hol (Nat.le_add_right _ _)))).trans f14
  obtain ⟨h16, e17⟩ : ∃ z, z = h7.set (o) (.inr (4, [.ref (n0 + 0), .int 0, .int 0, .int 0])) := ⟨_, rfl⟩
  refine J_putF (C := RX4) (T := TX4) (Z := 4) (ci := 4) (f := 0) (ty0 := tyX4) dX4_init_12 inG4 rfl tyX4_ok nmX4 (by decide) k294 rfl rfl rfl rfl f15 (Nat.le_of_ble_eq_true rfl) (fun _ _ => ⟨rfl, rfl⟩) e17.symm ?_
  have f18 := a_set e17 f15
  have l19 : h16.length = n0 + 5 := l_set e17 l13
  have r20 := r_set (N := n0 + 5) e17
  refine J_aload_n (i := 0) (j := 0) dX4_init_15 rfl rfl ?_
  refine J_iconst (v := 0) dX4_init_16 (by decide) ?_
  obtain ⟨h21, e22⟩ : ∃ z, z = h16.set (o) (.inr (4, [.ref (n0 + 0), .int 0, .int 0, .int 0])) := ⟨_, rfl⟩
  refine J_put (C := RX4) (T := TX4) (Z := 4) (ci := 4) (f := 1) (ty0 := tyX4) dX4_init_17 inG4 rfl tyX4_ok nmX4 (by decide) k296 rfl rfl f18 (Nat.le_of_ble_eq_true rfl) (fun _ _ => ⟨rfl, rfl⟩) e22.symm ?_
  have f23 := a_set e22 f18
  have l24 : h21.length = n0 + 5 := l_set e22 l19
  have r25 := r_set (N := n0 + 5) e22
  refine J_aload_n (i := 0) (j := 0) dX4_init_20 rfl rfl ?_
  refine J_iconst (v := 0) dX4_init_21 (by decide) ?_
  obtain ⟨h26, e27⟩ : ∃ z, z = h21.set (o) (.inr (4, [.ref (n0 + 0), .int 0, .int 0, .int 0])) := ⟨_, rfl⟩
  refine J_put (C := RX4) (T := TX4) (Z := 4) (ci := 4) (f := 2) (ty0 := tyX4) dX4_init_22 inG4 rfl tyX4_ok nmX4 (by decide) k298 rfl rfl f23 (Nat.le_of_ble_eq_true rfl) (fun _ _ => ⟨rfl, rfl⟩) e27.symm ?_
  have f28 := a_set e27 f23
  have l29 : h26.length = n0 + 5 := l_set e27 l24
  have r30 := r_set (N := n0 + 5) e27
  refine J_aload_n (i := 0) (j := 0) dX4_init_25 rfl rfl ?_
  refine J_iconst (v := 0) dX4_init_26 (by decide) ?_
  obtain ⟨h31, e32⟩ : ∃ z, z = h26.set (o) (.inr (4, [.ref (n0 + 0), .int 0, .int 0, .int 0])) := ⟨_, rfl⟩
  refine J_put (C := RX4) (T := TX4) (Z := 4) (ci := 4) (f := 3) (ty0 := tyX4) dX4_init_27 inG4 rfl tyX4_ok nmX4 (by decide) k300 rfl rfl f28 (Nat.le_of_ble_eq_true rfl) (fun _ _ => ⟨rfl, rfl⟩) e32.symm ?_
  have f33 := a_set e32 f28
  have l34 : h31.length = n0 + 5 := l_set e32 l29
  have r35 := r_set (N := n0 + 5) e32
  have f36 := (r20 (n0 + 0) (Nat.add_lt_add_left (by decide) n0) (Nat.ne_of_gt (Nat.lt_of_lt_of_le hol (Nat.le_add_right _ _)))).trans f10
  have f37 := (r25 (n0 + 0) (Nat.add_lt_add_left (by decide) n0) (Nat.ne_of_gt (Nat.lt_of_lt_of_le hol (Nat.le_add_right _ _)))).trans f36
  have f38 := (r30 (n0 + 0) (Nat.add_lt_add_left (by decide) n0) (Nat.ne_of_gt (Nat.lt_of_lt_of_le hol (Nat.le_add_right _ _)))).trans f37
  have f39 := (r35 (n0 + 0) (Nat.add_lt_add_left (by decide) n0) (Nat.ne_of_gt (Nat.lt_of_lt_of_le hol (Nat.le_add_right _ _)))).trans f38
  have b40 : At h16 (n0 + 1) (bk1 (n0 + 1)) := At.fr (m := 4) b11 bl1 r20 (bq (by decide)) (Or.inl (Nat.lt_of_lt_of_le hol (Nat.le_add_right _ _)))
  have b41 : At h21 (n0 + 1) (bk1 (n0 + 1)) := At.fr (m := 4) b40 bl1 r25 (bq (by decide)) (Or.inl (Nat.lt_of_lt_of_le hol (Nat.le_add_right _ _)))
  have b42 : At h26 (n0 + 1) (bk1 (n0 + 1)) := At.fr (m := 4) b41 bl1 r30 (bq (by decide)) (Or.inl (Nat.lt_of_lt_of_le hol (Nat.le_add_right _ _)))
  have b43 : At h31 (n0 + 1) (bk1 (n0 + 1)) := At.fr (m := 4) b42 bl1 r35 (bq (by decide)) (Or.inl (Nat.lt_of_lt_of_le hol (Nat.le_add_right _ _)))
  have hfr : ∀ j, j < n0 → j ≠ o → h31[j]? = h[j]? := by
    intro j hj hjo
    rw [r35 j (Nat.lt_of_lt_of_le hj (Nat.le_add_right _ _)) hjo, r30 j (Nat.lt_of_lt_of_le hj (Nat.le_add_right _ _)) hjo, r25 j (Nat.lt_of_lt_of_le hj (Nat.le_add_right _ _)) hjo, r20 j (Nat.lt_of_lt_of_le hj (Nat.le_add_right _ _)) hjo, r12 j (Nat.lt_of_lt_of_le hj (Nat.le_add_right _ _)) (Nat.ne_of_lt (Nat.lt_of_lt_of_le hj (Nat.le_add_right _ _))), r5 j (Nat.lt_of_lt_of_le hj (Nat.le_add_right _ _)) (Nat.ne_of_lt (Nat.lt_of_lt_of_le hj (Nat.le_add_right _ _)))]
  exact J_vret hq dX4_init_30 rfl (hk1 hn l34) (by decide) (by decide) ⟨rfl, l34, f33, (At_cons f39 (At_app bl1 b43 At_nil)), hfr⟩
def ob2 (n : Nat) : MC := (.inr (2, [.ref (n + 0), .ref (n + 3), .ref (n + 8), .ref (n + 9), .ref (n + 10), .ref (n + 11)]))
def bk2 (n : Nat) : List MC := ob5 (n + 1) :: (bk5 (n + 1) ++ (ob1 (n + 4) :: (bk1 (n + 4) ++ ((.inl (1, 2048, .inl (fun _ => 0))) :: ((.inl (1, 512, .inl (fun _ => 0))) :: ((.inl (2, 512, .inr (.inl (fun _ => 0)))) :: ((.inl (2, 512, .inr (.inl (fun _ => 0)))) :: ([]))))))))
set_option maxRecDepth 100000 in
theorem bl2 {n : Nat} : (bk2 n).length = 12 := rfl
set_option maxHeartbeats 4000000 in
set_option maxRecDepth 100000 in
theorem c_X2_init {d : Nat} {h : List MC} {o n0 : Nat} (hd : 2 ≤ d) (hn : h.length = n0) (ho : h[o]? = some (.inr (2, [.null, .null, .null, .null, .null, .null]))) : CT con0 d 12 3770 yX2_init cX2_init 1 none [.ref o] h (fun r h2 => r = none ∧ h2.length = n0 + 12 ∧ h2[o]? = some (ob2 n0) ∧ At h2 n0 (bk2 n0) ∧ ∀ j, j < n0 → j ≠ o → h2[j]? = h[j]?) := by
  have hol : o < n0 := by rw [← hn]; exact (List.getElem?_eq_some_iff.mp ho).1
  have hn0 : h.length = n0 + 0 := hn
  refine CT_of (by decide) (Nat.le_of_ble_eq_true rfl) (fun x hq => ?_)
  show J x yX2_init cX2_init 1 none d 12 3770 h.length 0 [(0, .ref o)] [] h 0 0
  refine J_aload_n (i := 0) (j := 0) dX2_init_0 rfl rfl ?_
  refine J_obj dX2_init_1 k357 k113 k114 (Nat.le_trans (by decide) hd) (Nat.le_of_ble_eq_true rfl) ?_
  refine J_aload_n (i := 0) (j := 0) dX2_init_4 rfl rfl ?_
  refine J_new (C := RX5) (T := TX5) (Z := 7) (ci := 5) (fs := [.int 0, .int 0, .int 0, .int 0, .int 0, .null, .null]) (ty0 := tyX5) dX2_init_5 inG5 rfl tyX5_ok k358 k314 k94 fsX5 (hk1 hn hn0) (by decide) (by decide) ?_
  obtain ⟨h1, e2⟩ : ∃ z, z = h ++ [(.inr (5, [.int 0, .int 0, .int 0, .int 0, .int 0, .null, .null]))] := ⟨_, rfl⟩
  refine J_w e2.symm ?_
  refine J_cr (v := n0 + 0) hn0 ?_
  have f3 := a_push e2 hn0
  have l4 : h1.length = n0 + 1 := l_push e2 hn0 rfl
  have r5 := r_push (a := n0 + 0) e2 hn0
  refine J_dup dX2_init_8 rfl ?_
  refine J_callIN (As := []) (rest := [.ref (n0 + 0), .ref o]) dX2_init_9 (c_X5_init (d := 1) (h := h1) (o := n0 + 0) (n0 := n0 + 1) (by decide) l4 f3) hq.n k359 k316 rfl rfl k94 k317 np_X5_init (Nat.le_trans (by decide) hd) (by decide) (by decide) (by decide) (hk1 hn l4) rfl (Nat.le_of_ble_eq_true rfl) (fun r6 h7 p8 => ?_)
  obtain ⟨rfl, l9, f10, b11, r12⟩ := p8
  have l13 : h7.length = n0 + 3 := l9
  have f14 := (r5 (o) (Nat.lt_of_lt_of_le hol (Nat.le_add_right _ _)) (Nat.ne_of_lt (Nat.lt_of_lt_of_le hol (Nat.le_add_right _ _)))).trans ho
  have f15 := (r12 (o) (Nat.lt_of_lt_of_le hol (Nat.le_add_right _ _)) (Nat.ne_of_lt (Nat.lt_of_lt_of_le hol (Nat.le_add_right _ _)))).trans f14
  obtain ⟨h16, e17⟩ : ∃ z, z = h7.set (o) (.inr (2, [.ref (n0 + 0), .null, .null, .null, .null, .null])) := ⟨_, rfl⟩
  refine J_putF (C := RX2) (T := TX2) (Z := 6) (ci := 2) (f := 0) (ty0 := tyX2) dX2_init_12 inG2 rfl tyX2_ok nmX2 (by decide) k362 rfl rfl rfl rfl f15 (Nat.le_of_ble_eq_true rfl) (fun _ _ => ⟨rfl, rfl⟩) e17.symm ?_
  have f18 := a_set e17 f15
  have l19 : h16.length = n0 + 3 := l_set e17 l13
  have r20 := r_set (N := n0 + 3) e17
  refine J_aload_n (i := 0) (j := 0) dX2_init_15 rfl rfl ?_
  refine J_new (C := RX1) (T := TX1) (Z := 6) (ci := 1) (fs := [.int 0, .null, .int 0, .null, .null, .null]) (ty0 := tyX1) dX2_init_16 inG1 rfl tyX1_ok k360 k125 k89 fsX1 (hk1 hn l19) (by decide) (by decide) ?_
  obtain ⟨h21, e22⟩ : ∃ z, z = h16 ++ [(.inr (1, [.int 0, .null, .int 0, .null, .null, .null]))] := ⟨_, rfl⟩
  refine J_w e22.symm ?_
  refine J_cr (v := n0 + 3) l19 ?_
  have f23 := a_push e22 l19
  have l24 : h21.length = n0 + 4 := l_push e22 l19 rfl
  have r25 := r_push (a := n0 + 3) e22 l19
  refine J_dup dX2_init_19 rfl ?_
  refine J_callIN (As := []) (rest := [.ref (n0 + 3), .ref o]) dX2_init_20 (c_X1_init (d := 1) (h := h21) (o := n0 + 3) (n0 := n0 + 4) (by decide) l24 f23) hq.n k361 k127 rfl rfl k89 k128 np_X1_init (Nat.le_trans (by decide) hd) (by decide) (by decide) (by decide) (hk1 hn l24) rfl (Nat.le_of_ble_eq_true rfl) (fun r26 h27 p28 => ?_)
  obtain ⟨rfl, l29, f30, b31, r32⟩ := p28
  have l33 : h27.length = n0 + 8 := l29
  have f34 := (r25 (o) (Nat.lt_of_lt_of_le hol (Nat.le_add_right _ _)) (Nat.ne_of_lt (Nat.lt_of_lt_of_le hol (Nat.le_add_right _ _)))).trans f18
  have f35 := (r32 (o) (Nat.lt_of_lt_of_le hol (Nat.le_add_right _ _)) (Nat.ne_of_lt (Nat.lt_of_lt_of_le hol (Nat.le_add_right _ _)))).trans f34
  obtain ⟨h36, e37⟩ : ∃ z, z = h27.set (o) (.inr (2, [.ref (n0 + 0), .ref (n0 + 3), .null, .null, .null, .null])) := ⟨_, rfl⟩
  refine J_putF (C := RX2) (T := TX2) (Z := 6) (ci := 2) (f := 1) (ty0 := tyX2) dX2_init_23 inG2 rfl tyX2_ok nmX2 (by decide) k363 rfl rfl rfl rfl f35 (Nat.le_of_ble_eq_true rfl) (fun _ _ => ⟨rfl, rfl⟩) e37.symm ?_
  have f38 := a_set e37 f35
  have l39 : h36.length = n0 + 8 := l_set e37 l33
  have r40 := r_set (N := n0 + 8) e37
  refine J_aload_n (i := 0) (j := 0) dX2_init_26 rfl rfl ?_
  refine J_sipush (v := 2048) dX2_init_27 (by decide) ?_
  refine J_newa1 (Z := 2048) dX2_init_30 ka1 (by decide) (by decide) (by decide) (hk1 hn l39) (by decide) (by decide) ?_
  obtain ⟨h41, e42⟩ : ∃ z, z = h36 ++ [(.inl (1, 2048, .inl (fun _ => 0)))] := ⟨_, rfl⟩
  refine J_w e42.symm ?_
  refine J_cr (v := n0 + 8) l39 ?_
  have f43 := a_push e42 l39
  have l44 : h41.length = n0 + 9 := l_push e42 l39 rfl
  have r45 := r_push (a := n0 + 8) e42 l39
  have f46 := (r45 (o) (Nat.lt_of_lt_of_le hol (Nat.le_add_right _ _)) (Nat.ne_of_lt (Nat.lt_of_lt_of_le hol (Nat.le_add_right _ _)))).trans f38
  obtain ⟨h47, e48⟩ : ∃ z, z = h41.set (o) (.inr (2, [.ref (n0 + 0), .ref (n0 + 3), .ref (n0 + 8), .null, .null, .null])) := ⟨_, rfl⟩
  refine J_putF (C := RX2) (T := TX2) (Z := 6) (ci := 2) (f := 2) (ty0 := tyX2) dX2_init_32 inG2 rfl tyX2_ok nmX2 (by decide) k365 rfl rfl rfl rfl f46 (Nat.le_of_ble_eq_true rfl) (fun _ _ => ⟨rfl, rfl⟩) e48.symm ?_
  have f49 := a_set e48 f46
  have l50 : h47.length = n0 + 9 := l_set e48 l44
  have r51 := r_set (N := n0 + 9) e48
  refine J_aload_n (i := 0) (j := 0) dX2_init_35 rfl rfl ?_
  refine J_sipush (v := 512) dX2_init_36 (by decide) ?_
  refine J_newa1 (Z := 512) dX2_init_39 ka1 (by decide) (by decide) (by decide) (hk1 hn l50) (by decide) (by decide) ?_
  obtain ⟨h52, e53⟩ : ∃ z, z = h47 ++ [(.inl (1, 512, .inl (fun _ => 0)))] := ⟨_, rfl⟩
  refine J_w e53.symm ?_
  refine J_cr (v := n0 + 9) l50 ?_
  have f54 := a_push e53 l50
  have l55 : h52.length = n0 + 10 := l_push e53 l50 rfl
  have r56 := r_push (a := n0 + 9) e53 l50
  have f57 := (r56 (o) (Nat.lt_of_lt_of_le hol (Nat.le_add_right _ _)) (Nat.ne_of_lt (Nat.lt_of_lt_of_le hol (Nat.le_add_right _ _)))).trans f49
  obtain ⟨h58, e59⟩ : ∃ z, z = h52.set (o) (.inr (2, [.ref (n0 + 0), .ref (n0 + 3), .ref (n0 + 8), .ref (n0 + 9), .null, .null])) := ⟨_, rfl⟩
  refine J_putF (C := RX2) (T := TX2) (Z := 6) (ci := 2) (f := 3) (ty0 := tyX2) dX2_init_41 inG2 rfl tyX2_ok nmX2 (by decide) k366 rfl rfl rfl rfl f57 (Nat.le_of_ble_eq_true rfl) (fun _ _ => ⟨rfl, rfl⟩) e59.symm ?_
  have f60 := a_set e59 f57
  have l61 : h58.length = n0 + 10 := l_set e59 l55
  have r62 := r_set (N := n0 + 10) e59
  refine J_aload_n (i := 0) (j := 0) dX2_init_44 rfl rfl ?_
  refine J_sipush (v := 512) dX2_init_45 (by decide) ?_
  refine J_newa2 (Z := 512) dX2_init_48 ka2 (by decide) (by decide) (by decide) (hk1 hn l61) (by decide) (by decide) ?_
  obtain ⟨h63, e64⟩ : ∃ z, z = h58 ++ [(.inl (2, 512, .inr (.inl (fun _ => 0))))] := ⟨_, rfl⟩
  refine J_w e64.symm ?_
  refine J_cr (v := n0 + 10) l61 ?_
  have f65 := a_push e64 l61
  have l66 : h63.length = n0 + 11 := l_push e64 l61 rfl
  have r67 := r_push (a := n0 + 10) e64 l61
  have f68 := (r67 (o) (Nat.lt_of_lt_of_le hol (Nat.le_add_right _ _)) (Nat.ne_of_lt (Nat.lt_of_lt_of_le hol (Nat.le_add_right _ _)))).trans f60
  obtain ⟨h69, e70⟩ : ∃ z, z = h63.set (o) (.inr (2, [.ref (n0 + 0), .ref (n0 + 3), .ref (n0 + 8), .ref (n0 + 9), .ref (n0 + 10), .null])) := ⟨_, rfl⟩
  refine J_putF (C := RX2) (T := TX2) (Z := 6) (ci := 2) (f := 4) (ty0 := tyX2) dX2_init_50 inG2 rfl tyX2_ok nmX2 (by decide) k367 rfl rfl rfl rfl f68 (Nat.le_of_ble_eq_true rfl) (fun _ _ => ⟨rfl, rfl⟩) e70.symm ?_
  have f71 := a_set e70 f68
  have l72 : h69.length = n0 + 11 := l_set e70 l66
  have r73 := r_set (N := n0 + 11) e70
  refine J_aload_n (i := 0) (j := 0) dX2_init_53 rfl rfl ?_
  refine J_sipush (v := 512) dX2_init_54 (by decide) ?_
  refine J_newa2 (Z := 512) dX2_init_57 ka2 (by decide) (by decide) (by decide) (hk1 hn l72) (by decide) (by decide) ?_
  obtain ⟨h74, e75⟩ : ∃ z, z = h69 ++ [(.inl (2, 512, .inr (.inl (fun _ => 0))))] := ⟨_, rfl⟩
  refine J_w e75.symm ?_
  refine J_cr (v := n0 + 11) l72 ?_
  have f76 := a_push e75 l72
  have l77 : h74.length = n0 + 12 := l_push e75 l72 rfl
  have r78 := r_push (a := n0 + 11) e75 l72
  have f79 := (r78 (o) (Nat.lt_of_lt_of_le hol (Nat.le_add_right _ _)) (Nat.ne_of_lt (Nat.lt_of_lt_of_le hol (Nat.le_add_right _ _)))).trans f71
  obtain ⟨h80, e81⟩ : ∃ z, z = h74.set (o) (.inr (2, [.ref (n0 + 0), .ref (n0 + 3), .ref (n0 + 8), .ref (n0 + 9), .ref (n0 + 10), .ref (n0 + 11)])) := ⟨_, rfl⟩
  refine J_putF (C := RX2) (T := TX2) (Z := 6) (ci := 2) (f := 5) (ty0 := tyX2) dX2_init_59 inG2 rfl tyX2_ok nmX2 (by decide) k368 rfl rfl rfl rfl f79 (Nat.le_of_ble_eq_true rfl) (fun _ _ => ⟨rfl, rfl⟩) e81.symm ?_
  have f82 := a_set e81 f79
  have l83 : h80.length = n0 + 12 := l_set e81 l77
  have r84 := r_set (N := n0 + 12) e81
  have f85 := (r20 (n0 + 0) (Nat.add_lt_add_left (by decide) n0) (Nat.ne_of_gt (Nat.lt_of_lt_of_le hol (Nat.le_add_right _ _)))).trans f10
  have f86 := (r25 (n0 + 0) (Nat.add_lt_add_left (by decide) n0) (fun q => absurd (Nat.add_left_cancel q) (by decide))).trans f85
  have f87 := (r32 (n0 + 0) (Nat.add_lt_add_left (by decide) n0) (fun q => absurd (Nat.add_left_cancel q) (by decide))).trans f86
  have f88 := (r40 (n0 + 0) (Nat.add_lt_add_left (by decide) n0) (Nat.ne_of_gt (Nat.lt_of_lt_of_le hol (Nat.le_add_right _ _)))).trans f87
  have f89 := (r45 (n0 + 0) (Nat.add_lt_add_left (by decide) n0) (fun q => absurd (Nat.add_left_cancel q) (by decide))).trans f88
  have f90 := (r51 (n0 + 0) (Nat.add_lt_add_left (by decide) n0) (Nat.ne_of_gt (Nat.lt_of_lt_of_le hol (Nat.le_add_right _ _)))).trans f89
  have f91 := (r56 (n0 + 0) (Nat.add_lt_add_left (by decide) n0) (fun q => absurd (Nat.add_left_cancel q) (by decide))).trans f90
  have f92 := (r62 (n0 + 0) (Nat.add_lt_add_left (by decide) n0) (Nat.ne_of_gt (Nat.lt_of_lt_of_le hol (Nat.le_add_right _ _)))).trans f91
  have f93 := (r67 (n0 + 0) (Nat.add_lt_add_left (by decide) n0) (fun q => absurd (Nat.add_left_cancel q) (by decide))).trans f92
  have f94 := (r73 (n0 + 0) (Nat.add_lt_add_left (by decide) n0) (Nat.ne_of_gt (Nat.lt_of_lt_of_le hol (Nat.le_add_right _ _)))).trans f93
  have f95 := (r78 (n0 + 0) (Nat.add_lt_add_left (by decide) n0) (fun q => absurd (Nat.add_left_cancel q) (by decide))).trans f94
  have f96 := (r84 (n0 + 0) (Nat.add_lt_add_left (by decide) n0) (Nat.ne_of_gt (Nat.lt_of_lt_of_le hol (Nat.le_add_right _ _)))).trans f95
  have b97 : At h16 (n0 + 1) (bk5 (n0 + 1)) := At.fr (m := 2) b11 bl5 r20 (bq (by decide)) (Or.inl (Nat.lt_of_lt_of_le hol (Nat.le_add_right _ _)))
  have b98 : At h21 (n0 + 1) (bk5 (n0 + 1)) := At.fr (m := 2) b97 bl5 r25 (bq (by decide)) (Or.inr (bq (by decide)))
  have b99 : At h27 (n0 + 1) (bk5 (n0 + 1)) := At.fr (m := 2) b98 bl5 r32 (bq (by decide)) (Or.inr (bq (by decide)))
  have b100 : At h36 (n0 + 1) (bk5 (n0 + 1)) := At.fr (m := 2) b99 bl5 r40 (bq (by decide)) (Or.inl (Nat.lt_of_lt_of_le hol (Nat.le_add_right _ _)))
  have b101 : At h41 (n0 + 1) (bk5 (n0 + 1)) := At.fr (m := 2) b100 bl5 r45 (bq (by decide)) (Or.inr (bq (by decide)))
  have b102 : At h47 (n0 + 1) (bk5 (n0 + 1)) := At.fr (m := 2) b101 bl5 r51 (bq (by decide)) (Or.inl (Nat.lt_of_lt_of_le hol (Nat.le_add_right _ _)))
  have b103 : At h52 (n0 + 1) (bk5 (n0 + 1)) := At.fr (m := 2) b102 bl5 r56 (bq (by decide)) (Or.inr (bq (by decide)))
  have b104 : At h58 (n0 + 1) (bk5 (n0 + 1)) := At.fr (m := 2) b103 bl5 r62 (bq (by decide)) (Or.inl (Nat.lt_of_lt_of_le hol (Nat.le_add_right _ _)))
  have b105 : At h63 (n0 + 1) (bk5 (n0 + 1)) := At.fr (m := 2) b104 bl5 r67 (bq (by decide)) (Or.inr (bq (by decide)))
  have b106 : At h69 (n0 + 1) (bk5 (n0 + 1)) := At.fr (m := 2) b105 bl5 r73 (bq (by decide)) (Or.inl (Nat.lt_of_lt_of_le hol (Nat.le_add_right _ _)))
  have b107 : At h74 (n0 + 1) (bk5 (n0 + 1)) := At.fr (m := 2) b106 bl5 r78 (bq (by decide)) (Or.inr (bq (by decide)))
  have b108 : At h80 (n0 + 1) (bk5 (n0 + 1)) := At.fr (m := 2) b107 bl5 r84 (bq (by decide)) (Or.inl (Nat.lt_of_lt_of_le hol (Nat.le_add_right _ _)))
  have f109 := (r40 (n0 + 3) (Nat.add_lt_add_left (by decide) n0) (Nat.ne_of_gt (Nat.lt_of_lt_of_le hol (Nat.le_add_right _ _)))).trans f30
  have f110 := (r45 (n0 + 3) (Nat.add_lt_add_left (by decide) n0) (fun q => absurd (Nat.add_left_cancel q) (by decide))).trans f109
  have f111 := (r51 (n0 + 3) (Nat.add_lt_add_left (by decide) n0) (Nat.ne_of_gt (Nat.lt_of_lt_of_le hol (Nat.le_add_right _ _)))).trans f110
  have f112 := (r56 (n0 + 3) (Nat.add_lt_add_left (by decide) n0) (fun q => absurd (Nat.add_left_cancel q) (by decide))).trans f111
  have f113 := (r62 (n0 + 3) (Nat.add_lt_add_left (by decide) n0) (Nat.ne_of_gt (Nat.lt_of_lt_of_le hol (Nat.le_add_right _ _)))).trans f112
  have f114 := (r67 (n0 + 3) (Nat.add_lt_add_left (by decide) n0) (fun q => absurd (Nat.add_left_cancel q) (by decide))).trans f113
  have f115 := (r73 (n0 + 3) (Nat.add_lt_add_left (by decide) n0) (Nat.ne_of_gt (Nat.lt_of_lt_of_le hol (Nat.le_add_right _ _)))).trans f114
  have f116 := (r78 (n0 + 3) (Nat.add_lt_add_left (by decide) n0) (fun q => absurd (Nat.add_left_cancel q) (by decide))).trans f115
  have f117 := (r84 (n0 + 3) (Nat.add_lt_add_left (by decide) n0) (Nat.ne_of_gt (Nat.lt_of_lt_of_le hol (Nat.le_add_right _ _)))).trans f116
  have b118 : At h36 (n0 + 4) (bk1 (n0 + 4)) := At.fr (m := 4) b31 bl1 r40 (bq (by decide)) (Or.inl (Nat.lt_of_lt_of_le hol (Nat.le_add_right _ _)))
  have b119 : At h41 (n0 + 4) (bk1 (n0 + 4)) := At.fr (m := 4) b118 bl1 r45 (bq (by decide)) (Or.inr (bq (by decide)))
  have b120 : At h47 (n0 + 4) (bk1 (n0 + 4)) := At.fr (m := 4) b119 bl1 r51 (bq (by decide)) (Or.inl (Nat.lt_of_lt_of_le hol (Nat.le_add_right _ _)))
  have b121 : At h52 (n0 + 4) (bk1 (n0 + 4)) := At.fr (m := 4) b120 bl1 r56 (bq (by decide)) (Or.inr (bq (by decide)))
  have b122 : At h58 (n0 + 4) (bk1 (n0 + 4)) := At.fr (m := 4) b121 bl1 r62 (bq (by decide)) (Or.inl (Nat.lt_of_lt_of_le hol (Nat.le_add_right _ _)))
  have b123 : At h63 (n0 + 4) (bk1 (n0 + 4)) := At.fr (m := 4) b122 bl1 r67 (bq (by decide)) (Or.inr (bq (by decide)))
  have b124 : At h69 (n0 + 4) (bk1 (n0 + 4)) := At.fr (m := 4) b123 bl1 r73 (bq (by decide)) (Or.inl (Nat.lt_of_lt_of_le hol (Nat.le_add_right _ _)))
  have b125 : At h74 (n0 + 4) (bk1 (n0 + 4)) := At.fr (m := 4) b124 bl1 r78 (bq (by decide)) (Or.inr (bq (by decide)))
  have b126 : At h80 (n0 + 4) (bk1 (n0 + 4)) := At.fr (m := 4) b125 bl1 r84 (bq (by decide)) (Or.inl (Nat.lt_of_lt_of_le hol (Nat.le_add_right _ _)))
  have f127 := (r51 (n0 + 8) (Nat.add_lt_add_left (by decide) n0) (Nat.ne_of_gt (Nat.lt_of_lt_of_le hol (Nat.le_add_right _ _)))).trans f43
  have f128 := (r56 (n0 + 8) (Nat.add_lt_add_left (by decide) n0) (fun q => absurd (Nat.add_left_cancel q) (by decide))).trans f127
  have f129 := (r62 (n0 + 8) (Nat.add_lt_add_left (by decide) n0) (Nat.ne_of_gt (Nat.lt_of_lt_of_le hol (Nat.le_add_right _ _)))).trans f128
  have f130 := (r67 (n0 + 8) (Nat.add_lt_add_left (by decide) n0) (fun q => absurd (Nat.add_left_cancel q) (by decide))).trans f129
  have f131 := (r73 (n0 + 8) (Nat.add_lt_add_left (by decide) n0) (Nat.ne_of_gt (Nat.lt_of_lt_of_le hol (Nat.le_add_right _ _)))).trans f130
  have f132 := (r78 (n0 + 8) (Nat.add_lt_add_left (by decide) n0) (fun q => absurd (Nat.add_left_cancel q) (by decide))).trans f131
  have f133 := (r84 (n0 + 8) (Nat.add_lt_add_left (by decide) n0) (Nat.ne_of_gt (Nat.lt_of_lt_of_le hol (Nat.le_add_right _ _)))).trans f132
  have f134 := (r62 (n0 + 9) (Nat.add_lt_add_left (by decide) n0) (Nat.ne_of_gt (Nat.lt_of_lt_of_le hol (Nat.le_add_right _ _)))).trans f54
  have f135 := (r67 (n0 + 9) (Nat.add_lt_add_left (by decide) n0) (fun q => absurd (Nat.add_left_cancel q) (by decide))).trans f134
  have f136 := (r73 (n0 + 9) (Nat.add_lt_add_left (by decide) n0) (Nat.ne_of_gt (Nat.lt_of_lt_of_le hol (Nat.le_add_right _ _)))).trans f135
  have f137 := (r78 (n0 + 9) (Nat.add_lt_add_left (by decide) n0) (fun q => absurd (Nat.add_left_cancel q) (by decide))).trans f136
  have f138 := (r84 (n0 + 9) (Nat.add_lt_add_left (by decide) n0) (Nat.ne_of_gt (Nat.lt_of_lt_of_le hol (Nat.le_add_right _ _)))).trans f137
  have f139 := (r73 (n0 + 10) (Nat.add_lt_add_left (by decide) n0) (Nat.ne_of_gt (Nat.lt_of_lt_of_le hol (Nat.le_add_right _ _)))).trans f65
  have f140 := (r78 (n0 + 10) (Nat.add_lt_add_left (by decide) n0) (fun q => absurd (Nat.add_left_cancel q) (by decide))).trans f139
  have f141 := (r84 (n0 + 10) (Nat.add_lt_add_left (by decide) n0) (Nat.ne_of_gt (Nat.lt_of_lt_of_le hol (Nat.le_add_right _ _)))).trans f140
  have f142 := (r84 (n0 + 11) (Nat.add_lt_add_left (by decide) n0) (Nat.ne_of_gt (Nat.lt_of_lt_of_le hol (Nat.le_add_right _ _)))).trans f76
  have hfr : ∀ j, j < n0 → j ≠ o → h80[j]? = h[j]? := by
    intro j hj hjo
    rw [r84 j (Nat.lt_of_lt_of_le hj (Nat.le_add_right _ _)) hjo, r78 j (Nat.lt_of_lt_of_le hj (Nat.le_add_right _ _)) (Nat.ne_of_lt (Nat.lt_of_lt_of_le hj (Nat.le_add_right _ _))), r73 j (Nat.lt_of_lt_of_le hj (Nat.le_add_right _ _)) hjo, r67 j (Nat.lt_of_lt_of_le hj (Nat.le_add_right _ _)) (Nat.ne_of_lt (Nat.lt_of_lt_of_le hj (Nat.le_add_right _ _))), r62 j (Nat.lt_of_lt_of_le hj (Nat.le_add_right _ _)) hjo, r56 j (Nat.lt_of_lt_of_le hj (Nat.le_add_right _ _)) (Nat.ne_of_lt (Nat.lt_of_lt_of_le hj (Nat.le_add_right _ _))), r51 j (Nat.lt_of_lt_of_le hj (Nat.le_add_right _ _)) hjo, r45 j (Nat.lt_of_lt_of_le hj (Nat.le_add_right _ _)) (Nat.ne_of_lt (Nat.lt_of_lt_of_le hj (Nat.le_add_right _ _))), r40 j (Nat.lt_of_lt_of_le hj (Nat.le_add_right _ _)) hjo, r32 j (Nat.lt_of_lt_of_le hj (Nat.le_add_right _ _)) (Nat.ne_of_lt (Nat.lt_of_lt_of_le hj (Nat.le_add_right _ _))), r25 j (Nat.lt_of_lt_of_le hj (Nat.le_add_right _ _)) (Nat.ne_of_lt (Nat.lt_of_lt_of_le hj (Nat.le_add_right _ _))), r20 j (Nat.lt_of_lt_of_le hj (Nat.le_add_right _ _)) hjo, r12 j (Nat.lt_of_lt_of_le hj (Nat.le_add_right _ _)) (Nat.ne_of_lt (Nat.lt_of_lt_of_le hj (Nat.le_add_right _ _))), r5 j (Nat.lt_of_lt_of_le hj (Nat.le_add_right _ _)) (Nat.ne_of_lt (Nat.lt_of_lt_of_le hj (Nat.le_add_right _ _)))]
  exact J_vret hq dX2_init_62 rfl (hk1 hn l83) (by decide) (by decide) ⟨rfl, l83, f82, (At_cons f96 (At_app bl5 b108 (At_cons f117 (At_app bl1 b126 (At_cons f133 (At_cons f138 (At_cons f141 (At_cons f142 At_nil)))))))), hfr⟩
def ob0 (n : Nat) : MC := (.inr (0, [.ref (n + 0), .ref (n + 13), .int (-1), .int (-1), .long 0, .int 0, .ref (n + 18), .ref (n + 19), .ref (n + 20), .ref (n + 21)]))
def bk0 (n : Nat) : List MC := ob2 (n + 1) :: (bk2 (n + 1) ++ (ob1 (n + 14) :: (bk1 (n + 14) ++ ((.inl (1, 4, .inl (fun _ => 0))) :: ((.inl (1, 4, .inl (fun _ => 0))) :: ((.inl (1, 4, .inl (fun _ => 0))) :: ((.inl (2, 16, .inr (.inl (fun _ => 0)))) :: ([]))))))))
set_option maxRecDepth 100000 in
theorem bl0 {n : Nat} : (bk0 n).length = 22 := rfl
set_option maxHeartbeats 4000000 in
set_option maxRecDepth 100000 in
theorem c_X0_init {d : Nat} {h : List MC} {o n0 : Nat} (hd : 3 ≤ d) (hn : h.length = n0) (ho : h[o]? = some (.inr (0, [.null, .null, .int 0, .int 0, .long 0, .int 0, .null, .null, .null, .null]))) : CT con0 d 22 3965 yX0_init cX0_init 1 none [.ref o] h (fun r h2 => r = none ∧ h2.length = n0 + 22 ∧ h2[o]? = some (ob0 n0) ∧ At h2 n0 (bk0 n0) ∧ ∀ j, j < n0 → j ≠ o → h2[j]? = h[j]?) := by
  have hol : o < n0 := by rw [← hn]; exact (List.getElem?_eq_some_iff.mp ho).1
  have hn0 : h.length = n0 + 0 := hn
  refine CT_of (by decide) (Nat.le_of_ble_eq_true rfl) (fun x hq => ?_)
  show J x yX0_init cX0_init 1 none d 22 3965 h.length 0 [(0, .ref o)] [] h 0 0
  refine J_aload_n (i := 0) (j := 0) dX0_init_0 rfl rfl ?_
  refine J_obj dX0_init_1 k351 k113 k114 (Nat.le_trans (by decide) hd) (Nat.le_of_ble_eq_true rfl) ?_
  refine J_aload_n (i := 0) (j := 0) dX0_init_4 rfl rfl ?_
  refine J_new (C := RX2) (T := TX2) (Z := 6) (ci := 2) (fs := [.null, .null, .null, .null, .null, .null]) (ty0 := tyX2) dX0_init_5 inG2 rfl tyX2_ok k352 k353 k96 fsX2 (hk1 hn hn0) (by decide) (by decide) ?_
  obtain ⟨h1, e2⟩ : ∃ z, z = h ++ [(.inr (2, [.null, .null, .null, .null, .null, .null]))] := ⟨_, rfl⟩
  refine J_w e2.symm ?_
  refine J_cr (v := n0 + 0) hn0 ?_
  have f3 := a_push e2 hn0
  have l4 : h1.length = n0 + 1 := l_push e2 hn0 rfl
  have r5 := r_push (a := n0 + 0) e2 hn0
  refine J_dup dX0_init_8 rfl ?_
  refine J_callIN (As := []) (rest := [.ref (n0 + 0), .ref o]) dX0_init_9 (c_X2_init (d := 2) (h := h1) (o := n0 + 0) (n0 := n0 + 1) (by decide) l4 f3) hq.n k354 k355 rfl rfl k96 k356 np_X2_init (Nat.le_trans (by decide) hd) (by decide) (by decide) (by decide) (hk1 hn l4) rfl (Nat.le_of_ble_eq_true rfl) (fun r6 h7 p8 => ?_)
  obtain ⟨rfl, l9, f10, b11, r12⟩ := p8
  have l13 : h7.length = n0 + 13 := l9
  have f14 := (r5 (o) (Nat.lt_of_lt_of_le hol (Nat.le_add_right _ _)) (Nat.ne_of_lt (Nat.lt_of_lt_of_le hol (Nat.le_add_right _ _)))).trans ho
  have f15 := (r12 (o) (Nat.lt_of_lt_of_le hol (Nat.le_add_right _ _)) (Nat.ne_of_lt (Nat.lt_of_lt_of_le hol (Nat.le_add_right _ _)))).trans f14
  obtain ⟨h16, e17⟩ : ∃ z, z = h7.set (o) (.inr (0, [.ref (n0 + 0), .null, .int 0, .int 0, .long 0, .int 0, .null, .null, .null, .null])) := ⟨_, rfl⟩
  refine J_putF (C := RX0) (T := TX0) (Z := 10) (ci := 0) (f := 0) (ty0 := tyX0) dX0_init_12 inG0 rfl tyX0_ok nmX0 (by decide) k386 rfl rfl rfl rfl f15 (Nat.le_of_ble_eq_true rfl) (fun _ _ => ⟨rfl, rfl⟩) e17.symm ?_
  have f18 := a_set e17 f15
  have l19 : h16.length = n0 + 13 := l_set e17 l13
  have r20 := r_set (N := n0 + 13) e17
  refine J_aload_n (i := 0) (j := 0) dX0_init_15 rfl rfl ?_
  refine J_new (C := RX1) (T := TX1) (Z := 6) (ci := 1) (fs := [.int 0, .null, .int 0, .null, .null, .null]) (ty0 := tyX1) dX0_init_16 inG1 rfl tyX1_ok k384 k125 k89 fsX1 (hk1 hn l19) (by decide) (by decide) ?_
  obtain ⟨h21, e22⟩ : ∃ z, z = h16 ++ [(.inr (1, [.int 0, .null, .int 0, .null, .null, .null]))] := ⟨_, rfl⟩
  refine J_w e22.symm ?_
  refine J_cr (v := n0 + 13) l19 ?_
  have f23 := a_push e22 l19
  have l24 : h21.length = n0 + 14 := l_push e22 l19 rfl
  have r25 := r_push (a := n0 + 13) e22 l19
  refine J_dup dX0_init_19 rfl ?_
  refine J_callIN (As := []) (rest := [.ref (n0 + 13), .ref o]) dX0_init_20 (c_X1_init (d := 1) (h := h21) (o := n0 + 13) (n0 := n0 + 14) (by decide) l24 f23) hq.n k385 k127 rfl rfl k89 k128 np_X1_init (Nat.le_trans (by decide) hd) (by decide) (by decide) (by decide) (hk1 hn l24) rfl (Nat.le_of_ble_eq_true rfl) (fun r26 h27 p28 => ?_)
  obtain ⟨rfl, l29, f30, b31, r32⟩ := p28
  have l33 : h27.length = n0 + 18 := l29
  have f34 := (r25 (o) (Nat.lt_of_lt_of_le hol (Nat.le_add_right _ _)) (Nat.ne_of_lt (Nat.lt_of_lt_of_le hol (Nat.le_add_right _ _)))).trans f18
  have f35 := (r32 (o) (Nat.lt_of_lt_of_le hol (Nat.le_add_right _ _)) (Nat.ne_of_lt (Nat.lt_of_lt_of_le hol (Nat.le_add_right _ _)))).trans f34
  obtain ⟨h36, e37⟩ : ∃ z, z = h27.set (o) (.inr (0, [.ref (n0 + 0), .ref (n0 + 13), .int 0, .int 0, .long 0, .int 0, .null, .null, .null, .null])) := ⟨_, rfl⟩
  refine J_putF (C := RX0) (T := TX0) (Z := 10) (ci := 0) (f := 1) (ty0 := tyX0) dX0_init_23 inG0 rfl tyX0_ok nmX0 (by decide) k388 rfl rfl rfl rfl f35 (Nat.le_of_ble_eq_true rfl) (fun _ _ => ⟨rfl, rfl⟩) e37.symm ?_
  have f38 := a_set e37 f35
  have l39 : h36.length = n0 + 18 := l_set e37 l33
  have r40 := r_set (N := n0 + 18) e37
  refine J_aload_n (i := 0) (j := 0) dX0_init_26 rfl rfl ?_
  refine J_iconst (v := (-1)) dX0_init_27 (by decide) ?_
  obtain ⟨h41, e42⟩ : ∃ z, z = h36.set (o) (.inr (0, [.ref (n0 + 0), .ref (n0 + 13), .int (-1), .int 0, .long 0, .int 0, .null, .null, .null, .null])) := ⟨_, rfl⟩
  refine J_put (C := RX0) (T := TX0) (Z := 10) (ci := 0) (f := 2) (ty0 := tyX0) dX0_init_28 inG0 rfl tyX0_ok nmX0 (by decide) k389 rfl rfl f38 (Nat.le_of_ble_eq_true rfl) (fun _ _ => ⟨rfl, rfl⟩) e42.symm ?_
  have f43 := a_set e42 f38
  have l44 : h41.length = n0 + 18 := l_set e42 l39
  have r45 := r_set (N := n0 + 18) e42
  refine J_aload_n (i := 0) (j := 0) dX0_init_31 rfl rfl ?_
  refine J_iconst (v := (-1)) dX0_init_32 (by decide) ?_
  obtain ⟨h46, e47⟩ : ∃ z, z = h41.set (o) (.inr (0, [.ref (n0 + 0), .ref (n0 + 13), .int (-1), .int (-1), .long 0, .int 0, .null, .null, .null, .null])) := ⟨_, rfl⟩
  refine J_put (C := RX0) (T := TX0) (Z := 10) (ci := 0) (f := 3) (ty0 := tyX0) dX0_init_33 inG0 rfl tyX0_ok nmX0 (by decide) k391 rfl rfl f43 (Nat.le_of_ble_eq_true rfl) (fun _ _ => ⟨rfl, rfl⟩) e47.symm ?_
  have f48 := a_set e47 f43
  have l49 : h46.length = n0 + 18 := l_set e47 l44
  have r50 := r_set (N := n0 + 18) e47
  refine J_aload_n (i := 0) (j := 0) dX0_init_36 rfl rfl ?_
  refine J_lconst (v := 0) dX0_init_37 (by decide) ?_
  obtain ⟨h51, e52⟩ : ∃ z, z = h46.set (o) (.inr (0, [.ref (n0 + 0), .ref (n0 + 13), .int (-1), .int (-1), .long 0, .int 0, .null, .null, .null, .null])) := ⟨_, rfl⟩
  refine J_put (C := RX0) (T := TX0) (Z := 10) (ci := 0) (f := 4) (ty0 := tyX0) dX0_init_38 inG0 rfl tyX0_ok nmX0 (by decide) k393 rfl rfl f48 (Nat.le_of_ble_eq_true rfl) (fun _ _ => ⟨rfl, rfl⟩) e52.symm ?_
  have f53 := a_set e52 f48
  have l54 : h51.length = n0 + 18 := l_set e52 l49
  have r55 := r_set (N := n0 + 18) e52
  refine J_aload_n (i := 0) (j := 0) dX0_init_41 rfl rfl ?_
  refine J_iconst (v := 0) dX0_init_42 (by decide) ?_
  obtain ⟨h56, e57⟩ : ∃ z, z = h51.set (o) (.inr (0, [.ref (n0 + 0), .ref (n0 + 13), .int (-1), .int (-1), .long 0, .int 0, .null, .null, .null, .null])) := ⟨_, rfl⟩
  refine J_put (C := RX0) (T := TX0) (Z := 10) (ci := 0) (f := 5) (ty0 := tyX0) dX0_init_43 inG0 rfl tyX0_ok nmX0 (by decide) k395 rfl rfl f53 (Nat.le_of_ble_eq_true rfl) (fun _ _ => ⟨rfl, rfl⟩) e57.symm ?_
  have f58 := a_set e57 f53
  have l59 : h56.length = n0 + 18 := l_set e57 l54
  have r60 := r_set (N := n0 + 18) e57
  refine J_aload_n (i := 0) (j := 0) dX0_init_46 rfl rfl ?_
  refine J_iconst (v := 4) dX0_init_47 (by decide) ?_
  refine J_newa1 (Z := 4) dX0_init_48 ka1 (by decide) (by decide) (by decide) (hk1 hn l59) (by decide) (by decide) ?_
  obtain ⟨h61, e62⟩ : ∃ z, z = h56 ++ [(.inl (1, 4, .inl (fun _ => 0)))] := ⟨_, rfl⟩
  refine J_w e62.symm ?_
  refine J_cr (v := n0 + 18) l59 ?_
  have f63 := a_push e62 l59
  have l64 : h61.length = n0 + 19 := l_push e62 l59 rfl
  have r65 := r_push (a := n0 + 18) e62 l59
  have f66 := (r65 (o) (Nat.lt_of_lt_of_le hol (Nat.le_add_right _ _)) (Nat.ne_of_lt (Nat.lt_of_lt_of_le hol (Nat.le_add_right _ _)))).trans f58
  obtain ⟨h67, e68⟩ : ∃ z, z = h61.set (o) (.inr (0, [.ref (n0 + 0), .ref (n0 + 13), .int (-1), .int (-1), .long 0, .int 0, .ref (n0 + 18), .null, .null, .null])) := ⟨_, rfl⟩
  refine J_putF (C := RX0) (T := TX0) (Z := 10) (ci := 0) (f := 6) (ty0 := tyX0) dX0_init_50 inG0 rfl tyX0_ok nmX0 (by decide) k396 rfl rfl rfl rfl f66 (Nat.le_of_ble_eq_true rfl) (fun _ _ => ⟨rfl, rfl⟩) e68.symm ?_
  have f69 := a_set e68 f66
  have l70 : h67.length = n0 + 19 := l_set e68 l64
  have r71 := r_set (N := n0 + 19) e68
  refine J_aload_n (i := 0) (j := 0) dX0_init_53 rfl rfl ?_
  refine J_iconst (v := 4) dX0_init_54 (by decide) ?_
  refine J_newa1 (Z := 4) dX0_init_55 ka1 (by decide) (by decide) (by decide) (hk1 hn l70) (by decide) (by decide) ?_
  obtain ⟨h72, e73⟩ : ∃ z, z = h67 ++ [(.inl (1, 4, .inl (fun _ => 0)))] := ⟨_, rfl⟩
  refine J_w e73.symm ?_
  refine J_cr (v := n0 + 19) l70 ?_
  have f74 := a_push e73 l70
  have l75 : h72.length = n0 + 20 := l_push e73 l70 rfl
  have r76 := r_push (a := n0 + 19) e73 l70
  have f77 := (r76 (o) (Nat.lt_of_lt_of_le hol (Nat.le_add_right _ _)) (Nat.ne_of_lt (Nat.lt_of_lt_of_le hol (Nat.le_add_right _ _)))).trans f69
  obtain ⟨h78, e79⟩ : ∃ z, z = h72.set (o) (.inr (0, [.ref (n0 + 0), .ref (n0 + 13), .int (-1), .int (-1), .long 0, .int 0, .ref (n0 + 18), .ref (n0 + 19), .null, .null])) := ⟨_, rfl⟩
  refine J_putF (C := RX0) (T := TX0) (Z := 10) (ci := 0) (f := 7) (ty0 := tyX0) dX0_init_57 inG0 rfl tyX0_ok nmX0 (by decide) k397 rfl rfl rfl rfl f77 (Nat.le_of_ble_eq_true rfl) (fun _ _ => ⟨rfl, rfl⟩) e79.symm ?_
  have f80 := a_set e79 f77
  have l81 : h78.length = n0 + 20 := l_set e79 l75
  have r82 := r_set (N := n0 + 20) e79
  refine J_aload_n (i := 0) (j := 0) dX0_init_60 rfl rfl ?_
  refine J_iconst (v := 4) dX0_init_61 (by decide) ?_
  refine J_newa1 (Z := 4) dX0_init_62 ka1 (by decide) (by decide) (by decide) (hk1 hn l81) (by decide) (by decide) ?_
  obtain ⟨h83, e84⟩ : ∃ z, z = h78 ++ [(.inl (1, 4, .inl (fun _ => 0)))] := ⟨_, rfl⟩
  refine J_w e84.symm ?_
  refine J_cr (v := n0 + 20) l81 ?_
  have f85 := a_push e84 l81
  have l86 : h83.length = n0 + 21 := l_push e84 l81 rfl
  have r87 := r_push (a := n0 + 20) e84 l81
  have f88 := (r87 (o) (Nat.lt_of_lt_of_le hol (Nat.le_add_right _ _)) (Nat.ne_of_lt (Nat.lt_of_lt_of_le hol (Nat.le_add_right _ _)))).trans f80
  obtain ⟨h89, e90⟩ : ∃ z, z = h83.set (o) (.inr (0, [.ref (n0 + 0), .ref (n0 + 13), .int (-1), .int (-1), .long 0, .int 0, .ref (n0 + 18), .ref (n0 + 19), .ref (n0 + 20), .null])) := ⟨_, rfl⟩
  refine J_putF (C := RX0) (T := TX0) (Z := 10) (ci := 0) (f := 8) (ty0 := tyX0) dX0_init_64 inG0 rfl tyX0_ok nmX0 (by decide) k398 rfl rfl rfl rfl f88 (Nat.le_of_ble_eq_true rfl) (fun _ _ => ⟨rfl, rfl⟩) e90.symm ?_
  have f91 := a_set e90 f88
  have l92 : h89.length = n0 + 21 := l_set e90 l86
  have r93 := r_set (N := n0 + 21) e90
  refine J_aload_n (i := 0) (j := 0) dX0_init_67 rfl rfl ?_
  refine J_bipush (v := 16) dX0_init_68 (by decide) ?_
  refine J_newa2 (Z := 16) dX0_init_70 ka2 (by decide) (by decide) (by decide) (hk1 hn l92) (by decide) (by decide) ?_
  obtain ⟨h94, e95⟩ : ∃ z, z = h89 ++ [(.inl (2, 16, .inr (.inl (fun _ => 0))))] := ⟨_, rfl⟩
  refine J_w e95.symm ?_
  refine J_cr (v := n0 + 21) l92 ?_
  have f96 := a_push e95 l92
  have l97 : h94.length = n0 + 22 := l_push e95 l92 rfl
  have r98 := r_push (a := n0 + 21) e95 l92
  have f99 := (r98 (o) (Nat.lt_of_lt_of_le hol (Nat.le_add_right _ _)) (Nat.ne_of_lt (Nat.lt_of_lt_of_le hol (Nat.le_add_right _ _)))).trans f91
  obtain ⟨h100, e101⟩ : ∃ z, z = h94.set (o) (.inr (0, [.ref (n0 + 0), .ref (n0 + 13), .int (-1), .int (-1), .long 0, .int 0, .ref (n0 + 18), .ref (n0 + 19), .ref (n0 + 20), .ref (n0 + 21)])) := ⟨_, rfl⟩
  refine J_putF (C := RX0) (T := TX0) (Z := 10) (ci := 0) (f := 9) (ty0 := tyX0) dX0_init_72 inG0 rfl tyX0_ok nmX0 (by decide) k399 rfl rfl rfl rfl f99 (Nat.le_of_ble_eq_true rfl) (fun _ _ => ⟨rfl, rfl⟩) e101.symm ?_
  have f102 := a_set e101 f99
  have l103 : h100.length = n0 + 22 := l_set e101 l97
  have r104 := r_set (N := n0 + 22) e101
  have f105 := (r20 (n0 + 0) (Nat.add_lt_add_left (by decide) n0) (Nat.ne_of_gt (Nat.lt_of_lt_of_le hol (Nat.le_add_right _ _)))).trans f10
  have f106 := (r25 (n0 + 0) (Nat.add_lt_add_left (by decide) n0) (fun q => absurd (Nat.add_left_cancel q) (by decide))).trans f105
  have f107 := (r32 (n0 + 0) (Nat.add_lt_add_left (by decide) n0) (fun q => absurd (Nat.add_left_cancel q) (by decide))).trans f106
  have f108 := (r40 (n0 + 0) (Nat.add_lt_add_left (by decide) n0) (Nat.ne_of_gt (Nat.lt_of_lt_of_le hol (Nat.le_add_right _ _)))).trans f107
  have f109 := (r45 (n0 + 0) (Nat.add_lt_add_left (by decide) n0) (Nat.ne_of_gt (Nat.lt_of_lt_of_le hol (Nat.le_add_right _ _)))).trans f108
  have f110 := (r50 (n0 + 0) (Nat.add_lt_add_left (by decide) n0) (Nat.ne_of_gt (Nat.lt_of_lt_of_le hol (Nat.le_add_right _ _)))).trans f109
  have f111 := (r55 (n0 + 0) (Nat.add_lt_add_left (by decide) n0) (Nat.ne_of_gt (Nat.lt_of_lt_of_le hol (Nat.le_add_right _ _)))).trans f110
  have f112 := (r60 (n0 + 0) (Nat.add_lt_add_left (by decide) n0) (Nat.ne_of_gt (Nat.lt_of_lt_of_le hol (Nat.le_add_right _ _)))).trans f111
  have f113 := (r65 (n0 + 0) (Nat.add_lt_add_left (by decide) n0) (fun q => absurd (Nat.add_left_cancel q) (by decide))).trans f112
  have f114 := (r71 (n0 + 0) (Nat.add_lt_add_left (by decide) n0) (Nat.ne_of_gt (Nat.lt_of_lt_of_le hol (Nat.le_add_right _ _)))).trans f113
  have f115 := (r76 (n0 + 0) (Nat.add_lt_add_left (by decide) n0) (fun q => absurd (Nat.add_left_cancel q) (by decide))).trans f114
  have f116 := (r82 (n0 + 0) (Nat.add_lt_add_left (by decide) n0) (Nat.ne_of_gt (Nat.lt_of_lt_of_le hol (Nat.le_add_right _ _)))).trans f115
  have f117 := (r87 (n0 + 0) (Nat.add_lt_add_left (by decide) n0) (fun q => absurd (Nat.add_left_cancel q) (by decide))).trans f116
  have f118 := (r93 (n0 + 0) (Nat.add_lt_add_left (by decide) n0) (Nat.ne_of_gt (Nat.lt_of_lt_of_le hol (Nat.le_add_right _ _)))).trans f117
  have f119 := (r98 (n0 + 0) (Nat.add_lt_add_left (by decide) n0) (fun q => absurd (Nat.add_left_cancel q) (by decide))).trans f118
  have f120 := (r104 (n0 + 0) (Nat.add_lt_add_left (by decide) n0) (Nat.ne_of_gt (Nat.lt_of_lt_of_le hol (Nat.le_add_right _ _)))).trans f119
  have b121 : At h16 (n0 + 1) (bk2 (n0 + 1)) := At.fr (m := 12) b11 bl2 r20 (bq (by decide)) (Or.inl (Nat.lt_of_lt_of_le hol (Nat.le_add_right _ _)))
  have b122 : At h21 (n0 + 1) (bk2 (n0 + 1)) := At.fr (m := 12) b121 bl2 r25 (bq (by decide)) (Or.inr (bq (by decide)))
  have b123 : At h27 (n0 + 1) (bk2 (n0 + 1)) := At.fr (m := 12) b122 bl2 r32 (bq (by decide)) (Or.inr (bq (by decide)))
  have b124 : At h36 (n0 + 1) (bk2 (n0 + 1)) := At.fr (m := 12) b123 bl2 r40 (bq (by decide)) (Or.inl (Nat.lt_of_lt_of_le hol (Nat.le_add_right _ _)))
  have b125 : At h41 (n0 + 1) (bk2 (n0 + 1)) := At.fr (m := 12) b124 bl2 r45 (bq (by decide)) (Or.inl (Nat.lt_of_lt_of_le hol (Nat.le_add_right _ _)))
  have b126 : At h46 (n0 + 1) (bk2 (n0 + 1)) := At.fr (m := 12) b125 bl2 r50 (bq (by decide)) (Or.inl (Nat.lt_of_lt_of_le hol (Nat.le_add_right _ _)))
  have b127 : At h51 (n0 + 1) (bk2 (n0 + 1)) := At.fr (m := 12) b126 bl2 r55 (bq (by decide)) (Or.inl (Nat.lt_of_lt_of_le hol (Nat.le_add_right _ _)))
  have b128 : At h56 (n0 + 1) (bk2 (n0 + 1)) := At.fr (m := 12) b127 bl2 r60 (bq (by decide)) (Or.inl (Nat.lt_of_lt_of_le hol (Nat.le_add_right _ _)))
  have b129 : At h61 (n0 + 1) (bk2 (n0 + 1)) := At.fr (m := 12) b128 bl2 r65 (bq (by decide)) (Or.inr (bq (by decide)))
  have b130 : At h67 (n0 + 1) (bk2 (n0 + 1)) := At.fr (m := 12) b129 bl2 r71 (bq (by decide)) (Or.inl (Nat.lt_of_lt_of_le hol (Nat.le_add_right _ _)))
  have b131 : At h72 (n0 + 1) (bk2 (n0 + 1)) := At.fr (m := 12) b130 bl2 r76 (bq (by decide)) (Or.inr (bq (by decide)))
  have b132 : At h78 (n0 + 1) (bk2 (n0 + 1)) := At.fr (m := 12) b131 bl2 r82 (bq (by decide)) (Or.inl (Nat.lt_of_lt_of_le hol (Nat.le_add_right _ _)))
  have b133 : At h83 (n0 + 1) (bk2 (n0 + 1)) := At.fr (m := 12) b132 bl2 r87 (bq (by decide)) (Or.inr (bq (by decide)))
  have b134 : At h89 (n0 + 1) (bk2 (n0 + 1)) := At.fr (m := 12) b133 bl2 r93 (bq (by decide)) (Or.inl (Nat.lt_of_lt_of_le hol (Nat.le_add_right _ _)))
  have b135 : At h94 (n0 + 1) (bk2 (n0 + 1)) := At.fr (m := 12) b134 bl2 r98 (bq (by decide)) (Or.inr (bq (by decide)))
  have b136 : At h100 (n0 + 1) (bk2 (n0 + 1)) := At.fr (m := 12) b135 bl2 r104 (bq (by decide)) (Or.inl (Nat.lt_of_lt_of_le hol (Nat.le_add_right _ _)))
  have f137 := (r40 (n0 + 13) (Nat.add_lt_add_left (by decide) n0) (Nat.ne_of_gt (Nat.lt_of_lt_of_le hol (Nat.le_add_right _ _)))).trans f30
  have f138 := (r45 (n0 + 13) (Nat.add_lt_add_left (by decide) n0) (Nat.ne_of_gt (Nat.lt_of_lt_of_le hol (Nat.le_add_right _ _)))).trans f137
  have f139 := (r50 (n0 + 13) (Nat.add_lt_add_left (by decide) n0) (Nat.ne_of_gt (Nat.lt_of_lt_of_le hol (Nat.le_add_right _ _)))).trans f138
  have f140 := (r55 (n0 + 13) (Nat.add_lt_add_left (by decide) n0) (Nat.ne_of_gt (Nat.lt_of_lt_of_le hol (Nat.le_add_right _ _)))).trans f139
  have f141 := (r60 (n0 + 13) (Nat.add_lt_add_left (by decide) n0) (Nat.ne_of_gt (Nat.lt_of_lt_of_le hol (Nat.le_add_right _ _)))).trans f140
  have f142 := (r65 (n0 + 13) (Nat.add_lt_add_left (by decide) n0) (fun q => absurd (Nat.add_left_cancel q) (by decide))).trans f141
  have f143 := (r71 (n0 + 13) (Nat.add_lt_add_left (by decide) n0) (Nat.ne_of_gt (Nat.lt_of_lt_of_le hol (Nat.le_add_right _ _)))).trans f142
  have f144 := (r76 (n0 + 13) (Nat.add_lt_add_left (by decide) n0) (fun q => absurd (Nat.add_left_cancel q) (by decide))).trans f143
  have f145 := (r82 (n0 + 13) (Nat.add_lt_add_left (by decide) n0) (Nat.ne_of_gt (Nat.lt_of_lt_of_le hol (Nat.le_add_right _ _)))).trans f144
  have f146 := (r87 (n0 + 13) (Nat.add_lt_add_left (by decide) n0) (fun q => absurd (Nat.add_left_cancel q) (by decide))).trans f145
  have f147 := (r93 (n0 + 13) (Nat.add_lt_add_left (by decide) n0) (Nat.ne_of_gt (Nat.lt_of_lt_of_le hol (Nat.le_add_right _ _)))).trans f146
  have f148 := (r98 (n0 + 13) (Nat.add_lt_add_left (by decide) n0) (fun q => absurd (Nat.add_left_cancel q) (by decide))).trans f147
  have f149 := (r104 (n0 + 13) (Nat.add_lt_add_left (by decide) n0) (Nat.ne_of_gt (Nat.lt_of_lt_of_le hol (Nat.le_add_right _ _)))).trans f148
  have b150 : At h36 (n0 + 14) (bk1 (n0 + 14)) := At.fr (m := 4) b31 bl1 r40 (bq (by decide)) (Or.inl (Nat.lt_of_lt_of_le hol (Nat.le_add_right _ _)))
  have b151 : At h41 (n0 + 14) (bk1 (n0 + 14)) := At.fr (m := 4) b150 bl1 r45 (bq (by decide)) (Or.inl (Nat.lt_of_lt_of_le hol (Nat.le_add_right _ _)))
  have b152 : At h46 (n0 + 14) (bk1 (n0 + 14)) := At.fr (m := 4) b151 bl1 r50 (bq (by decide)) (Or.inl (Nat.lt_of_lt_of_le hol (Nat.le_add_right _ _)))
  have b153 : At h51 (n0 + 14) (bk1 (n0 + 14)) := At.fr (m := 4) b152 bl1 r55 (bq (by decide)) (Or.inl (Nat.lt_of_lt_of_le hol (Nat.le_add_right _ _)))
  have b154 : At h56 (n0 + 14) (bk1 (n0 + 14)) := At.fr (m := 4) b153 bl1 r60 (bq (by decide)) (Or.inl (Nat.lt_of_lt_of_le hol (Nat.le_add_right _ _)))
  have b155 : At h61 (n0 + 14) (bk1 (n0 + 14)) := At.fr (m := 4) b154 bl1 r65 (bq (by decide)) (Or.inr (bq (by decide)))
  have b156 : At h67 (n0 + 14) (bk1 (n0 + 14)) := At.fr (m := 4) b155 bl1 r71 (bq (by decide)) (Or.inl (Nat.lt_of_lt_of_le hol (Nat.le_add_right _ _)))
  have b157 : At h72 (n0 + 14) (bk1 (n0 + 14)) := At.fr (m := 4) b156 bl1 r76 (bq (by decide)) (Or.inr (bq (by decide)))
  have b158 : At h78 (n0 + 14) (bk1 (n0 + 14)) := At.fr (m := 4) b157 bl1 r82 (bq (by decide)) (Or.inl (Nat.lt_of_lt_of_le hol (Nat.le_add_right _ _)))
  have b159 : At h83 (n0 + 14) (bk1 (n0 + 14)) := At.fr (m := 4) b158 bl1 r87 (bq (by decide)) (Or.inr (bq (by decide)))
  have b160 : At h89 (n0 + 14) (bk1 (n0 + 14)) := At.fr (m := 4) b159 bl1 r93 (bq (by decide)) (Or.inl (Nat.lt_of_lt_of_le hol (Nat.le_add_right _ _)))
  have b161 : At h94 (n0 + 14) (bk1 (n0 + 14)) := At.fr (m := 4) b160 bl1 r98 (bq (by decide)) (Or.inr (bq (by decide)))
  have b162 : At h100 (n0 + 14) (bk1 (n0 + 14)) := At.fr (m := 4) b161 bl1 r104 (bq (by decide)) (Or.inl (Nat.lt_of_lt_of_le hol (Nat.le_add_right _ _)))
  have f163 := (r71 (n0 + 18) (Nat.add_lt_add_left (by decide) n0) (Nat.ne_of_gt (Nat.lt_of_lt_of_le hol (Nat.le_add_right _ _)))).trans f63
  have f164 := (r76 (n0 + 18) (Nat.add_lt_add_left (by decide) n0) (fun q => absurd (Nat.add_left_cancel q) (by decide))).trans f163
  have f165 := (r82 (n0 + 18) (Nat.add_lt_add_left (by decide) n0) (Nat.ne_of_gt (Nat.lt_of_lt_of_le hol (Nat.le_add_right _ _)))).trans f164
  have f166 := (r87 (n0 + 18) (Nat.add_lt_add_left (by decide) n0) (fun q => absurd (Nat.add_left_cancel q) (by decide))).trans f165
  have f167 := (r93 (n0 + 18) (Nat.add_lt_add_left (by decide) n0) (Nat.ne_of_gt (Nat.lt_of_lt_of_le hol (Nat.le_add_right _ _)))).trans f166
  have f168 := (r98 (n0 + 18) (Nat.add_lt_add_left (by decide) n0) (fun q => absurd (Nat.add_left_cancel q) (by decide))).trans f167
  have f169 := (r104 (n0 + 18) (Nat.add_lt_add_left (by decide) n0) (Nat.ne_of_gt (Nat.lt_of_lt_of_le hol (Nat.le_add_right _ _)))).trans f168
  have f170 := (r82 (n0 + 19) (Nat.add_lt_add_left (by decide) n0) (Nat.ne_of_gt (Nat.lt_of_lt_of_le hol (Nat.le_add_right _ _)))).trans f74
  have f171 := (r87 (n0 + 19) (Nat.add_lt_add_left (by decide) n0) (fun q => absurd (Nat.add_left_cancel q) (by decide))).trans f170
  have f172 := (r93 (n0 + 19) (Nat.add_lt_add_left (by decide) n0) (Nat.ne_of_gt (Nat.lt_of_lt_of_le hol (Nat.le_add_right _ _)))).trans f171
  have f173 := (r98 (n0 + 19) (Nat.add_lt_add_left (by decide) n0) (fun q => absurd (Nat.add_left_cancel q) (by decide))).trans f172
  have f174 := (r104 (n0 + 19) (Nat.add_lt_add_left (by decide) n0) (Nat.ne_of_gt (Nat.lt_of_lt_of_le hol (Nat.le_add_right _ _)))).trans f173
  have f175 := (r93 (n0 + 20) (Nat.add_lt_add_left (by decide) n0) (Nat.ne_of_gt (Nat.lt_of_lt_of_le hol (Nat.le_add_right _ _)))).trans f85
  have f176 := (r98 (n0 + 20) (Nat.add_lt_add_left (by decide) n0) (fun q => absurd (Nat.add_left_cancel q) (by decide))).trans f175
  have f177 := (r104 (n0 + 20) (Nat.add_lt_add_left (by decide) n0) (Nat.ne_of_gt (Nat.lt_of_lt_of_le hol (Nat.le_add_right _ _)))).trans f176
  have f178 := (r104 (n0 + 21) (Nat.add_lt_add_left (by decide) n0) (Nat.ne_of_gt (Nat.lt_of_lt_of_le hol (Nat.le_add_right _ _)))).trans f96
  have hfr : ∀ j, j < n0 → j ≠ o → h100[j]? = h[j]? := by
    intro j hj hjo
    rw [r104 j (Nat.lt_of_lt_of_le hj (Nat.le_add_right _ _)) hjo, r98 j (Nat.lt_of_lt_of_le hj (Nat.le_add_right _ _)) (Nat.ne_of_lt (Nat.lt_of_lt_of_le hj (Nat.le_add_right _ _))), r93 j (Nat.lt_of_lt_of_le hj (Nat.le_add_right _ _)) hjo, r87 j (Nat.lt_of_lt_of_le hj (Nat.le_add_right _ _)) (Nat.ne_of_lt (Nat.lt_of_lt_of_le hj (Nat.le_add_right _ _))), r82 j (Nat.lt_of_lt_of_le hj (Nat.le_add_right _ _)) hjo, r76 j (Nat.lt_of_lt_of_le hj (Nat.le_add_right _ _)) (Nat.ne_of_lt (Nat.lt_of_lt_of_le hj (Nat.le_add_right _ _))), r71 j (Nat.lt_of_lt_of_le hj (Nat.le_add_right _ _)) hjo, r65 j (Nat.lt_of_lt_of_le hj (Nat.le_add_right _ _)) (Nat.ne_of_lt (Nat.lt_of_lt_of_le hj (Nat.le_add_right _ _))), r60 j (Nat.lt_of_lt_of_le hj (Nat.le_add_right _ _)) hjo, r55 j (Nat.lt_of_lt_of_le hj (Nat.le_add_right _ _)) hjo, r50 j (Nat.lt_of_lt_of_le hj (Nat.le_add_right _ _)) hjo, r45 j (Nat.lt_of_lt_of_le hj (Nat.le_add_right _ _)) hjo, r40 j (Nat.lt_of_lt_of_le hj (Nat.le_add_right _ _)) hjo, r32 j (Nat.lt_of_lt_of_le hj (Nat.le_add_right _ _)) (Nat.ne_of_lt (Nat.lt_of_lt_of_le hj (Nat.le_add_right _ _))), r25 j (Nat.lt_of_lt_of_le hj (Nat.le_add_right _ _)) (Nat.ne_of_lt (Nat.lt_of_lt_of_le hj (Nat.le_add_right _ _))), r20 j (Nat.lt_of_lt_of_le hj (Nat.le_add_right _ _)) hjo, r12 j (Nat.lt_of_lt_of_le hj (Nat.le_add_right _ _)) (Nat.ne_of_lt (Nat.lt_of_lt_of_le hj (Nat.le_add_right _ _))), r5 j (Nat.lt_of_lt_of_le hj (Nat.le_add_right _ _)) (Nat.ne_of_lt (Nat.lt_of_lt_of_le hj (Nat.le_add_right _ _)))]
  exact J_vret hq dX0_init_75 rfl (hk1 hn l103) (by decide) (by decide) ⟨rfl, l103, f102, (At_cons f120 (At_app bl2 b136 (At_cons f149 (At_app bl1 b162 (At_cons f169 (At_cons f174 (At_cons f177 (At_cons f178 At_nil)))))))), hfr⟩
def ob10 (n : Nat) : MC := (.inr (10, [.ref (n + 0), .ref (n + 26), .ref (n + 27), .ref (n + 28), .ref (n + 42), .ref (n + 48), .ref (n + 52), .ref (n + 55), .ref (n + 56), .ref (n + 78)]))
def bk10 (n : Nat) : List MC := ob7 (n + 1) :: (bk7 (n + 1) ++ ((.inl (5, 3, .inr (.inr (va_up (va_up (va_up (fun _ => none) ((0 : Int32).toNatClampNeg) (some (n + 83))) ((1 : Int32).toNatClampNeg) (some (n + 109))) ((2 : Int32).toNatClampNeg) (some (n + 135)))))) :: ((.inl (3, 3, .inl (fun _ => 0))) :: (ob3 (n + 29) :: (bk3 (n + 29) ++ (ob4 (n + 43) :: (bk4 (n + 43) ++ (ob8 (n + 49) :: (bk8 (n + 49) ++ (ob5 (n + 53) :: (bk5 (n + 53) ++ (ob0 (n + 56) :: (bk0 (n + 56) ++ (ob1 (n + 79) :: (bk1 (n + 79) ++ (ob7 (n + 84) :: (bk7 (n + 84) ++ (ob7 (n + 110) :: (bk7 (n + 110) ++ (ob7 (n + 136) :: (bk7 (n + 136) ++ ([]))))))))))))))))))))))
set_option maxRecDepth 100000 in
theorem bl10 {n : Nat} : (bk10 n).length = 161 := rfl
set_option maxHeartbeats 4000000 in
set_option maxRecDepth 100000 in
theorem c_X10_init {d : Nat} {h : List MC} {o n0 : Nat} (hd : 4 ≤ d) (hn : h.length = n0) (ho : h[o]? = some (.inr (10, [.null, .null, .null, .null, .null, .null, .null, .null, .null, .null]))) : CT con0 d 161 8812 yX10_init cX10_init 2 none [.ref o] h (fun r h2 => r = none ∧ h2.length = n0 + 161 ∧ h2[o]? = some (ob10 n0) ∧ At h2 n0 (bk10 n0) ∧ ∀ j, j < n0 → j ≠ o → h2[j]? = h[j]?) := by
  have hol : o < n0 := by rw [← hn]; exact (List.getElem?_eq_some_iff.mp ho).1
  have hn0 : h.length = n0 + 0 := hn
  refine CT_of (by decide) (Nat.le_of_ble_eq_true rfl) (fun x hq => ?_)
  show J x yX10_init cX10_init 2 none d 161 8812 h.length 0 [(0, .ref o)] [] h 0 0
  refine J_aload_n (i := 0) (j := 0) dX10_init_0 rfl rfl ?_
  refine J_obj dX10_init_1 k112 k113 k114 (Nat.le_trans (by decide) hd) (Nat.le_of_ble_eq_true rfl) ?_
  refine J_aload_n (i := 0) (j := 0) dX10_init_4 rfl rfl ?_
  refine J_new (C := RX7) (T := TX7) (Z := 8) (ci := 7) (fs := [.null, .int 0, .int 0, .int 0, .null, .int 0, .null, .int 0]) (ty0 := tyX7) dX10_init_5 inG7 rfl tyX7_ok k115 k116 k88 fsX7 (hk1 hn hn0) (by decide) (by decide) ?_
  obtain ⟨h1, e2⟩ : ∃ z, z = h ++ [(.inr (7, [.null, .int 0, .int 0, .int 0, .null, .int 0, .null, .int 0]))] := ⟨_, rfl⟩
  refine J_w e2.symm ?_
  refine J_cr (v := n0 + 0) hn0 ?_
  have f3 := a_push e2 hn0
  have l4 : h1.length = n0 + 1 := l_push e2 hn0 rfl
  have r5 := r_push (a := n0 + 0) e2 hn0
  refine J_dup dX10_init_8 rfl ?_
  refine J_callI (As := []) (rest := [.ref (n0 + 0), .ref o]) dX10_init_9 (c_X7_init (d := 2) (h := h1) (o := n0 + 0) (n0 := n0 + 1) (by decide) l4 f3) hq.n k117 k118 rfl rfl k88 k119 np_X7_init (Nat.le_trans (by decide) hd) (by decide) (by decide) (by decide) (hk1 hn l4) rfl (Nat.le_of_ble_eq_true rfl) (fun r6 h7 p8 => ?_)
  obtain ⟨rfl, l9, f10, b11, r12⟩ := p8
  have l13 : h7.length = n0 + 26 := l9
  have f14 := (r5 (o) (Nat.lt_of_lt_of_le hol (Nat.le_add_right _ _)) (Nat.ne_of_lt (Nat.lt_of_lt_of_le hol (Nat.le_add_right _ _)))).trans ho
  have f15 := (r12 (o) (Nat.lt_of_lt_of_le hol (Nat.le_add_right _ _)) (Nat.ne_of_lt (Nat.lt_of_lt_of_le hol (Nat.le_add_right _ _)))).trans f14
  obtain ⟨h16, e17⟩ : ∃ z, z = h7.set (o) (.inr (10, [.ref (n0 + 0), .null, .null, .null, .null, .null, .null, .null, .null, .null])) := ⟨_, rfl⟩
  refine J_putF (C := RX10) (T := TX10) (Z := 10) (ci := 10) (f := 0) (ty0 := tyX10) dX10_init_12 inG10 rfl tyX10_ok nmX10 (by decide) k423 rfl rfl rfl rfl f15 (Nat.le_of_ble_eq_true rfl) (fun _ _ => ⟨rfl, rfl⟩) e17.symm ?_
  have f18 := a_set e17 f15
  have l19 : h16.length = n0 + 26 := l_set e17 l13
  have r20 := r_set (N := n0 + 26) e17
  refine J_aload_n (i := 0) (j := 0) dX10_init_15 rfl rfl ?_
  refine J_iconst (v := 3) dX10_init_16 (by decide) ?_
  refine J_newq (t := 5) (Z := 3) dX10_init_17 k115 ko5 (fun _ => rfl) (by decide) (by decide) (by decide) (hk1 hn l19) (by decide) (by decide) ?_
  obtain ⟨h21, e22⟩ : ∃ z, z = h16 ++ [(.inl (5, 3, .inr (.inr (fun _ => none))))] := ⟨_, rfl⟩
  refine J_w e22.symm ?_
  refine J_cr (v := n0 + 26) l19 ?_
  have f23 := a_push e22 l19
  have l24 : h21.length = n0 + 27 := l_push e22 l19 rfl
  have r25 := r_push (a := n0 + 26) e22 l19
  have f26 := (r25 (o) (Nat.lt_of_lt_of_le hol (Nat.le_add_right _ _)) (Nat.ne_of_lt (Nat.lt_of_lt_of_le hol (Nat.le_add_right _ _)))).trans f18
  obtain ⟨h27, e28⟩ : ∃ z, z = h21.set (o) (.inr (10, [.ref (n0 + 0), .ref (n0 + 26), .null, .null, .null, .null, .null, .null, .null, .null])) := ⟨_, rfl⟩
  refine J_putF (C := RX10) (T := TX10) (Z := 10) (ci := 10) (f := 1) (ty0 := tyX10) dX10_init_20 inG10 rfl tyX10_ok nmX10 (by decide) k424 rfl rfl rfl rfl f26 (Nat.le_of_ble_eq_true rfl) (fun _ _ => ⟨rfl, rfl⟩) e28.symm ?_
  have f29 := a_set e28 f26
  have l30 : h27.length = n0 + 27 := l_set e28 l24
  have r31 := r_set (N := n0 + 27) e28
  refine J_aload_n (i := 0) (j := 0) dX10_init_23 rfl rfl ?_
  refine J_iconst (v := 3) dX10_init_24 (by decide) ?_
  refine J_newa3 (Z := 3) dX10_init_25 ka3 (by decide) (by decide) (by decide) (hk1 hn l30) (by decide) (by decide) ?_
  obtain ⟨h32, e33⟩ : ∃ z, z = h27 ++ [(.inl (3, 3, .inl (fun _ => 0)))] := ⟨_, rfl⟩
  refine J_w e33.symm ?_
  refine J_cr (v := n0 + 27) l30 ?_
  have f34 := a_push e33 l30
  have l35 : h32.length = n0 + 28 := l_push e33 l30 rfl
  have r36 := r_push (a := n0 + 27) e33 l30
  have f37 := (r36 (o) (Nat.lt_of_lt_of_le hol (Nat.le_add_right _ _)) (Nat.ne_of_lt (Nat.lt_of_lt_of_le hol (Nat.le_add_right _ _)))).trans f29
  obtain ⟨h38, e39⟩ : ∃ z, z = h32.set (o) (.inr (10, [.ref (n0 + 0), .ref (n0 + 26), .ref (n0 + 27), .null, .null, .null, .null, .null, .null, .null])) := ⟨_, rfl⟩
  refine J_putF (C := RX10) (T := TX10) (Z := 10) (ci := 10) (f := 2) (ty0 := tyX10) dX10_init_27 inG10 rfl tyX10_ok nmX10 (by decide) k425 rfl rfl rfl rfl f37 (Nat.le_of_ble_eq_true rfl) (fun _ _ => ⟨rfl, rfl⟩) e39.symm ?_
  have f40 := a_set e39 f37
  have l41 : h38.length = n0 + 28 := l_set e39 l35
  have r42 := r_set (N := n0 + 28) e39
  refine J_aload_n (i := 0) (j := 0) dX10_init_30 rfl rfl ?_
  refine J_new (C := RX3) (T := TX3) (Z := 7) (ci := 3) (fs := [.null, .null, .null, .null, .null, .int 0, .int 0]) (ty0 := tyX3) dX10_init_31 inG3 rfl tyX3_ok k220 k221 k91 fsX3 (hk1 hn l41) (by decide) (by decide) ?_
  obtain ⟨h43, e44⟩ : ∃ z, z = h38 ++ [(.inr (3, [.null, .null, .null, .null, .null, .int 0, .int 0]))] := ⟨_, rfl⟩
  refine J_w e44.symm ?_
  refine J_cr (v := n0 + 28) l41 ?_
  have f45 := a_push e44 l41
  have l46 : h43.length = n0 + 29 := l_push e44 l41 rfl
  have r47 := r_push (a := n0 + 28) e44 l41
  refine J_dup dX10_init_34 rfl ?_
  refine J_callIN (As := []) (rest := [.ref (n0 + 28), .ref o]) dX10_init_35 (c_X3_init (d := 2) (h := h43) (o := n0 + 28) (n0 := n0 + 29) (by decide) l46 f45) hq.n k222 k223 rfl rfl k91 k224 np_X3_init (Nat.le_trans (by decide) hd) (by decide) (by decide) (by decide) (hk1 hn l46) rfl (Nat.le_of_ble_eq_true rfl) (fun r48 h49 p50 => ?_)
  obtain ⟨rfl, l51, f52, b53, r54⟩ := p50
  have l55 : h49.length = n0 + 42 := l51
  have f56 := (r47 (o) (Nat.lt_of_lt_of_le hol (Nat.le_add_right _ _)) (Nat.ne_of_lt (Nat.lt_of_lt_of_le hol (Nat.le_add_right _ _)))).trans f40
  have f57 := (r54 (o) (Nat.lt_of_lt_of_le hol (Nat.le_add_right _ _)) (Nat.ne_of_lt (Nat.lt_of_lt_of_le hol (Nat.le_add_right _ _)))).trans f56
  obtain ⟨h58, e59⟩ : ∃ z, z = h49.set (o) (.inr (10, [.ref (n0 + 0), .ref (n0 + 26), .ref (n0 + 27), .ref (n0 + 28), .null, .null, .null, .null, .null, .null])) := ⟨_, rfl⟩
  refine J_putF (C := RX10) (T := TX10) (Z := 10) (ci := 10) (f := 3) (ty0 := tyX10) dX10_init_38 inG10 rfl tyX10_ok nmX10 (by decide) k426 rfl rfl rfl rfl f57 (Nat.le_of_ble_eq_true rfl) (fun _ _ => ⟨rfl, rfl⟩) e59.symm ?_
  have f60 := a_set e59 f57
  have l61 : h58.length = n0 + 42 := l_set e59 l55
  have r62 := r_set (N := n0 + 42) e59
  refine J_aload_n (i := 0) (j := 0) dX10_init_41 rfl rfl ?_
  refine J_new (C := RX4) (T := TX4) (Z := 4) (ci := 4) (fs := [.null, .int 0, .int 0, .int 0]) (ty0 := tyX4) dX10_init_42 inG4 rfl tyX4_ok k286 k287 k93 fsX4 (hk1 hn l61) (by decide) (by decide) ?_
  obtain ⟨h63, e64⟩ : ∃ z, z = h58 ++ [(.inr (4, [.null, .int 0, .int 0, .int 0]))] := ⟨_, rfl⟩
  refine J_w e64.symm ?_
  refine J_cr (v := n0 + 42) l61 ?_
  have f65 := a_push e64 l61
  have l66 : h63.length = n0 + 43 := l_push e64 l61 rfl
  have r67 := r_push (a := n0 + 42) e64 l61
  refine J_dup dX10_init_45 rfl ?_
  refine J_callIN (As := []) (rest := [.ref (n0 + 42), .ref o]) dX10_init_46 (c_X4_init (d := 2) (h := h63) (o := n0 + 42) (n0 := n0 + 43) (by decide) l66 f65) hq.n k288 k289 rfl rfl k93 k290 np_X4_init (Nat.le_trans (by decide) hd) (by decide) (by decide) (by decide) (hk1 hn l66) rfl (Nat.le_of_ble_eq_true rfl) (fun r68 h69 p70 => ?_)
  obtain ⟨rfl, l71, f72, b73, r74⟩ := p70
  have l75 : h69.length = n0 + 48 := l71
  have f76 := (r67 (o) (Nat.lt_of_lt_of_le hol (Nat.le_add_right _ _)) (Nat.ne_of_lt (Nat.lt_of_lt_of_le hol (Nat.le_add_right _ _)))).trans f60
  have f77 := (r74 (o) (Nat.lt_of_lt_of_le hol (Nat.le_add_right _ _)) (Nat.ne_of_lt (Nat.lt_of_lt_of_le hol (Nat.le_add_right _ _)))).trans f76
  obtain ⟨h78, e79⟩ : ∃ z, z = h69.set (o) (.inr (10, [.ref (n0 + 0), .ref (n0 + 26), .ref (n0 + 27), .ref (n0 + 28), .ref (n0 + 42), .null, .null, .null, .null, .null])) := ⟨_, rfl⟩
  refine J_putF (C := RX10) (T := TX10) (Z := 10) (ci := 10) (f := 4) (ty0 := tyX10) dX10_init_49 inG10 rfl tyX10_ok nmX10 (by decide) k427 rfl rfl rfl rfl f77 (Nat.le_of_ble_eq_true rfl) (fun _ _ => ⟨rfl, rfl⟩) e79.symm ?_
  have f80 := a_set e79 f77
  have l81 : h78.length = n0 + 48 := l_set e79 l75
  have r82 := r_set (N := n0 + 48) e79
  refine J_aload_n (i := 0) (j := 0) dX10_init_52 rfl rfl ?_
  refine J_new (C := RX8) (T := TX8) (Z := 4) (ci := 8) (fs := [.int 0, .null, .null, .null]) (ty0 := tyX8) dX10_init_53 inG8 rfl tyX8_ok k311 k163 k90 fsX8 (hk1 hn l81) (by decide) (by decide) ?_
  obtain ⟨h83, e84⟩ : ∃ z, z = h78 ++ [(.inr (8, [.int 0, .null, .null, .null]))] := ⟨_, rfl⟩
  refine J_w e84.symm ?_
  refine J_cr (v := n0 + 48) l81 ?_
  have f85 := a_push e84 l81
  have l86 : h83.length = n0 + 49 := l_push e84 l81 rfl
  have r87 := r_push (a := n0 + 48) e84 l81
  refine J_dup dX10_init_56 rfl ?_
  refine J_callIN (As := []) (rest := [.ref (n0 + 48), .ref o]) dX10_init_57 (c_X8_init (d := 1) (h := h83) (o := n0 + 48) (n0 := n0 + 49) (by decide) l86 f85) hq.n k312 k165 rfl rfl k90 k166 np_X8_init (Nat.le_trans (by decide) hd) (by decide) (by decide) (by decide) (hk1 hn l86) rfl (Nat.le_of_ble_eq_true rfl) (fun r88 h89 p90 => ?_)
  obtain ⟨rfl, l91, f92, b93, r94⟩ := p90
  have l95 : h89.length = n0 + 52 := l91
  have f96 := (r87 (o) (Nat.lt_of_lt_of_le hol (Nat.le_add_right _ _)) (Nat.ne_of_lt (Nat.lt_of_lt_of_le hol (Nat.le_add_right _ _)))).trans f80
  have f97 := (r94 (o) (Nat.lt_of_lt_of_le hol (Nat.le_add_right _ _)) (Nat.ne_of_lt (Nat.lt_of_lt_of_le hol (Nat.le_add_right _ _)))).trans f96
  obtain ⟨h98, e99⟩ : ∃ z, z = h89.set (o) (.inr (10, [.ref (n0 + 0), .ref (n0 + 26), .ref (n0 + 27), .ref (n0 + 28), .ref (n0 + 42), .ref (n0 + 48), .null, .null, .null, .null])) := ⟨_, rfl⟩
  refine J_putF (C := RX10) (T := TX10) (Z := 10) (ci := 10) (f := 5) (ty0 := tyX10) dX10_init_60 inG10 rfl tyX10_ok nmX10 (by decide) k428 rfl rfl rfl rfl f97 (Nat.le_of_ble_eq_true rfl) (fun _ _ => ⟨rfl, rfl⟩) e99.symm ?_
  have f100 := a_set e99 f97
  have l101 : h98.length = n0 + 52 := l_set e99 l95
  have r102 := r_set (N := n0 + 52) e99
  refine J_aload_n (i := 0) (j := 0) dX10_init_63 rfl rfl ?_
  refine J_new (C := RX5) (T := TX5) (Z := 7) (ci := 5) (fs := [.int 0, .int 0, .int 0, .int 0, .int 0, .null, .null]) (ty0 := tyX5) dX10_init_64 inG5 rfl tyX5_ok k313 k314 k94 fsX5 (hk1 hn l101) (by decide) (by decide) ?_
  obtain ⟨h103, e104⟩ : ∃ z, z = h98 ++ [(.inr (5, [.int 0, .int 0, .int 0, .int 0, .int 0, .null, .null]))] := ⟨_, rfl⟩
  refine J_w e104.symm ?_
  refine J_cr (v := n0 + 52) l101 ?_
  have f105 := a_push e104 l101
  have l106 : h103.length = n0 + 53 := l_push e104 l101 rfl
  have r107 := r_push (a := n0 + 52) e104 l101
  refine J_dup dX10_init_67 rfl ?_
  refine J_callIN (As := []) (rest := [.ref (n0 + 52), .ref o]) dX10_init_68 (c_X5_init (d := 1) (h := h103) (o := n0 + 52) (n0 := n0 + 53) (by decide) l106 f105) hq.n k315 k316 rfl rfl k94 k317 np_X5_init (Nat.le_trans (by decide) hd) (by decide) (by decide) (by decide) (hk1 hn l106) rfl (Nat.le_of_ble_eq_true rfl) (fun r108 h109 p110 => ?_)
  obtain ⟨rfl, l111, f112, b113, r114⟩ := p110
  have l115 : h109.length = n0 + 55 := l111
  have f116 := (r107 (o) (Nat.lt_of_lt_of_le hol (Nat.le_add_right _ _)) (Nat.ne_of_lt (Nat.lt_of_lt_of_le hol (Nat.le_add_right _ _)))).trans f100
  have f117 := (r114 (o) (Nat.lt_of_lt_of_le hol (Nat.le_add_right _ _)) (Nat.ne_of_lt (Nat.lt_of_lt_of_le hol (Nat.le_add_right _ _)))).trans f116
  obtain ⟨h118, e119⟩ : ∃ z, z = h109.set (o) (.inr (10, [.ref (n0 + 0), .ref (n0 + 26), .ref (n0 + 27), .ref (n0 + 28), .ref (n0 + 42), .ref (n0 + 48), .ref (n0 + 52), .null, .null, .null])) := ⟨_, rfl⟩
  refine J_putF (C := RX10) (T := TX10) (Z := 10) (ci := 10) (f := 6) (ty0 := tyX10) dX10_init_71 inG10 rfl tyX10_ok nmX10 (by decide) k429 rfl rfl rfl rfl f117 (Nat.le_of_ble_eq_true rfl) (fun _ _ => ⟨rfl, rfl⟩) e119.symm ?_
  have f120 := a_set e119 f117
  have l121 : h118.length = n0 + 55 := l_set e119 l115
  have r122 := r_set (N := n0 + 55) e119
  refine J_aload_n (i := 0) (j := 0) dX10_init_74 rfl rfl ?_
  refine J_new (C := RX0) (T := TX0) (Z := 10) (ci := 0) (fs := [.null, .null, .int 0, .int 0, .long 0, .int 0, .null, .null, .null, .null]) (ty0 := tyX0) dX10_init_75 inG0 rfl tyX0_ok k346 k347 k95 fsX0 (hk1 hn l121) (by decide) (by decide) ?_
  obtain ⟨h123, e124⟩ : ∃ z, z = h118 ++ [(.inr (0, [.null, .null, .int 0, .int 0, .long 0, .int 0, .null, .null, .null, .null]))] := ⟨_, rfl⟩
  refine J_w e124.symm ?_
  refine J_cr (v := n0 + 55) l121 ?_
  have f125 := a_push e124 l121
  have l126 : h123.length = n0 + 56 := l_push e124 l121 rfl
  have r127 := r_push (a := n0 + 55) e124 l121
  refine J_dup dX10_init_78 rfl ?_
  refine J_callIN (As := []) (rest := [.ref (n0 + 55), .ref o]) dX10_init_79 (c_X0_init (d := 3) (h := h123) (o := n0 + 55) (n0 := n0 + 56) (by decide) l126 f125) hq.n k348 k349 rfl rfl k95 k350 np_X0_init (Nat.le_trans (by decide) hd) (by decide) (by decide) (by decide) (hk1 hn l126) rfl (Nat.le_of_ble_eq_true rfl) (fun r128 h129 p130 => ?_)
  obtain ⟨rfl, l131, f132, b133, r134⟩ := p130
  have l135 : h129.length = n0 + 78 := l131
  have f136 := (r127 (o) (Nat.lt_of_lt_of_le hol (Nat.le_add_right _ _)) (Nat.ne_of_lt (Nat.lt_of_lt_of_le hol (Nat.le_add_right _ _)))).trans f120
  have f137 := (r134 (o) (Nat.lt_of_lt_of_le hol (Nat.le_add_right _ _)) (Nat.ne_of_lt (Nat.lt_of_lt_of_le hol (Nat.le_add_right _ _)))).trans f136
  obtain ⟨h138, e139⟩ : ∃ z, z = h129.set (o) (.inr (10, [.ref (n0 + 0), .ref (n0 + 26), .ref (n0 + 27), .ref (n0 + 28), .ref (n0 + 42), .ref (n0 + 48), .ref (n0 + 52), .ref (n0 + 55), .null, .null])) := ⟨_, rfl⟩
  refine J_putF (C := RX10) (T := TX10) (Z := 10) (ci := 10) (f := 7) (ty0 := tyX10) dX10_init_82 inG10 rfl tyX10_ok nmX10 (by decide) k430 rfl rfl rfl rfl f137 (Nat.le_of_ble_eq_true rfl) (fun _ _ => ⟨rfl, rfl⟩) e139.symm ?_
  have f140 := a_set e139 f137
  have l141 : h138.length = n0 + 78 := l_set e139 l135
  have r142 := r_set (N := n0 + 78) e139
  refine J_aload_n (i := 0) (j := 0) dX10_init_85 rfl rfl ?_
  refine J_aload_n (i := 0) (j := 0) dX10_init_86 rfl rfl ?_
  refine J_get (C := RX10) (T := TX10) (Z := 10) (ci := 10) (f := 7) dX10_init_87 inG10 rfl (by decide) k430 f140 rfl ?_
  have f143 := (r142 (n0 + 55) (Nat.add_lt_add_left (by decide) n0) (Nat.ne_of_gt (Nat.lt_of_lt_of_le hol (Nat.le_add_right _ _)))).trans f132
  refine J_getN (C := RX0) (T := TX0) (Z := 10) (ci := 0) (f := 0) dX10_init_90 inG0 rfl (by decide) k387 f143 rfl ?_
  obtain ⟨h144, e145⟩ : ∃ z, z = h138.set (o) (.inr (10, [.ref (n0 + 0), .ref (n0 + 26), .ref (n0 + 27), .ref (n0 + 28), .ref (n0 + 42), .ref (n0 + 48), .ref (n0 + 52), .ref (n0 + 55), .ref (n0 + 56), .null])) := ⟨_, rfl⟩
  refine J_putF (C := RX10) (T := TX10) (Z := 10) (ci := 10) (f := 8) (ty0 := tyX10) dX10_init_93 inG10 rfl tyX10_ok nmX10 (by decide) k431 rfl rfl rfl rfl f140 (Nat.le_of_ble_eq_true rfl) (fun _ _ => ⟨rfl, rfl⟩) e145.symm ?_
  have f146 := a_set e145 f140
  have l147 : h144.length = n0 + 78 := l_set e145 l141
  have r148 := r_set (N := n0 + 78) e145
  refine J_aload_n (i := 0) (j := 0) dX10_init_96 rfl rfl ?_
  refine J_new (C := RX1) (T := TX1) (Z := 6) (ci := 1) (fs := [.int 0, .null, .int 0, .null, .null, .null]) (ty0 := tyX1) dX10_init_97 inG1 rfl tyX1_ok k421 k125 k89 fsX1 (hk1 hn l147) (by decide) (by decide) ?_
  obtain ⟨h149, e150⟩ : ∃ z, z = h144 ++ [(.inr (1, [.int 0, .null, .int 0, .null, .null, .null]))] := ⟨_, rfl⟩
  refine J_w e150.symm ?_
  refine J_cr (v := n0 + 78) l147 ?_
  have f151 := a_push e150 l147
  have l152 : h149.length = n0 + 79 := l_push e150 l147 rfl
  have r153 := r_push (a := n0 + 78) e150 l147
  refine J_dup dX10_init_100 rfl ?_
  refine J_callIN (As := []) (rest := [.ref (n0 + 78), .ref o]) dX10_init_101 (c_X1_init (d := 1) (h := h149) (o := n0 + 78) (n0 := n0 + 79) (by decide) l152 f151) hq.n k422 k127 rfl rfl k89 k128 np_X1_init (Nat.le_trans (by decide) hd) (by decide) (by decide) (by decide) (hk1 hn l152) rfl (Nat.le_of_ble_eq_true rfl) (fun r154 h155 p156 => ?_)
  obtain ⟨rfl, l157, f158, b159, r160⟩ := p156
  have l161 : h155.length = n0 + 83 := l157
  have f162 := (r153 (o) (Nat.lt_of_lt_of_le hol (Nat.le_add_right _ _)) (Nat.ne_of_lt (Nat.lt_of_lt_of_le hol (Nat.le_add_right _ _)))).trans f146
  have f163 := (r160 (o) (Nat.lt_of_lt_of_le hol (Nat.le_add_right _ _)) (Nat.ne_of_lt (Nat.lt_of_lt_of_le hol (Nat.le_add_right _ _)))).trans f162
  obtain ⟨h164, e165⟩ : ∃ z, z = h155.set (o) (.inr (10, [.ref (n0 + 0), .ref (n0 + 26), .ref (n0 + 27), .ref (n0 + 28), .ref (n0 + 42), .ref (n0 + 48), .ref (n0 + 52), .ref (n0 + 55), .ref (n0 + 56), .ref (n0 + 78)])) := ⟨_, rfl⟩
  refine J_putF (C := RX10) (T := TX10) (Z := 10) (ci := 10) (f := 9) (ty0 := tyX10) dX10_init_104 inG10 rfl tyX10_ok nmX10 (by decide) k432 rfl rfl rfl rfl f163 (Nat.le_of_ble_eq_true rfl) (fun _ _ => ⟨rfl, rfl⟩) e165.symm ?_
  have f166 := a_set e165 f163
  have l167 : h164.length = n0 + 83 := l_set e165 l161
  have r168 := r_set (N := n0 + 83) e165
  refine J_iconst (v := 0) dX10_init_107 (by decide) ?_
  refine J_istore_n (i := 1) (lw := [(1, .int 0), (0, .ref o)]) dX10_init_108 rfl (by decide) rfl ?_
  refine J_iload_n (i := 1) (j := 0) dX10_init_109 rfl rfl ?_
  refine J_iconst (v := 3) dX10_init_110 (by decide) ?_
  refine J_icmp_ge (tgt := 133) dX10_init_111 (by decide) (fun q => absurd q (by decide)) (fun _ => ?_)
  refine J_aload_n (i := 0) (j := 1) dX10_init_114 rfl rfl ?_
  refine J_get (C := RX10) (T := TX10) (Z := 10) (ci := 10) (f := 1) dX10_init_115 inG10 rfl (by decide) k424 f166 rfl ?_
  refine J_iload_n (i := 1) (j := 0) dX10_init_118 rfl rfl ?_
  refine J_new (C := RX7) (T := TX7) (Z := 8) (ci := 7) (fs := [.null, .int 0, .int 0, .int 0, .null, .int 0, .null, .int 0]) (ty0 := tyX7) dX10_init_119 inG7 rfl tyX7_ok k115 k116 k88 fsX7 (hk1 hn l167) (by decide) (by decide) ?_
  obtain ⟨h169, e170⟩ : ∃ z, z = h164 ++ [(.inr (7, [.null, .int 0, .int 0, .int 0, .null, .int 0, .null, .int 0]))] := ⟨_, rfl⟩
  refine J_w e170.symm ?_
  refine J_cr (v := n0 + 83) l167 ?_
  have f171 := a_push e170 l167
  have l172 : h169.length = n0 + 84 := l_push e170 l167 rfl
  have r173 := r_push (a := n0 + 83) e170 l167
  refine J_dup dX10_init_122 rfl ?_
  refine J_callI (As := []) (rest := [.ref (n0 + 83), .int 0, .ref (n0 + 26)]) dX10_init_123 (c_X7_init (d := 2) (h := h169) (o := n0 + 83) (n0 := n0 + 84) (by decide) l172 f171) hq.n k117 k118 rfl rfl k88 k119 np_X7_init (Nat.le_trans (by decide) hd) (by decide) (by decide) (by decide) (hk1 hn l172) rfl (Nat.le_of_ble_eq_true rfl) (fun r174 h175 p176 => ?_)
  obtain ⟨rfl, l177, f178, b179, r180⟩ := p176
  have l181 : h175.length = n0 + 109 := l177
  have f182 := (r31 (n0 + 26) (Nat.add_lt_add_left (by decide) n0) (Nat.ne_of_gt (Nat.lt_of_lt_of_le hol (Nat.le_add_right _ _)))).trans f23
  have f183 := (r36 (n0 + 26) (Nat.add_lt_add_left (by decide) n0) (fun q => absurd (Nat.add_left_cancel q) (by decide))).trans f182
  have f184 := (r42 (n0 + 26) (Nat.add_lt_add_left (by decide) n0) (Nat.ne_of_gt (Nat.lt_of_lt_of_le hol (Nat.le_add_right _ _)))).trans f183
  have f185 := (r47 (n0 + 26) (Nat.add_lt_add_left (by decide) n0) (fun q => absurd (Nat.add_left_cancel q) (by decide))).trans f184
  have f186 := (r54 (n0 + 26) (Nat.add_lt_add_left (by decide) n0) (fun q => absurd (Nat.add_left_cancel q) (by decide))).trans f185
  have f187 := (r62 (n0 + 26) (Nat.add_lt_add_left (by decide) n0) (Nat.ne_of_gt (Nat.lt_of_lt_of_le hol (Nat.le_add_right _ _)))).trans f186
  have f188 := (r67 (n0 + 26) (Nat.add_lt_add_left (by decide) n0) (fun q => absurd (Nat.add_left_cancel q) (by decide))).trans f187
  have f189 := (r74 (n0 + 26) (Nat.add_lt_add_left (by decide) n0) (fun q => absurd (Nat.add_left_cancel q) (by decide))).trans f188
  have f190 := (r82 (n0 + 26) (Nat.add_lt_add_left (by decide) n0) (Nat.ne_of_gt (Nat.lt_of_lt_of_le hol (Nat.le_add_right _ _)))).trans f189
  have f191 := (r87 (n0 + 26) (Nat.add_lt_add_left (by decide) n0) (fun q => absurd (Nat.add_left_cancel q) (by decide))).trans f190
  have f192 := (r94 (n0 + 26) (Nat.add_lt_add_left (by decide) n0) (fun q => absurd (Nat.add_left_cancel q) (by decide))).trans f191
  have f193 := (r102 (n0 + 26) (Nat.add_lt_add_left (by decide) n0) (Nat.ne_of_gt (Nat.lt_of_lt_of_le hol (Nat.le_add_right _ _)))).trans f192
  have f194 := (r107 (n0 + 26) (Nat.add_lt_add_left (by decide) n0) (fun q => absurd (Nat.add_left_cancel q) (by decide))).trans f193
  have f195 := (r114 (n0 + 26) (Nat.add_lt_add_left (by decide) n0) (fun q => absurd (Nat.add_left_cancel q) (by decide))).trans f194
  have f196 := (r122 (n0 + 26) (Nat.add_lt_add_left (by decide) n0) (Nat.ne_of_gt (Nat.lt_of_lt_of_le hol (Nat.le_add_right _ _)))).trans f195
  have f197 := (r127 (n0 + 26) (Nat.add_lt_add_left (by decide) n0) (fun q => absurd (Nat.add_left_cancel q) (by decide))).trans f196
  have f198 := (r134 (n0 + 26) (Nat.add_lt_add_left (by decide) n0) (fun q => absurd (Nat.add_left_cancel q) (by decide))).trans f197
  have f199 := (r142 (n0 + 26) (Nat.add_lt_add_left (by decide) n0) (Nat.ne_of_gt (Nat.lt_of_lt_of_le hol (Nat.le_add_right _ _)))).trans f198
  have f200 := (r148 (n0 + 26) (Nat.add_lt_add_left (by decide) n0) (Nat.ne_of_gt (Nat.lt_of_lt_of_le hol (Nat.le_add_right _ _)))).trans f199
  have f201 := (r153 (n0 + 26) (Nat.add_lt_add_left (by decide) n0) (fun q => absurd (Nat.add_left_cancel q) (by decide))).trans f200
  have f202 := (r160 (n0 + 26) (Nat.add_lt_add_left (by decide) n0) (fun q => absurd (Nat.add_left_cancel q) (by decide))).trans f201
  have f203 := (r168 (n0 + 26) (Nat.add_lt_add_left (by decide) n0) (Nat.ne_of_gt (Nat.lt_of_lt_of_le hol (Nat.le_add_right _ _)))).trans f202
  have f204 := (r173 (n0 + 26) (Nat.add_lt_add_left (by decide) n0) (fun q => absurd (Nat.add_left_cancel q) (by decide))).trans f203
  have f205 := (r180 (n0 + 26) (Nat.add_lt_add_left (by decide) n0) (fun q => absurd (Nat.add_left_cancel q) (by decide))).trans f204
  obtain ⟨h206, e207⟩ : ∃ z, z = h175.set (n0 + 26) (.inl (5, 3, .inr (.inr (va_up (fun _ => none) ((0 : Int32).toNatClampNeg) (some (n0 + 83)))))) := ⟨_, rfl⟩
  refine J_aast (r := (RX7, TX7, 8)) dX10_init_126 f205 (fun _ => rfl) f178 rfl (vp_c (by decide)) e207.symm ?_
  have f208 := a_set e207 f205
  have l209 : h206.length = n0 + 109 := l_set e207 l181
  have r210 := r_set (N := n0 + 109) e207
  refine J_iinc (i := 1) (j := 0) (v := 1) (lw := [(1, .int 1), (0, .ref o)]) dX10_init_127 rfl (by decide) (by decide) rfl ?_
  refine J_goto (tgt := 109) dX10_init_130 (by decide) ?_
  refine J_iload_n (i := 1) (j := 0) dX10_init_109 rfl rfl ?_
  refine J_iconst (v := 3) dX10_init_110 (by decide) ?_
  refine J_icmp_ge (tgt := 133) dX10_init_111 (by decide) (fun q => absurd q (by decide)) (fun _ => ?_)
  refine J_aload_n (i := 0) (j := 1) dX10_init_114 rfl rfl ?_
  have f211 := (r173 (o) (Nat.lt_of_lt_of_le hol (Nat.le_add_right _ _)) (Nat.ne_of_lt (Nat.lt_of_lt_of_le hol (Nat.le_add_right _ _)))).trans f166
  have f212 := (r180 (o) (Nat.lt_of_lt_of_le hol (Nat.le_add_right _ _)) (Nat.ne_of_lt (Nat.lt_of_lt_of_le hol (Nat.le_add_right _ _)))).trans f211
  have f213 := (r210 (o) (Nat.lt_of_lt_of_le hol (Nat.le_add_right _ _)) (Nat.ne_of_lt (Nat.lt_of_lt_of_le hol (Nat.le_add_right _ _)))).trans f212
  refine J_get (C := RX10) (T := TX10) (Z := 10) (ci := 10) (f := 1) dX10_init_115 inG10 rfl (by decide) k424 f213 rfl ?_
  refine J_iload_n (i := 1) (j := 0) dX10_init_118 rfl rfl ?_
  refine J_new (C := RX7) (T := TX7) (Z := 8) (ci := 7) (fs := [.null, .int 0, .int 0, .int 0, .null, .int 0, .null, .int 0]) (ty0 := tyX7) dX10_init_119 inG7 rfl tyX7_ok k115 k116 k88 fsX7 (hk1 hn l209) (by decide) (by decide) ?_
  obtain ⟨h214, e215⟩ : ∃ z, z = h206 ++ [(.inr (7, [.null, .int 0, .int 0, .int 0, .null, .int 0, .null, .int 0]))] := ⟨_, rfl⟩
  refine J_w e215.symm ?_
  refine J_cr (v := n0 + 109) l209 ?_
  have f216 := a_push e215 l209
  have l217 : h214.length = n0 + 110 := l_push e215 l209 rfl
  have r218 := r_push (a := n0 + 109) e215 l209
  refine J_dup dX10_init_122 rfl ?_
  refine J_callI (As := []) (rest := [.ref (n0 + 109), .int 1, .ref (n0 + 26)]) dX10_init_123 (c_X7_init (d := 2) (h := h214) (o := n0 + 109) (n0 := n0 + 110) (by decide) l217 f216) hq.n k117 k118 rfl rfl k88 k119 np_X7_init (Nat.le_trans (by decide) hd) (by decide) (by decide) (by decide) (hk1 hn l217) rfl (Nat.le_of_ble_eq_true rfl) (fun r219 h220 p221 => ?_)
  obtain ⟨rfl, l222, f223, b224, r225⟩ := p221
  have l226 : h220.length = n0 + 135 := l222
  have f227 := (r218 (n0 + 26) (Nat.add_lt_add_left (by decide) n0) (fun q => absurd (Nat.add_left_cancel q) (by decide))).trans f208
  have f228 := (r225 (n0 + 26) (Nat.add_lt_add_left (by decide) n0) (fun q => absurd (Nat.add_left_cancel q) (by decide))).trans f227
  obtain ⟨h229, e230⟩ : ∃ z, z = h220.set (n0 + 26) (.inl (5, 3, .inr (.inr (va_up (va_up (fun _ => none) ((0 : Int32).toNatClampNeg) (some (n0 + 83))) ((1 : Int32).toNatClampNeg) (some (n0 + 109)))))) := ⟨_, rfl⟩
  refine J_aast (r := (RX7, TX7, 8)) dX10_init_126 f228 (fun _ => rfl) f223 rfl (vp_c (by decide)) e230.symm ?_
  have f231 := a_set e230 f228
  have l232 : h229.length = n0 + 135 := l_set e230 l226
  have r233 := r_set (N := n0 + 135) e230
  refine J_iinc (i := 1) (j := 0) (v := 2) (lw := [(1, .int 2), (0, .ref o)]) dX10_init_127 rfl (by decide) (by decide) rfl ?_
  refine J_goto (tgt := 109) dX10_init_130 (by decide) ?_
  refine J_iload_n (i := 1) (j := 0) dX10_init_109 rfl rfl ?_
  refine J_iconst (v := 3) dX10_init_110 (by decide) ?_
  refine J_icmp_ge (tgt := 133) dX10_init_111 (by decide) (fun q => absurd q (by decide)) (fun _ => ?_)
  refine J_aload_n (i := 0) (j := 1) dX10_init_114 rfl rfl ?_
  have f234 := (r218 (o) (Nat.lt_of_lt_of_le hol (Nat.le_add_right _ _)) (Nat.ne_of_lt (Nat.lt_of_lt_of_le hol (Nat.le_add_right _ _)))).trans f213
  have f235 := (r225 (o) (Nat.lt_of_lt_of_le hol (Nat.le_add_right _ _)) (Nat.ne_of_lt (Nat.lt_of_lt_of_le hol (Nat.le_add_right _ _)))).trans f234
  have f236 := (r233 (o) (Nat.lt_of_lt_of_le hol (Nat.le_add_right _ _)) (Nat.ne_of_lt (Nat.lt_of_lt_of_le hol (Nat.le_add_right _ _)))).trans f235
  refine J_get (C := RX10) (T := TX10) (Z := 10) (ci := 10) (f := 1) dX10_init_115 inG10 rfl (by decide) k424 f236 rfl ?_
  refine J_iload_n (i := 1) (j := 0) dX10_init_118 rfl rfl ?_
  refine J_new (C := RX7) (T := TX7) (Z := 8) (ci := 7) (fs := [.null, .int 0, .int 0, .int 0, .null, .int 0, .null, .int 0]) (ty0 := tyX7) dX10_init_119 inG7 rfl tyX7_ok k115 k116 k88 fsX7 (hk1 hn l232) (by decide) (by decide) ?_
  obtain ⟨h237, e238⟩ : ∃ z, z = h229 ++ [(.inr (7, [.null, .int 0, .int 0, .int 0, .null, .int 0, .null, .int 0]))] := ⟨_, rfl⟩
  refine J_w e238.symm ?_
  refine J_cr (v := n0 + 135) l232 ?_
  have f239 := a_push e238 l232
  have l240 : h237.length = n0 + 136 := l_push e238 l232 rfl
  have r241 := r_push (a := n0 + 135) e238 l232
  refine J_dup dX10_init_122 rfl ?_
  refine J_callI (As := []) (rest := [.ref (n0 + 135), .int 2, .ref (n0 + 26)]) dX10_init_123 (c_X7_init (d := 2) (h := h237) (o := n0 + 135) (n0 := n0 + 136) (by decide) l240 f239) hq.n k117 k118 rfl rfl k88 k119 np_X7_init (Nat.le_trans (by decide) hd) (by decide) (by decide) (by decide) (hk1 hn l240) rfl (Nat.le_of_ble_eq_true rfl) (fun r242 h243 p244 => ?_)
  obtain ⟨rfl, l245, f246, b247, r248⟩ := p244
  have l249 : h243.length = n0 + 161 := l245
  have f250 := (r241 (n0 + 26) (Nat.add_lt_add_left (by decide) n0) (fun q => absurd (Nat.add_left_cancel q) (by decide))).trans f231
  have f251 := (r248 (n0 + 26) (Nat.add_lt_add_left (by decide) n0) (fun q => absurd (Nat.add_left_cancel q) (by decide))).trans f250
  obtain ⟨h252, e253⟩ : ∃ z, z = h243.set (n0 + 26) (.inl (5, 3, .inr (.inr (va_up (va_up (va_up (fun _ => none) ((0 : Int32).toNatClampNeg) (some (n0 + 83))) ((1 : Int32).toNatClampNeg) (some (n0 + 109))) ((2 : Int32).toNatClampNeg) (some (n0 + 135)))))) := ⟨_, rfl⟩
  refine J_aast (r := (RX7, TX7, 8)) dX10_init_126 f251 (fun _ => rfl) f246 rfl (vp_c (by decide)) e253.symm ?_
  have f254 := a_set e253 f251
  have l255 : h252.length = n0 + 161 := l_set e253 l249
  have r256 := r_set (N := n0 + 161) e253
  refine J_iinc (i := 1) (j := 0) (v := 3) (lw := [(1, .int 3), (0, .ref o)]) dX10_init_127 rfl (by decide) (by decide) rfl ?_
  refine J_goto (tgt := 109) dX10_init_130 (by decide) ?_
  refine J_iload_n (i := 1) (j := 0) dX10_init_109 rfl rfl ?_
  refine J_iconst (v := 3) dX10_init_110 (by decide) ?_
  refine J_icmp_ge (tgt := 133) dX10_init_111 (by decide) (fun _ => ?_) (fun q => absurd (by decide) q)
  have f257 := (r241 (o) (Nat.lt_of_lt_of_le hol (Nat.le_add_right _ _)) (Nat.ne_of_lt (Nat.lt_of_lt_of_le hol (Nat.le_add_right _ _)))).trans f236
  have f258 := (r248 (o) (Nat.lt_of_lt_of_le hol (Nat.le_add_right _ _)) (Nat.ne_of_lt (Nat.lt_of_lt_of_le hol (Nat.le_add_right _ _)))).trans f257
  have f259 := (r256 (o) (Nat.lt_of_lt_of_le hol (Nat.le_add_right _ _)) (Nat.ne_of_lt (Nat.lt_of_lt_of_le hol (Nat.le_add_right _ _)))).trans f258
  have f260 := (r20 (n0 + 0) (Nat.add_lt_add_left (by decide) n0) (Nat.ne_of_gt (Nat.lt_of_lt_of_le hol (Nat.le_add_right _ _)))).trans f10
  have f261 := (r25 (n0 + 0) (Nat.add_lt_add_left (by decide) n0) (fun q => absurd (Nat.add_left_cancel q) (by decide))).trans f260
  have f262 := (r31 (n0 + 0) (Nat.add_lt_add_left (by decide) n0) (Nat.ne_of_gt (Nat.lt_of_lt_of_le hol (Nat.le_add_right _ _)))).trans f261
  have f263 := (r36 (n0 + 0) (Nat.add_lt_add_left (by decide) n0) (fun q => absurd (Nat.add_left_cancel q) (by decide))).trans f262
  have f264 := (r42 (n0 + 0) (Nat.add_lt_add_left (by decide) n0) (Nat.ne_of_gt (Nat.lt_of_lt_of_le hol (Nat.le_add_right _ _)))).trans f263
  have f265 := (r47 (n0 + 0) (Nat.add_lt_add_left (by decide) n0) (fun q => absurd (Nat.add_left_cancel q) (by decide))).trans f264
  have f266 := (r54 (n0 + 0) (Nat.add_lt_add_left (by decide) n0) (fun q => absurd (Nat.add_left_cancel q) (by decide))).trans f265
  have f267 := (r62 (n0 + 0) (Nat.add_lt_add_left (by decide) n0) (Nat.ne_of_gt (Nat.lt_of_lt_of_le hol (Nat.le_add_right _ _)))).trans f266
  have f268 := (r67 (n0 + 0) (Nat.add_lt_add_left (by decide) n0) (fun q => absurd (Nat.add_left_cancel q) (by decide))).trans f267
  have f269 := (r74 (n0 + 0) (Nat.add_lt_add_left (by decide) n0) (fun q => absurd (Nat.add_left_cancel q) (by decide))).trans f268
  have f270 := (r82 (n0 + 0) (Nat.add_lt_add_left (by decide) n0) (Nat.ne_of_gt (Nat.lt_of_lt_of_le hol (Nat.le_add_right _ _)))).trans f269
  have f271 := (r87 (n0 + 0) (Nat.add_lt_add_left (by decide) n0) (fun q => absurd (Nat.add_left_cancel q) (by decide))).trans f270
  have f272 := (r94 (n0 + 0) (Nat.add_lt_add_left (by decide) n0) (fun q => absurd (Nat.add_left_cancel q) (by decide))).trans f271
  have f273 := (r102 (n0 + 0) (Nat.add_lt_add_left (by decide) n0) (Nat.ne_of_gt (Nat.lt_of_lt_of_le hol (Nat.le_add_right _ _)))).trans f272
  have f274 := (r107 (n0 + 0) (Nat.add_lt_add_left (by decide) n0) (fun q => absurd (Nat.add_left_cancel q) (by decide))).trans f273
  have f275 := (r114 (n0 + 0) (Nat.add_lt_add_left (by decide) n0) (fun q => absurd (Nat.add_left_cancel q) (by decide))).trans f274
  have f276 := (r122 (n0 + 0) (Nat.add_lt_add_left (by decide) n0) (Nat.ne_of_gt (Nat.lt_of_lt_of_le hol (Nat.le_add_right _ _)))).trans f275
  have f277 := (r127 (n0 + 0) (Nat.add_lt_add_left (by decide) n0) (fun q => absurd (Nat.add_left_cancel q) (by decide))).trans f276
  have f278 := (r134 (n0 + 0) (Nat.add_lt_add_left (by decide) n0) (fun q => absurd (Nat.add_left_cancel q) (by decide))).trans f277
  have f279 := (r142 (n0 + 0) (Nat.add_lt_add_left (by decide) n0) (Nat.ne_of_gt (Nat.lt_of_lt_of_le hol (Nat.le_add_right _ _)))).trans f278
  have f280 := (r148 (n0 + 0) (Nat.add_lt_add_left (by decide) n0) (Nat.ne_of_gt (Nat.lt_of_lt_of_le hol (Nat.le_add_right _ _)))).trans f279
  have f281 := (r153 (n0 + 0) (Nat.add_lt_add_left (by decide) n0) (fun q => absurd (Nat.add_left_cancel q) (by decide))).trans f280
  have f282 := (r160 (n0 + 0) (Nat.add_lt_add_left (by decide) n0) (fun q => absurd (Nat.add_left_cancel q) (by decide))).trans f281
  have f283 := (r168 (n0 + 0) (Nat.add_lt_add_left (by decide) n0) (Nat.ne_of_gt (Nat.lt_of_lt_of_le hol (Nat.le_add_right _ _)))).trans f282
  have f284 := (r173 (n0 + 0) (Nat.add_lt_add_left (by decide) n0) (fun q => absurd (Nat.add_left_cancel q) (by decide))).trans f283
  have f285 := (r180 (n0 + 0) (Nat.add_lt_add_left (by decide) n0) (fun q => absurd (Nat.add_left_cancel q) (by decide))).trans f284
  have f286 := (r210 (n0 + 0) (Nat.add_lt_add_left (by decide) n0) (fun q => absurd (Nat.add_left_cancel q) (by decide))).trans f285
  have f287 := (r218 (n0 + 0) (Nat.add_lt_add_left (by decide) n0) (fun q => absurd (Nat.add_left_cancel q) (by decide))).trans f286
  have f288 := (r225 (n0 + 0) (Nat.add_lt_add_left (by decide) n0) (fun q => absurd (Nat.add_left_cancel q) (by decide))).trans f287
  have f289 := (r233 (n0 + 0) (Nat.add_lt_add_left (by decide) n0) (fun q => absurd (Nat.add_left_cancel q) (by decide))).trans f288
  have f290 := (r241 (n0 + 0) (Nat.add_lt_add_left (by decide) n0) (fun q => absurd (Nat.add_left_cancel q) (by decide))).trans f289
  have f291 := (r248 (n0 + 0) (Nat.add_lt_add_left (by decide) n0) (fun q => absurd (Nat.add_left_cancel q) (by decide))).trans f290
  have f292 := (r256 (n0 + 0) (Nat.add_lt_add_left (by decide) n0) (fun q => absurd (Nat.add_left_cancel q) (by decide))).trans f291
  have b293 : At h16 (n0 + 1) (bk7 (n0 + 1)) := At.fr (m := 25) b11 bl7 r20 (bq (by decide)) (Or.inl (Nat.lt_of_lt_of_le hol (Nat.le_add_right _ _)))
  have b294 : At h21 (n0 + 1) (bk7 (n0 + 1)) := At.fr (m := 25) b293 bl7 r25 (bq (by decide)) (Or.inr (bq (by decide)))
  have b295 : At h27 (n0 + 1) (bk7 (n0 + 1)) := At.fr (m := 25) b294 bl7 r31 (bq (by decide)) (Or.inl (Nat.lt_of_lt_of_le hol (Nat.le_add_right _ _)))
  have b296 : At h32 (n0 + 1) (bk7 (n0 + 1)) := At.fr (m := 25) b295 bl7 r36 (bq (by decide)) (Or.inr (bq (by decide)))
  have b297 : At h38 (n0 + 1) (bk7 (n0 + 1)) := At.fr (m := 25) b296 bl7 r42 (bq (by decide)) (Or.inl (Nat.lt_of_lt_of_le hol (Nat.le_add_right _ _)))
  have b298 : At h43 (n0 + 1) (bk7 (n0 + 1)) := At.fr (m := 25) b297 bl7 r47 (bq (by decide)) (Or.inr (bq (by decide)))
  have b299 : At h49 (n0 + 1) (bk7 (n0 + 1)) := At.fr (m := 25) b298 bl7 r54 (bq (by decide)) (Or.inr (bq (by decide)))
  have b300 : At h58 (n0 + 1) (bk7 (n0 + 1)) := At.fr (m := 25) b299 bl7 r62 (bq (by decide)) (Or.inl (Nat.lt_of_lt_of_le hol (Nat.le_add_right _ _)))
  have b301 : At h63 (n0 + 1) (bk7 (n0 + 1)) := At.fr (m := 25) b300 bl7 r67 (bq (by decide)) (Or.inr (bq (by decide)))
  have b302 : At h69 (n0 + 1) (bk7 (n0 + 1)) := At.fr (m := 25) b301 bl7 r74 (bq (by decide)) (Or.inr (bq (by decide)))
  have b303 : At h78 (n0 + 1) (bk7 (n0 + 1)) := At.fr (m := 25) b302 bl7 r82 (bq (by decide)) (Or.inl (Nat.lt_of_lt_of_le hol (Nat.le_add_right _ _)))
  have b304 : At h83 (n0 + 1) (bk7 (n0 + 1)) := At.fr (m := 25) b303 bl7 r87 (bq (by decide)) (Or.inr (bq (by decide)))
  have b305 : At h89 (n0 + 1) (bk7 (n0 + 1)) := At.fr (m := 25) b304 bl7 r94 (bq (by decide)) (Or.inr (bq (by decide)))
  have b306 : At h98 (n0 + 1) (bk7 (n0 + 1)) := At.fr (m := 25) b305 bl7 r102 (bq (by decide)) (Or.inl (Nat.lt_of_lt_of_le hol (Nat.le_add_right _ _)))
  have b307 : At h103 (n0 + 1) (bk7 (n0 + 1)) := At.fr (m := 25) b306 bl7 r107 (bq (by decide)) (Or.inr (bq (by decide)))
  have b308 : At h109 (n0 + 1) (bk7 (n0 + 1)) := At.fr (m := 25) b307 bl7 r114 (bq (by decide)) (Or.inr (bq (by decide)))
  have b309 : At h118 (n0 + 1) (bk7 (n0 + 1)) := At.fr (m := 25) b308 bl7 r122 (bq (by decide)) (Or.inl (Nat.lt_of_lt_of_le hol (Nat.le_add_right _ _)))
  have b310 : At h123 (n0 + 1) (bk7 (n0 + 1)) := At.fr (m := 25) b309 bl7 r127 (bq (by decide)) (Or.inr (bq (by decide)))
  have b311 : At h129 (n0 + 1) (bk7 (n0 + 1)) := At.fr (m := 25) b310 bl7 r134 (bq (by decide)) (Or.inr (bq (by decide)))
  have b312 : At h138 (n0 + 1) (bk7 (n0 + 1)) := At.fr (m := 25) b311 bl7 r142 (bq (by decide)) (Or.inl (Nat.lt_of_lt_of_le hol (Nat.le_add_right _ _)))
  have b313 : At h144 (n0 + 1) (bk7 (n0 + 1)) := At.fr (m := 25) b312 bl7 r148 (bq (by decide)) (Or.inl (Nat.lt_of_lt_of_le hol (Nat.le_add_right _ _)))
  have b314 : At h149 (n0 + 1) (bk7 (n0 + 1)) := At.fr (m := 25) b313 bl7 r153 (bq (by decide)) (Or.inr (bq (by decide)))
  have b315 : At h155 (n0 + 1) (bk7 (n0 + 1)) := At.fr (m := 25) b314 bl7 r160 (bq (by decide)) (Or.inr (bq (by decide)))
  have b316 : At h164 (n0 + 1) (bk7 (n0 + 1)) := At.fr (m := 25) b315 bl7 r168 (bq (by decide)) (Or.inl (Nat.lt_of_lt_of_le hol (Nat.le_add_right _ _)))
  have b317 : At h169 (n0 + 1) (bk7 (n0 + 1)) := At.fr (m := 25) b316 bl7 r173 (bq (by decide)) (Or.inr (bq (by decide)))
  have b318 : At h175 (n0 + 1) (bk7 (n0 + 1)) := At.fr (m := 25) b317 bl7 r180 (bq (by decide)) (Or.inr (bq (by decide)))
  have b319 : At h206 (n0 + 1) (bk7 (n0 + 1)) := At.fr (m := 25) b318 bl7 r210 (bq (by decide)) (Or.inr (bq (by decide)))
  have b320 : At h214 (n0 + 1) (bk7 (n0 + 1)) := At.fr (m := 25) b319 bl7 r218 (bq (by decide)) (Or.inr (bq (by decide)))
  have b321 : At h220 (n0 + 1) (bk7 (n0 + 1)) := At.fr (m := 25) b320 bl7 r225 (bq (by decide)) (Or.inr (bq (by decide)))
  have b322 : At h229 (n0 + 1) (bk7 (n0 + 1)) := At.fr (m := 25) b321 bl7 r233 (bq (by decide)) (Or.inr (bq (by decide)))
  have b323 : At h237 (n0 + 1) (bk7 (n0 + 1)) := At.fr (m := 25) b322 bl7 r241 (bq (by decide)) (Or.inr (bq (by decide)))
  have b324 : At h243 (n0 + 1) (bk7 (n0 + 1)) := At.fr (m := 25) b323 bl7 r248 (bq (by decide)) (Or.inr (bq (by decide)))
  have b325 : At h252 (n0 + 1) (bk7 (n0 + 1)) := At.fr (m := 25) b324 bl7 r256 (bq (by decide)) (Or.inr (bq (by decide)))
  have f326 := (r42 (n0 + 27) (Nat.add_lt_add_left (by decide) n0) (Nat.ne_of_gt (Nat.lt_of_lt_of_le hol (Nat.le_add_right _ _)))).trans f34
  have f327 := (r47 (n0 + 27) (Nat.add_lt_add_left (by decide) n0) (fun q => absurd (Nat.add_left_cancel q) (by decide))).trans f326
  have f328 := (r54 (n0 + 27) (Nat.add_lt_add_left (by decide) n0) (fun q => absurd (Nat.add_left_cancel q) (by decide))).trans f327
  have f329 := (r62 (n0 + 27) (Nat.add_lt_add_left (by decide) n0) (Nat.ne_of_gt (Nat.lt_of_lt_of_le hol (Nat.le_add_right _ _)))).trans f328
  have f330 := (r67 (n0 + 27) (Nat.add_lt_add_left (by decide) n0) (fun q => absurd (Nat.add_left_cancel q) (by decide))).trans f329
  have f331 := (r74 (n0 + 27) (Nat.add_lt_add_left (by decide) n0) (fun q => absurd (Nat.add_left_cancel q) (by decide))).trans f330
  have f332 := (r82 (n0 + 27) (Nat.add_lt_add_left (by decide) n0) (Nat.ne_of_gt (Nat.lt_of_lt_of_le hol (Nat.le_add_right _ _)))).trans f331
  have f333 := (r87 (n0 + 27) (Nat.add_lt_add_left (by decide) n0) (fun q => absurd (Nat.add_left_cancel q) (by decide))).trans f332
  have f334 := (r94 (n0 + 27) (Nat.add_lt_add_left (by decide) n0) (fun q => absurd (Nat.add_left_cancel q) (by decide))).trans f333
  have f335 := (r102 (n0 + 27) (Nat.add_lt_add_left (by decide) n0) (Nat.ne_of_gt (Nat.lt_of_lt_of_le hol (Nat.le_add_right _ _)))).trans f334
  have f336 := (r107 (n0 + 27) (Nat.add_lt_add_left (by decide) n0) (fun q => absurd (Nat.add_left_cancel q) (by decide))).trans f335
  have f337 := (r114 (n0 + 27) (Nat.add_lt_add_left (by decide) n0) (fun q => absurd (Nat.add_left_cancel q) (by decide))).trans f336
  have f338 := (r122 (n0 + 27) (Nat.add_lt_add_left (by decide) n0) (Nat.ne_of_gt (Nat.lt_of_lt_of_le hol (Nat.le_add_right _ _)))).trans f337
  have f339 := (r127 (n0 + 27) (Nat.add_lt_add_left (by decide) n0) (fun q => absurd (Nat.add_left_cancel q) (by decide))).trans f338
  have f340 := (r134 (n0 + 27) (Nat.add_lt_add_left (by decide) n0) (fun q => absurd (Nat.add_left_cancel q) (by decide))).trans f339
  have f341 := (r142 (n0 + 27) (Nat.add_lt_add_left (by decide) n0) (Nat.ne_of_gt (Nat.lt_of_lt_of_le hol (Nat.le_add_right _ _)))).trans f340
  have f342 := (r148 (n0 + 27) (Nat.add_lt_add_left (by decide) n0) (Nat.ne_of_gt (Nat.lt_of_lt_of_le hol (Nat.le_add_right _ _)))).trans f341
  have f343 := (r153 (n0 + 27) (Nat.add_lt_add_left (by decide) n0) (fun q => absurd (Nat.add_left_cancel q) (by decide))).trans f342
  have f344 := (r160 (n0 + 27) (Nat.add_lt_add_left (by decide) n0) (fun q => absurd (Nat.add_left_cancel q) (by decide))).trans f343
  have f345 := (r168 (n0 + 27) (Nat.add_lt_add_left (by decide) n0) (Nat.ne_of_gt (Nat.lt_of_lt_of_le hol (Nat.le_add_right _ _)))).trans f344
  have f346 := (r173 (n0 + 27) (Nat.add_lt_add_left (by decide) n0) (fun q => absurd (Nat.add_left_cancel q) (by decide))).trans f345
  have f347 := (r180 (n0 + 27) (Nat.add_lt_add_left (by decide) n0) (fun q => absurd (Nat.add_left_cancel q) (by decide))).trans f346
  have f348 := (r210 (n0 + 27) (Nat.add_lt_add_left (by decide) n0) (fun q => absurd (Nat.add_left_cancel q) (by decide))).trans f347
  have f349 := (r218 (n0 + 27) (Nat.add_lt_add_left (by decide) n0) (fun q => absurd (Nat.add_left_cancel q) (by decide))).trans f348
  have f350 := (r225 (n0 + 27) (Nat.add_lt_add_left (by decide) n0) (fun q => absurd (Nat.add_left_cancel q) (by decide))).trans f349
  have f351 := (r233 (n0 + 27) (Nat.add_lt_add_left (by decide) n0) (fun q => absurd (Nat.add_left_cancel q) (by decide))).trans f350
  have f352 := (r241 (n0 + 27) (Nat.add_lt_add_left (by decide) n0) (fun q => absurd (Nat.add_left_cancel q) (by decide))).trans f351
  have f353 := (r248 (n0 + 27) (Nat.add_lt_add_left (by decide) n0) (fun q => absurd (Nat.add_left_cancel q) (by decide))).trans f352
  have f354 := (r256 (n0 + 27) (Nat.add_lt_add_left (by decide) n0) (fun q => absurd (Nat.add_left_cancel q) (by decide))).trans f353
  have f355 := (r62 (n0 + 28) (Nat.add_lt_add_left (by decide) n0) (Nat.ne_of_gt (Nat.lt_of_lt_of_le hol (Nat.le_add_right _ _)))).trans f52
  have f356 := (r67 (n0 + 28) (Nat.add_lt_add_left (by decide) n0) (fun q => absurd (Nat.add_left_cancel q) (by decide))).trans f355
  have f357 := (r74 (n0 + 28) (Nat.add_lt_add_left (by decide) n0) (fun q => absurd (Nat.add_left_cancel q) (by decide))).trans f356
  have f358 := (r82 (n0 + 28) (Nat.add_lt_add_left (by decide) n0) (Nat.ne_of_gt (Nat.lt_of_lt_of_le hol (Nat.le_add_right _ _)))).trans f357
  have f359 := (r87 (n0 + 28) (Nat.add_lt_add_left (by decide) n0) (fun q => absurd (Nat.add_left_cancel q) (by decide))).trans f358
  have f360 := (r94 (n0 + 28) (Nat.add_lt_add_left (by decide) n0) (fun q => absurd (Nat.add_left_cancel q) (by decide))).trans f359
  have f361 := (r102 (n0 + 28) (Nat.add_lt_add_left (by decide) n0) (Nat.ne_of_gt (Nat.lt_of_lt_of_le hol (Nat.le_add_right _ _)))).trans f360
  have f362 := (r107 (n0 + 28) (Nat.add_lt_add_left (by decide) n0) (fun q => absurd (Nat.add_left_cancel q) (by decide))).trans f361
  have f363 := (r114 (n0 + 28) (Nat.add_lt_add_left (by decide) n0) (fun q => absurd (Nat.add_left_cancel q) (by decide))).trans f362
  have f364 := (r122 (n0 + 28) (Nat.add_lt_add_left (by decide) n0) (Nat.ne_of_gt (Nat.lt_of_lt_of_le hol (Nat.le_add_right _ _)))).trans f363
  have f365 := (r127 (n0 + 28) (Nat.add_lt_add_left (by decide) n0) (fun q => absurd (Nat.add_left_cancel q) (by decide))).trans f364
  have f366 := (r134 (n0 + 28) (Nat.add_lt_add_left (by decide) n0) (fun q => absurd (Nat.add_left_cancel q) (by decide))).trans f365
  have f367 := (r142 (n0 + 28) (Nat.add_lt_add_left (by decide) n0) (Nat.ne_of_gt (Nat.lt_of_lt_of_le hol (Nat.le_add_right _ _)))).trans f366
  have f368 := (r148 (n0 + 28) (Nat.add_lt_add_left (by decide) n0) (Nat.ne_of_gt (Nat.lt_of_lt_of_le hol (Nat.le_add_right _ _)))).trans f367
  have f369 := (r153 (n0 + 28) (Nat.add_lt_add_left (by decide) n0) (fun q => absurd (Nat.add_left_cancel q) (by decide))).trans f368
  have f370 := (r160 (n0 + 28) (Nat.add_lt_add_left (by decide) n0) (fun q => absurd (Nat.add_left_cancel q) (by decide))).trans f369
  have f371 := (r168 (n0 + 28) (Nat.add_lt_add_left (by decide) n0) (Nat.ne_of_gt (Nat.lt_of_lt_of_le hol (Nat.le_add_right _ _)))).trans f370
  have f372 := (r173 (n0 + 28) (Nat.add_lt_add_left (by decide) n0) (fun q => absurd (Nat.add_left_cancel q) (by decide))).trans f371
  have f373 := (r180 (n0 + 28) (Nat.add_lt_add_left (by decide) n0) (fun q => absurd (Nat.add_left_cancel q) (by decide))).trans f372
  have f374 := (r210 (n0 + 28) (Nat.add_lt_add_left (by decide) n0) (fun q => absurd (Nat.add_left_cancel q) (by decide))).trans f373
  have f375 := (r218 (n0 + 28) (Nat.add_lt_add_left (by decide) n0) (fun q => absurd (Nat.add_left_cancel q) (by decide))).trans f374
  have f376 := (r225 (n0 + 28) (Nat.add_lt_add_left (by decide) n0) (fun q => absurd (Nat.add_left_cancel q) (by decide))).trans f375
  have f377 := (r233 (n0 + 28) (Nat.add_lt_add_left (by decide) n0) (fun q => absurd (Nat.add_left_cancel q) (by decide))).trans f376
  have f378 := (r241 (n0 + 28) (Nat.add_lt_add_left (by decide) n0) (fun q => absurd (Nat.add_left_cancel q) (by decide))).trans f377
  have f379 := (r248 (n0 + 28) (Nat.add_lt_add_left (by decide) n0) (fun q => absurd (Nat.add_left_cancel q) (by decide))).trans f378
  have f380 := (r256 (n0 + 28) (Nat.add_lt_add_left (by decide) n0) (fun q => absurd (Nat.add_left_cancel q) (by decide))).trans f379
  have b381 : At h58 (n0 + 29) (bk3 (n0 + 29)) := At.fr (m := 13) b53 bl3 r62 (bq (by decide)) (Or.inl (Nat.lt_of_lt_of_le hol (Nat.le_add_right _ _)))
  have b382 : At h63 (n0 + 29) (bk3 (n0 + 29)) := At.fr (m := 13) b381 bl3 r67 (bq (by decide)) (Or.inr (bq (by decide)))
  have b383 : At h69 (n0 + 29) (bk3 (n0 + 29)) := At.fr (m := 13) b382 bl3 r74 (bq (by decide)) (Or.inr (bq (by decide)))
  have b384 : At h78 (n0 + 29) (bk3 (n0 + 29)) := At.fr (m := 13) b383 bl3 r82 (bq (by decide)) (Or.inl (Nat.lt_of_lt_of_le hol (Nat.le_add_right _ _)))
  have b385 : At h83 (n0 + 29) (bk3 (n0 + 29)) := At.fr (m := 13) b384 bl3 r87 (bq (by decide)) (Or.inr (bq (by decide)))
  have b386 : At h89 (n0 + 29) (bk3 (n0 + 29)) := At.fr (m := 13) b385 bl3 r94 (bq (by decide)) (Or.inr (bq (by decide)))
  have b387 : At h98 (n0 + 29) (bk3 (n0 + 29)) := At.fr (m := 13) b386 bl3 r102 (bq (by decide)) (Or.inl (Nat.lt_of_lt_of_le hol (Nat.le_add_right _ _)))
  have b388 : At h103 (n0 + 29) (bk3 (n0 + 29)) := At.fr (m := 13) b387 bl3 r107 (bq (by decide)) (Or.inr (bq (by decide)))
  have b389 : At h109 (n0 + 29) (bk3 (n0 + 29)) := At.fr (m := 13) b388 bl3 r114 (bq (by decide)) (Or.inr (bq (by decide)))
  have b390 : At h118 (n0 + 29) (bk3 (n0 + 29)) := At.fr (m := 13) b389 bl3 r122 (bq (by decide)) (Or.inl (Nat.lt_of_lt_of_le hol (Nat.le_add_right _ _)))
  have b391 : At h123 (n0 + 29) (bk3 (n0 + 29)) := At.fr (m := 13) b390 bl3 r127 (bq (by decide)) (Or.inr (bq (by decide)))
  have b392 : At h129 (n0 + 29) (bk3 (n0 + 29)) := At.fr (m := 13) b391 bl3 r134 (bq (by decide)) (Or.inr (bq (by decide)))
  have b393 : At h138 (n0 + 29) (bk3 (n0 + 29)) := At.fr (m := 13) b392 bl3 r142 (bq (by decide)) (Or.inl (Nat.lt_of_lt_of_le hol (Nat.le_add_right _ _)))
  have b394 : At h144 (n0 + 29) (bk3 (n0 + 29)) := At.fr (m := 13) b393 bl3 r148 (bq (by decide)) (Or.inl (Nat.lt_of_lt_of_le hol (Nat.le_add_right _ _)))
  have b395 : At h149 (n0 + 29) (bk3 (n0 + 29)) := At.fr (m := 13) b394 bl3 r153 (bq (by decide)) (Or.inr (bq (by decide)))
  have b396 : At h155 (n0 + 29) (bk3 (n0 + 29)) := At.fr (m := 13) b395 bl3 r160 (bq (by decide)) (Or.inr (bq (by decide)))
  have b397 : At h164 (n0 + 29) (bk3 (n0 + 29)) := At.fr (m := 13) b396 bl3 r168 (bq (by decide)) (Or.inl (Nat.lt_of_lt_of_le hol (Nat.le_add_right _ _)))
  have b398 : At h169 (n0 + 29) (bk3 (n0 + 29)) := At.fr (m := 13) b397 bl3 r173 (bq (by decide)) (Or.inr (bq (by decide)))
  have b399 : At h175 (n0 + 29) (bk3 (n0 + 29)) := At.fr (m := 13) b398 bl3 r180 (bq (by decide)) (Or.inr (bq (by decide)))
  have b400 : At h206 (n0 + 29) (bk3 (n0 + 29)) := At.fr (m := 13) b399 bl3 r210 (bq (by decide)) (Or.inl (Nat.add_lt_add_left (by decide) n0))
  have b401 : At h214 (n0 + 29) (bk3 (n0 + 29)) := At.fr (m := 13) b400 bl3 r218 (bq (by decide)) (Or.inr (bq (by decide)))
  have b402 : At h220 (n0 + 29) (bk3 (n0 + 29)) := At.fr (m := 13) b401 bl3 r225 (bq (by decide)) (Or.inr (bq (by decide)))
  have b403 : At h229 (n0 + 29) (bk3 (n0 + 29)) := At.fr (m := 13) b402 bl3 r233 (bq (by decide)) (Or.inl (Nat.add_lt_add_left (by decide) n0))
  have b404 : At h237 (n0 + 29) (bk3 (n0 + 29)) := At.fr (m := 13) b403 bl3 r241 (bq (by decide)) (Or.inr (bq (by decide)))
  have b405 : At h243 (n0 + 29) (bk3 (n0 + 29)) := At.fr (m := 13) b404 bl3 r248 (bq (by decide)) (Or.inr (bq (by decide)))
  have b406 : At h252 (n0 + 29) (bk3 (n0 + 29)) := At.fr (m := 13) b405 bl3 r256 (bq (by decide)) (Or.inl (Nat.add_lt_add_left (by decide) n0))
  have f407 := (r82 (n0 + 42) (Nat.add_lt_add_left (by decide) n0) (Nat.ne_of_gt (Nat.lt_of_lt_of_le hol (Nat.le_add_right _ _)))).trans f72
  have f408 := (r87 (n0 + 42) (Nat.add_lt_add_left (by decide) n0) (fun q => absurd (Nat.add_left_cancel q) (by decide))).trans f407
  have f409 := (r94 (n0 + 42) (Nat.add_lt_add_left (by decide) n0) (fun q => absurd (Nat.add_left_cancel q) (by decide))).trans f408
  have f410 := (r102 (n0 + 42) (Nat.add_lt_add_left (by decide) n0) (Nat.ne_of_gt (Nat.lt_of_lt_of_le hol (Nat.le_add_right _ _)))).trans f409
  have f411 := (r107 (n0 + 42) (Nat.add_lt_add_left (by decide) n0) (fun q => absurd (Nat.add_left_cancel q) (by decide))).trans f410
  have f412 := (r114 (n0 + 42) (Nat.add_lt_add_left (by decide) n0) (fun q => absurd (Nat.add_left_cancel q) (by decide))).trans f411
  have f413 := (r122 (n0 + 42) (Nat.add_lt_add_left (by decide) n0) (Nat.ne_of_gt (Nat.lt_of_lt_of_le hol (Nat.le_add_right _ _)))).trans f412
  have f414 := (r127 (n0 + 42) (Nat.add_lt_add_left (by decide) n0) (fun q => absurd (Nat.add_left_cancel q) (by decide))).trans f413
  have f415 := (r134 (n0 + 42) (Nat.add_lt_add_left (by decide) n0) (fun q => absurd (Nat.add_left_cancel q) (by decide))).trans f414
  have f416 := (r142 (n0 + 42) (Nat.add_lt_add_left (by decide) n0) (Nat.ne_of_gt (Nat.lt_of_lt_of_le hol (Nat.le_add_right _ _)))).trans f415
  have f417 := (r148 (n0 + 42) (Nat.add_lt_add_left (by decide) n0) (Nat.ne_of_gt (Nat.lt_of_lt_of_le hol (Nat.le_add_right _ _)))).trans f416
  have f418 := (r153 (n0 + 42) (Nat.add_lt_add_left (by decide) n0) (fun q => absurd (Nat.add_left_cancel q) (by decide))).trans f417
  have f419 := (r160 (n0 + 42) (Nat.add_lt_add_left (by decide) n0) (fun q => absurd (Nat.add_left_cancel q) (by decide))).trans f418
  have f420 := (r168 (n0 + 42) (Nat.add_lt_add_left (by decide) n0) (Nat.ne_of_gt (Nat.lt_of_lt_of_le hol (Nat.le_add_right _ _)))).trans f419
  have f421 := (r173 (n0 + 42) (Nat.add_lt_add_left (by decide) n0) (fun q => absurd (Nat.add_left_cancel q) (by decide))).trans f420
  have f422 := (r180 (n0 + 42) (Nat.add_lt_add_left (by decide) n0) (fun q => absurd (Nat.add_left_cancel q) (by decide))).trans f421
  have f423 := (r210 (n0 + 42) (Nat.add_lt_add_left (by decide) n0) (fun q => absurd (Nat.add_left_cancel q) (by decide))).trans f422
  have f424 := (r218 (n0 + 42) (Nat.add_lt_add_left (by decide) n0) (fun q => absurd (Nat.add_left_cancel q) (by decide))).trans f423
  have f425 := (r225 (n0 + 42) (Nat.add_lt_add_left (by decide) n0) (fun q => absurd (Nat.add_left_cancel q) (by decide))).trans f424
  have f426 := (r233 (n0 + 42) (Nat.add_lt_add_left (by decide) n0) (fun q => absurd (Nat.add_left_cancel q) (by decide))).trans f425
  have f427 := (r241 (n0 + 42) (Nat.add_lt_add_left (by decide) n0) (fun q => absurd (Nat.add_left_cancel q) (by decide))).trans f426
  have f428 := (r248 (n0 + 42) (Nat.add_lt_add_left (by decide) n0) (fun q => absurd (Nat.add_left_cancel q) (by decide))).trans f427
  have f429 := (r256 (n0 + 42) (Nat.add_lt_add_left (by decide) n0) (fun q => absurd (Nat.add_left_cancel q) (by decide))).trans f428
  have b430 : At h78 (n0 + 43) (bk4 (n0 + 43)) := At.fr (m := 5) b73 bl4 r82 (bq (by decide)) (Or.inl (Nat.lt_of_lt_of_le hol (Nat.le_add_right _ _)))
  have b431 : At h83 (n0 + 43) (bk4 (n0 + 43)) := At.fr (m := 5) b430 bl4 r87 (bq (by decide)) (Or.inr (bq (by decide)))
  have b432 : At h89 (n0 + 43) (bk4 (n0 + 43)) := At.fr (m := 5) b431 bl4 r94 (bq (by decide)) (Or.inr (bq (by decide)))
  have b433 : At h98 (n0 + 43) (bk4 (n0 + 43)) := At.fr (m := 5) b432 bl4 r102 (bq (by decide)) (Or.inl (Nat.lt_of_lt_of_le hol (Nat.le_add_right _ _)))
  have b434 : At h103 (n0 + 43) (bk4 (n0 + 43)) := At.fr (m := 5) b433 bl4 r107 (bq (by decide)) (Or.inr (bq (by decide)))
  have b435 : At h109 (n0 + 43) (bk4 (n0 + 43)) := At.fr (m := 5) b434 bl4 r114 (bq (by decide)) (Or.inr (bq (by decide)))
  have b436 : At h118 (n0 + 43) (bk4 (n0 + 43)) := At.fr (m := 5) b435 bl4 r122 (bq (by decide)) (Or.inl (Nat.lt_of_lt_of_le hol (Nat.le_add_right _ _)))
  have b437 : At h123 (n0 + 43) (bk4 (n0 + 43)) := At.fr (m := 5) b436 bl4 r127 (bq (by decide)) (Or.inr (bq (by decide)))
  have b438 : At h129 (n0 + 43) (bk4 (n0 + 43)) := At.fr (m := 5) b437 bl4 r134 (bq (by decide)) (Or.inr (bq (by decide)))
  have b439 : At h138 (n0 + 43) (bk4 (n0 + 43)) := At.fr (m := 5) b438 bl4 r142 (bq (by decide)) (Or.inl (Nat.lt_of_lt_of_le hol (Nat.le_add_right _ _)))
  have b440 : At h144 (n0 + 43) (bk4 (n0 + 43)) := At.fr (m := 5) b439 bl4 r148 (bq (by decide)) (Or.inl (Nat.lt_of_lt_of_le hol (Nat.le_add_right _ _)))
  have b441 : At h149 (n0 + 43) (bk4 (n0 + 43)) := At.fr (m := 5) b440 bl4 r153 (bq (by decide)) (Or.inr (bq (by decide)))
  have b442 : At h155 (n0 + 43) (bk4 (n0 + 43)) := At.fr (m := 5) b441 bl4 r160 (bq (by decide)) (Or.inr (bq (by decide)))
  have b443 : At h164 (n0 + 43) (bk4 (n0 + 43)) := At.fr (m := 5) b442 bl4 r168 (bq (by decide)) (Or.inl (Nat.lt_of_lt_of_le hol (Nat.le_add_right _ _)))
  have b444 : At h169 (n0 + 43) (bk4 (n0 + 43)) := At.fr (m := 5) b443 bl4 r173 (bq (by decide)) (Or.inr (bq (by decide)))
  have b445 : At h175 (n0 + 43) (bk4 (n0 + 43)) := At.fr (m := 5) b444 bl4 r180 (bq (by decide)) (Or.inr (bq (by decide)))
  have b446 : At h206 (n0 + 43) (bk4 (n0 + 43)) := At.fr (m := 5) b445 bl4 r210 (bq (by decide)) (Or.inl (Nat.add_lt_add_left (by decide) n0))
  have b447 : At h214 (n0 + 43) (bk4 (n0 + 43)) := At.fr (m := 5) b446 bl4 r218 (bq (by decide)) (Or.inr (bq (by decide)))
  have b448 : At h220 (n0 + 43) (bk4 (n0 + 43)) := At.fr (m := 5) b447 bl4 r225 (bq (by decide)) (Or.inr (bq (by decide)))
  have b449 : At h229 (n0 + 43) (bk4 (n0 + 43)) := At.fr (m := 5) b448 bl4 r233 (bq (by decide)) (Or.inl (Nat.add_lt_add_left (by decide) n0))
  have b450 : At h237 (n0 + 43) (bk4 (n0 + 43)) := At.fr (m := 5) b449 bl4 r241 (bq (by decide)) (Or.inr (bq (by decide)))
  have b451 : At h243 (n0 + 43) (bk4 (n0 + 43)) := At.fr (m := 5) b450 bl4 r248 (bq (by decide)) (Or.inr (bq (by decide)))
  have b452 : At h252 (n0 + 43) (bk4 (n0 + 43)) := At.fr (m := 5) b451 bl4 r256 (bq (by decide)) (Or.inl (Nat.add_lt_add_left (by decide) n0))
  have f453 := (r102 (n0 + 48) (Nat.add_lt_add_left (by decide) n0) (Nat.ne_of_gt (Nat.lt_of_lt_of_le hol (Nat.le_add_right _ _)))).trans f92
  have f454 := (r107 (n0 + 48) (Nat.add_lt_add_left (by decide) n0) (fun q => absurd (Nat.add_left_cancel q) (by decide))).trans f453
  have f455 := (r114 (n0 + 48) (Nat.add_lt_add_left (by decide) n0) (fun q => absurd (Nat.add_left_cancel q) (by decide))).trans f454
  have f456 := (r122 (n0 + 48) (Nat.add_lt_add_left (by decide) n0) (Nat.ne_of_gt (Nat.lt_of_lt_of_le hol (Nat.le_add_right _ _)))).trans f455
  have f457 := (r127 (n0 + 48) (Nat.add_lt_add_left (by decide) n0) (fun q => absurd (Nat.add_left_cancel q) (by decide))).trans f456
  have f458 := (r134 (n0 + 48) (Nat.add_lt_add_left (by decide) n0) (fun q => absurd (Nat.add_left_cancel q) (by decide))).trans f457
  have f459 := (r142 (n0 + 48) (Nat.add_lt_add_left (by decide) n0) (Nat.ne_of_gt (Nat.lt_of_lt_of_le hol (Nat.le_add_right _ _)))).trans f458
  have f460 := (r148 (n0 + 48) (Nat.add_lt_add_left (by decide) n0) (Nat.ne_of_gt (Nat.lt_of_lt_of_le hol (Nat.le_add_right _ _)))).trans f459
  have f461 := (r153 (n0 + 48) (Nat.add_lt_add_left (by decide) n0) (fun q => absurd (Nat.add_left_cancel q) (by decide))).trans f460
  have f462 := (r160 (n0 + 48) (Nat.add_lt_add_left (by decide) n0) (fun q => absurd (Nat.add_left_cancel q) (by decide))).trans f461
  have f463 := (r168 (n0 + 48) (Nat.add_lt_add_left (by decide) n0) (Nat.ne_of_gt (Nat.lt_of_lt_of_le hol (Nat.le_add_right _ _)))).trans f462
  have f464 := (r173 (n0 + 48) (Nat.add_lt_add_left (by decide) n0) (fun q => absurd (Nat.add_left_cancel q) (by decide))).trans f463
  have f465 := (r180 (n0 + 48) (Nat.add_lt_add_left (by decide) n0) (fun q => absurd (Nat.add_left_cancel q) (by decide))).trans f464
  have f466 := (r210 (n0 + 48) (Nat.add_lt_add_left (by decide) n0) (fun q => absurd (Nat.add_left_cancel q) (by decide))).trans f465
  have f467 := (r218 (n0 + 48) (Nat.add_lt_add_left (by decide) n0) (fun q => absurd (Nat.add_left_cancel q) (by decide))).trans f466
  have f468 := (r225 (n0 + 48) (Nat.add_lt_add_left (by decide) n0) (fun q => absurd (Nat.add_left_cancel q) (by decide))).trans f467
  have f469 := (r233 (n0 + 48) (Nat.add_lt_add_left (by decide) n0) (fun q => absurd (Nat.add_left_cancel q) (by decide))).trans f468
  have f470 := (r241 (n0 + 48) (Nat.add_lt_add_left (by decide) n0) (fun q => absurd (Nat.add_left_cancel q) (by decide))).trans f469
  have f471 := (r248 (n0 + 48) (Nat.add_lt_add_left (by decide) n0) (fun q => absurd (Nat.add_left_cancel q) (by decide))).trans f470
  have f472 := (r256 (n0 + 48) (Nat.add_lt_add_left (by decide) n0) (fun q => absurd (Nat.add_left_cancel q) (by decide))).trans f471
  have b473 : At h98 (n0 + 49) (bk8 (n0 + 49)) := At.fr (m := 3) b93 bl8 r102 (bq (by decide)) (Or.inl (Nat.lt_of_lt_of_le hol (Nat.le_add_right _ _)))
  have b474 : At h103 (n0 + 49) (bk8 (n0 + 49)) := At.fr (m := 3) b473 bl8 r107 (bq (by decide)) (Or.inr (bq (by decide)))
  have b475 : At h109 (n0 + 49) (bk8 (n0 + 49)) := At.fr (m := 3) b474 bl8 r114 (bq (by decide)) (Or.inr (bq (by decide)))
  have b476 : At h118 (n0 + 49) (bk8 (n0 + 49)) := At.fr (m := 3) b475 bl8 r122 (bq (by decide)) (Or.inl (Nat.lt_of_lt_of_le hol (Nat.le_add_right _ _)))
  have b477 : At h123 (n0 + 49) (bk8 (n0 + 49)) := At.fr (m := 3) b476 bl8 r127 (bq (by decide)) (Or.inr (bq (by decide)))
  have b478 : At h129 (n0 + 49) (bk8 (n0 + 49)) := At.fr (m := 3) b477 bl8 r134 (bq (by decide)) (Or.inr (bq (by decide)))
  have b479 : At h138 (n0 + 49) (bk8 (n0 + 49)) := At.fr (m := 3) b478 bl8 r142 (bq (by decide)) (Or.inl (Nat.lt_of_lt_of_le hol (Nat.le_add_right _ _)))
  have b480 : At h144 (n0 + 49) (bk8 (n0 + 49)) := At.fr (m := 3) b479 bl8 r148 (bq (by decide)) (Or.inl (Nat.lt_of_lt_of_le hol (Nat.le_add_right _ _)))
  have b481 : At h149 (n0 + 49) (bk8 (n0 + 49)) := At.fr (m := 3) b480 bl8 r153 (bq (by decide)) (Or.inr (bq (by decide)))
  have b482 : At h155 (n0 + 49) (bk8 (n0 + 49)) := At.fr (m := 3) b481 bl8 r160 (bq (by decide)) (Or.inr (bq (by decide)))
  have b483 : At h164 (n0 + 49) (bk8 (n0 + 49)) := At.fr (m := 3) b482 bl8 r168 (bq (by decide)) (Or.inl (Nat.lt_of_lt_of_le hol (Nat.le_add_right _ _)))
  have b484 : At h169 (n0 + 49) (bk8 (n0 + 49)) := At.fr (m := 3) b483 bl8 r173 (bq (by decide)) (Or.inr (bq (by decide)))
  have b485 : At h175 (n0 + 49) (bk8 (n0 + 49)) := At.fr (m := 3) b484 bl8 r180 (bq (by decide)) (Or.inr (bq (by decide)))
  have b486 : At h206 (n0 + 49) (bk8 (n0 + 49)) := At.fr (m := 3) b485 bl8 r210 (bq (by decide)) (Or.inl (Nat.add_lt_add_left (by decide) n0))
  have b487 : At h214 (n0 + 49) (bk8 (n0 + 49)) := At.fr (m := 3) b486 bl8 r218 (bq (by decide)) (Or.inr (bq (by decide)))
  have b488 : At h220 (n0 + 49) (bk8 (n0 + 49)) := At.fr (m := 3) b487 bl8 r225 (bq (by decide)) (Or.inr (bq (by decide)))
  have b489 : At h229 (n0 + 49) (bk8 (n0 + 49)) := At.fr (m := 3) b488 bl8 r233 (bq (by decide)) (Or.inl (Nat.add_lt_add_left (by decide) n0))
  have b490 : At h237 (n0 + 49) (bk8 (n0 + 49)) := At.fr (m := 3) b489 bl8 r241 (bq (by decide)) (Or.inr (bq (by decide)))
  have b491 : At h243 (n0 + 49) (bk8 (n0 + 49)) := At.fr (m := 3) b490 bl8 r248 (bq (by decide)) (Or.inr (bq (by decide)))
  have b492 : At h252 (n0 + 49) (bk8 (n0 + 49)) := At.fr (m := 3) b491 bl8 r256 (bq (by decide)) (Or.inl (Nat.add_lt_add_left (by decide) n0))
  have f493 := (r122 (n0 + 52) (Nat.add_lt_add_left (by decide) n0) (Nat.ne_of_gt (Nat.lt_of_lt_of_le hol (Nat.le_add_right _ _)))).trans f112
  have f494 := (r127 (n0 + 52) (Nat.add_lt_add_left (by decide) n0) (fun q => absurd (Nat.add_left_cancel q) (by decide))).trans f493
  have f495 := (r134 (n0 + 52) (Nat.add_lt_add_left (by decide) n0) (fun q => absurd (Nat.add_left_cancel q) (by decide))).trans f494
  have f496 := (r142 (n0 + 52) (Nat.add_lt_add_left (by decide) n0) (Nat.ne_of_gt (Nat.lt_of_lt_of_le hol (Nat.le_add_right _ _)))).trans f495
  have f497 := (r148 (n0 + 52) (Nat.add_lt_add_left (by decide) n0) (Nat.ne_of_gt (Nat.lt_of_lt_of_le hol (Nat.le_add_right _ _)))).trans f496
  have f498 := (r153 (n0 + 52) (Nat.add_lt_add_left (by decide) n0) (fun q => absurd (Nat.add_left_cancel q) (by decide))).trans f497
  have f499 := (r160 (n0 + 52) (Nat.add_lt_add_left (by decide) n0) (fun q => absurd (Nat.add_left_cancel q) (by decide))).trans f498
  have f500 := (r168 (n0 + 52) (Nat.add_lt_add_left (by decide) n0) (Nat.ne_of_gt (Nat.lt_of_lt_of_le hol (Nat.le_add_right _ _)))).trans f499
  have f501 := (r173 (n0 + 52) (Nat.add_lt_add_left (by decide) n0) (fun q => absurd (Nat.add_left_cancel q) (by decide))).trans f500
  have f502 := (r180 (n0 + 52) (Nat.add_lt_add_left (by decide) n0) (fun q => absurd (Nat.add_left_cancel q) (by decide))).trans f501
  have f503 := (r210 (n0 + 52) (Nat.add_lt_add_left (by decide) n0) (fun q => absurd (Nat.add_left_cancel q) (by decide))).trans f502
  have f504 := (r218 (n0 + 52) (Nat.add_lt_add_left (by decide) n0) (fun q => absurd (Nat.add_left_cancel q) (by decide))).trans f503
  have f505 := (r225 (n0 + 52) (Nat.add_lt_add_left (by decide) n0) (fun q => absurd (Nat.add_left_cancel q) (by decide))).trans f504
  have f506 := (r233 (n0 + 52) (Nat.add_lt_add_left (by decide) n0) (fun q => absurd (Nat.add_left_cancel q) (by decide))).trans f505
  have f507 := (r241 (n0 + 52) (Nat.add_lt_add_left (by decide) n0) (fun q => absurd (Nat.add_left_cancel q) (by decide))).trans f506
  have f508 := (r248 (n0 + 52) (Nat.add_lt_add_left (by decide) n0) (fun q => absurd (Nat.add_left_cancel q) (by decide))).trans f507
  have f509 := (r256 (n0 + 52) (Nat.add_lt_add_left (by decide) n0) (fun q => absurd (Nat.add_left_cancel q) (by decide))).trans f508
  have b510 : At h118 (n0 + 53) (bk5 (n0 + 53)) := At.fr (m := 2) b113 bl5 r122 (bq (by decide)) (Or.inl (Nat.lt_of_lt_of_le hol (Nat.le_add_right _ _)))
  have b511 : At h123 (n0 + 53) (bk5 (n0 + 53)) := At.fr (m := 2) b510 bl5 r127 (bq (by decide)) (Or.inr (bq (by decide)))
  have b512 : At h129 (n0 + 53) (bk5 (n0 + 53)) := At.fr (m := 2) b511 bl5 r134 (bq (by decide)) (Or.inr (bq (by decide)))
  have b513 : At h138 (n0 + 53) (bk5 (n0 + 53)) := At.fr (m := 2) b512 bl5 r142 (bq (by decide)) (Or.inl (Nat.lt_of_lt_of_le hol (Nat.le_add_right _ _)))
  have b514 : At h144 (n0 + 53) (bk5 (n0 + 53)) := At.fr (m := 2) b513 bl5 r148 (bq (by decide)) (Or.inl (Nat.lt_of_lt_of_le hol (Nat.le_add_right _ _)))
  have b515 : At h149 (n0 + 53) (bk5 (n0 + 53)) := At.fr (m := 2) b514 bl5 r153 (bq (by decide)) (Or.inr (bq (by decide)))
  have b516 : At h155 (n0 + 53) (bk5 (n0 + 53)) := At.fr (m := 2) b515 bl5 r160 (bq (by decide)) (Or.inr (bq (by decide)))
  have b517 : At h164 (n0 + 53) (bk5 (n0 + 53)) := At.fr (m := 2) b516 bl5 r168 (bq (by decide)) (Or.inl (Nat.lt_of_lt_of_le hol (Nat.le_add_right _ _)))
  have b518 : At h169 (n0 + 53) (bk5 (n0 + 53)) := At.fr (m := 2) b517 bl5 r173 (bq (by decide)) (Or.inr (bq (by decide)))
  have b519 : At h175 (n0 + 53) (bk5 (n0 + 53)) := At.fr (m := 2) b518 bl5 r180 (bq (by decide)) (Or.inr (bq (by decide)))
  have b520 : At h206 (n0 + 53) (bk5 (n0 + 53)) := At.fr (m := 2) b519 bl5 r210 (bq (by decide)) (Or.inl (Nat.add_lt_add_left (by decide) n0))
  have b521 : At h214 (n0 + 53) (bk5 (n0 + 53)) := At.fr (m := 2) b520 bl5 r218 (bq (by decide)) (Or.inr (bq (by decide)))
  have b522 : At h220 (n0 + 53) (bk5 (n0 + 53)) := At.fr (m := 2) b521 bl5 r225 (bq (by decide)) (Or.inr (bq (by decide)))
  have b523 : At h229 (n0 + 53) (bk5 (n0 + 53)) := At.fr (m := 2) b522 bl5 r233 (bq (by decide)) (Or.inl (Nat.add_lt_add_left (by decide) n0))
  have b524 : At h237 (n0 + 53) (bk5 (n0 + 53)) := At.fr (m := 2) b523 bl5 r241 (bq (by decide)) (Or.inr (bq (by decide)))
  have b525 : At h243 (n0 + 53) (bk5 (n0 + 53)) := At.fr (m := 2) b524 bl5 r248 (bq (by decide)) (Or.inr (bq (by decide)))
  have b526 : At h252 (n0 + 53) (bk5 (n0 + 53)) := At.fr (m := 2) b525 bl5 r256 (bq (by decide)) (Or.inl (Nat.add_lt_add_left (by decide) n0))
  have f527 := (r148 (n0 + 55) (Nat.add_lt_add_left (by decide) n0) (Nat.ne_of_gt (Nat.lt_of_lt_of_le hol (Nat.le_add_right _ _)))).trans f143
  have f528 := (r153 (n0 + 55) (Nat.add_lt_add_left (by decide) n0) (fun q => absurd (Nat.add_left_cancel q) (by decide))).trans f527
  have f529 := (r160 (n0 + 55) (Nat.add_lt_add_left (by decide) n0) (fun q => absurd (Nat.add_left_cancel q) (by decide))).trans f528
  have f530 := (r168 (n0 + 55) (Nat.add_lt_add_left (by decide) n0) (Nat.ne_of_gt (Nat.lt_of_lt_of_le hol (Nat.le_add_right _ _)))).trans f529
  have f531 := (r173 (n0 + 55) (Nat.add_lt_add_left (by decide) n0) (fun q => absurd (Nat.add_left_cancel q) (by decide))).trans f530
  have f532 := (r180 (n0 + 55) (Nat.add_lt_add_left (by decide) n0) (fun q => absurd (Nat.add_left_cancel q) (by decide))).trans f531
  have f533 := (r210 (n0 + 55) (Nat.add_lt_add_left (by decide) n0) (fun q => absurd (Nat.add_left_cancel q) (by decide))).trans f532
  have f534 := (r218 (n0 + 55) (Nat.add_lt_add_left (by decide) n0) (fun q => absurd (Nat.add_left_cancel q) (by decide))).trans f533
  have f535 := (r225 (n0 + 55) (Nat.add_lt_add_left (by decide) n0) (fun q => absurd (Nat.add_left_cancel q) (by decide))).trans f534
  have f536 := (r233 (n0 + 55) (Nat.add_lt_add_left (by decide) n0) (fun q => absurd (Nat.add_left_cancel q) (by decide))).trans f535
  have f537 := (r241 (n0 + 55) (Nat.add_lt_add_left (by decide) n0) (fun q => absurd (Nat.add_left_cancel q) (by decide))).trans f536
  have f538 := (r248 (n0 + 55) (Nat.add_lt_add_left (by decide) n0) (fun q => absurd (Nat.add_left_cancel q) (by decide))).trans f537
  have f539 := (r256 (n0 + 55) (Nat.add_lt_add_left (by decide) n0) (fun q => absurd (Nat.add_left_cancel q) (by decide))).trans f538
  have b540 : At h138 (n0 + 56) (bk0 (n0 + 56)) := At.fr (m := 22) b133 bl0 r142 (bq (by decide)) (Or.inl (Nat.lt_of_lt_of_le hol (Nat.le_add_right _ _)))
  have b541 : At h144 (n0 + 56) (bk0 (n0 + 56)) := At.fr (m := 22) b540 bl0 r148 (bq (by decide)) (Or.inl (Nat.lt_of_lt_of_le hol (Nat.le_add_right _ _)))
  have b542 : At h149 (n0 + 56) (bk0 (n0 + 56)) := At.fr (m := 22) b541 bl0 r153 (bq (by decide)) (Or.inr (bq (by decide)))
  have b543 : At h155 (n0 + 56) (bk0 (n0 + 56)) := At.fr (m := 22) b542 bl0 r160 (bq (by decide)) (Or.inr (bq (by decide)))
  have b544 : At h164 (n0 + 56) (bk0 (n0 + 56)) := At.fr (m := 22) b543 bl0 r168 (bq (by decide)) (Or.inl (Nat.lt_of_lt_of_le hol (Nat.le_add_right _ _)))
  have b545 : At h169 (n0 + 56) (bk0 (n0 + 56)) := At.fr (m := 22) b544 bl0 r173 (bq (by decide)) (Or.inr (bq (by decide)))
  have b546 : At h175 (n0 + 56) (bk0 (n0 + 56)) := At.fr (m := 22) b545 bl0 r180 (bq (by decide)) (Or.inr (bq (by decide)))
  have b547 : At h206 (n0 + 56) (bk0 (n0 + 56)) := At.fr (m := 22) b546 bl0 r210 (bq (by decide)) (Or.inl (Nat.add_lt_add_left (by decide) n0))
  have b548 : At h214 (n0 + 56) (bk0 (n0 + 56)) := At.fr (m := 22) b547 bl0 r218 (bq (by decide)) (Or.inr (bq (by decide)))
  have b549 : At h220 (n0 + 56) (bk0 (n0 + 56)) := At.fr (m := 22) b548 bl0 r225 (bq (by decide)) (Or.inr (bq (by decide)))
  have b550 : At h229 (n0 + 56) (bk0 (n0 + 56)) := At.fr (m := 22) b549 bl0 r233 (bq (by decide)) (Or.inl (Nat.add_lt_add_left (by decide) n0))
  have b551 : At h237 (n0 + 56) (bk0 (n0 + 56)) := At.fr (m := 22) b550 bl0 r241 (bq (by decide)) (Or.inr (bq (by decide)))
  have b552 : At h243 (n0 + 56) (bk0 (n0 + 56)) := At.fr (m := 22) b551 bl0 r248 (bq (by decide)) (Or.inr (bq (by decide)))
  have b553 : At h252 (n0 + 56) (bk0 (n0 + 56)) := At.fr (m := 22) b552 bl0 r256 (bq (by decide)) (Or.inl (Nat.add_lt_add_left (by decide) n0))
  have f554 := (r168 (n0 + 78) (Nat.add_lt_add_left (by decide) n0) (Nat.ne_of_gt (Nat.lt_of_lt_of_le hol (Nat.le_add_right _ _)))).trans f158
  have f555 := (r173 (n0 + 78) (Nat.add_lt_add_left (by decide) n0) (fun q => absurd (Nat.add_left_cancel q) (by decide))).trans f554
  have f556 := (r180 (n0 + 78) (Nat.add_lt_add_left (by decide) n0) (fun q => absurd (Nat.add_left_cancel q) (by decide))).trans f555
  have f557 := (r210 (n0 + 78) (Nat.add_lt_add_left (by decide) n0) (fun q => absurd (Nat.add_left_cancel q) (by decide))).trans f556
  have f558 := (r218 (n0 + 78) (Nat.add_lt_add_left (by decide) n0) (fun q => absurd (Nat.add_left_cancel q) (by decide))).trans f557
  have f559 := (r225 (n0 + 78) (Nat.add_lt_add_left (by decide) n0) (fun q => absurd (Nat.add_left_cancel q) (by decide))).trans f558
  have f560 := (r233 (n0 + 78) (Nat.add_lt_add_left (by decide) n0) (fun q => absurd (Nat.add_left_cancel q) (by decide))).trans f559
  have f561 := (r241 (n0 + 78) (Nat.add_lt_add_left (by decide) n0) (fun q => absurd (Nat.add_left_cancel q) (by decide))).trans f560
  have f562 := (r248 (n0 + 78) (Nat.add_lt_add_left (by decide) n0) (fun q => absurd (Nat.add_left_cancel q) (by decide))).trans f561
  have f563 := (r256 (n0 + 78) (Nat.add_lt_add_left (by decide) n0) (fun q => absurd (Nat.add_left_cancel q) (by decide))).trans f562
  have b564 : At h164 (n0 + 79) (bk1 (n0 + 79)) := At.fr (m := 4) b159 bl1 r168 (bq (by decide)) (Or.inl (Nat.lt_of_lt_of_le hol (Nat.le_add_right _ _)))
  have b565 : At h169 (n0 + 79) (bk1 (n0 + 79)) := At.fr (m := 4) b564 bl1 r173 (bq (by decide)) (Or.inr (bq (by decide)))
  have b566 : At h175 (n0 + 79) (bk1 (n0 + 79)) := At.fr (m := 4) b565 bl1 r180 (bq (by decide)) (Or.inr (bq (by decide)))
  have b567 : At h206 (n0 + 79) (bk1 (n0 + 79)) := At.fr (m := 4) b566 bl1 r210 (bq (by decide)) (Or.inl (Nat.add_lt_add_left (by decide) n0))
  have b568 : At h214 (n0 + 79) (bk1 (n0 + 79)) := At.fr (m := 4) b567 bl1 r218 (bq (by decide)) (Or.inr (bq (by decide)))
  have b569 : At h220 (n0 + 79) (bk1 (n0 + 79)) := At.fr (m := 4) b568 bl1 r225 (bq (by decide)) (Or.inr (bq (by decide)))
  have b570 : At h229 (n0 + 79) (bk1 (n0 + 79)) := At.fr (m := 4) b569 bl1 r233 (bq (by decide)) (Or.inl (Nat.add_lt_add_left (by decide) n0))
  have b571 : At h237 (n0 + 79) (bk1 (n0 + 79)) := At.fr (m := 4) b570 bl1 r241 (bq (by decide)) (Or.inr (bq (by decide)))
  have b572 : At h243 (n0 + 79) (bk1 (n0 + 79)) := At.fr (m := 4) b571 bl1 r248 (bq (by decide)) (Or.inr (bq (by decide)))
  have b573 : At h252 (n0 + 79) (bk1 (n0 + 79)) := At.fr (m := 4) b572 bl1 r256 (bq (by decide)) (Or.inl (Nat.add_lt_add_left (by decide) n0))
  have f574 := (r210 (n0 + 83) (Nat.add_lt_add_left (by decide) n0) (fun q => absurd (Nat.add_left_cancel q) (by decide))).trans f178
  have f575 := (r218 (n0 + 83) (Nat.add_lt_add_left (by decide) n0) (fun q => absurd (Nat.add_left_cancel q) (by decide))).trans f574
  have f576 := (r225 (n0 + 83) (Nat.add_lt_add_left (by decide) n0) (fun q => absurd (Nat.add_left_cancel q) (by decide))).trans f575
  have f577 := (r233 (n0 + 83) (Nat.add_lt_add_left (by decide) n0) (fun q => absurd (Nat.add_left_cancel q) (by decide))).trans f576
  have f578 := (r241 (n0 + 83) (Nat.add_lt_add_left (by decide) n0) (fun q => absurd (Nat.add_left_cancel q) (by decide))).trans f577
  have f579 := (r248 (n0 + 83) (Nat.add_lt_add_left (by decide) n0) (fun q => absurd (Nat.add_left_cancel q) (by decide))).trans f578
  have f580 := (r256 (n0 + 83) (Nat.add_lt_add_left (by decide) n0) (fun q => absurd (Nat.add_left_cancel q) (by decide))).trans f579
  have b581 : At h206 (n0 + 84) (bk7 (n0 + 84)) := At.fr (m := 25) b179 bl7 r210 (bq (by decide)) (Or.inl (Nat.add_lt_add_left (by decide) n0))
  have b582 : At h214 (n0 + 84) (bk7 (n0 + 84)) := At.fr (m := 25) b581 bl7 r218 (bq (by decide)) (Or.inr (bq (by decide)))
  have b583 : At h220 (n0 + 84) (bk7 (n0 + 84)) := At.fr (m := 25) b582 bl7 r225 (bq (by decide)) (Or.inr (bq (by decide)))
  have b584 : At h229 (n0 + 84) (bk7 (n0 + 84)) := At.fr (m := 25) b583 bl7 r233 (bq (by decide)) (Or.inl (Nat.add_lt_add_left (by decide) n0))
  have b585 : At h237 (n0 + 84) (bk7 (n0 + 84)) := At.fr (m := 25) b584 bl7 r241 (bq (by decide)) (Or.inr (bq (by decide)))
  have b586 : At h243 (n0 + 84) (bk7 (n0 + 84)) := At.fr (m := 25) b585 bl7 r248 (bq (by decide)) (Or.inr (bq (by decide)))
  have b587 : At h252 (n0 + 84) (bk7 (n0 + 84)) := At.fr (m := 25) b586 bl7 r256 (bq (by decide)) (Or.inl (Nat.add_lt_add_left (by decide) n0))
  have f588 := (r233 (n0 + 109) (Nat.add_lt_add_left (by decide) n0) (fun q => absurd (Nat.add_left_cancel q) (by decide))).trans f223
  have f589 := (r241 (n0 + 109) (Nat.add_lt_add_left (by decide) n0) (fun q => absurd (Nat.add_left_cancel q) (by decide))).trans f588
  have f590 := (r248 (n0 + 109) (Nat.add_lt_add_left (by decide) n0) (fun q => absurd (Nat.add_left_cancel q) (by decide))).trans f589
  have f591 := (r256 (n0 + 109) (Nat.add_lt_add_left (by decide) n0) (fun q => absurd (Nat.add_left_cancel q) (by decide))).trans f590
  have b592 : At h229 (n0 + 110) (bk7 (n0 + 110)) := At.fr (m := 25) b224 bl7 r233 (bq (by decide)) (Or.inl (Nat.add_lt_add_left (by decide) n0))
  have b593 : At h237 (n0 + 110) (bk7 (n0 + 110)) := At.fr (m := 25) b592 bl7 r241 (bq (by decide)) (Or.inr (bq (by decide)))
  have b594 : At h243 (n0 + 110) (bk7 (n0 + 110)) := At.fr (m := 25) b593 bl7 r248 (bq (by decide)) (Or.inr (bq (by decide)))
  have b595 : At h252 (n0 + 110) (bk7 (n0 + 110)) := At.fr (m := 25) b594 bl7 r256 (bq (by decide)) (Or.inl (Nat.add_lt_add_left (by decide) n0))
  have f596 := (r256 (n0 + 135) (Nat.add_lt_add_left (by decide) n0) (fun q => absurd (Nat.add_left_cancel q) (by decide))).trans f246
  have b597 : At h252 (n0 + 136) (bk7 (n0 + 136)) := At.fr (m := 25) b247 bl7 r256 (bq (by decide)) (Or.inl (Nat.add_lt_add_left (by decide) n0))
  have hfr : ∀ j, j < n0 → j ≠ o → h252[j]? = h[j]? := by
    intro j hj hjo
    rw [r256 j (Nat.lt_of_lt_of_le hj (Nat.le_add_right _ _)) (Nat.ne_of_lt (Nat.lt_of_lt_of_le hj (Nat.le_add_right _ _))), r248 j (Nat.lt_of_lt_of_le hj (Nat.le_add_right _ _)) (Nat.ne_of_lt (Nat.lt_of_lt_of_le hj (Nat.le_add_right _ _))), r241 j (Nat.lt_of_lt_of_le hj (Nat.le_add_right _ _)) (Nat.ne_of_lt (Nat.lt_of_lt_of_le hj (Nat.le_add_right _ _))), r233 j (Nat.lt_of_lt_of_le hj (Nat.le_add_right _ _)) (Nat.ne_of_lt (Nat.lt_of_lt_of_le hj (Nat.le_add_right _ _))), r225 j (Nat.lt_of_lt_of_le hj (Nat.le_add_right _ _)) (Nat.ne_of_lt (Nat.lt_of_lt_of_le hj (Nat.le_add_right _ _))), r218 j (Nat.lt_of_lt_of_le hj (Nat.le_add_right _ _)) (Nat.ne_of_lt (Nat.lt_of_lt_of_le hj (Nat.le_add_right _ _))), r210 j (Nat.lt_of_lt_of_le hj (Nat.le_add_right _ _)) (Nat.ne_of_lt (Nat.lt_of_lt_of_le hj (Nat.le_add_right _ _))), r180 j (Nat.lt_of_lt_of_le hj (Nat.le_add_right _ _)) (Nat.ne_of_lt (Nat.lt_of_lt_of_le hj (Nat.le_add_right _ _))), r173 j (Nat.lt_of_lt_of_le hj (Nat.le_add_right _ _)) (Nat.ne_of_lt (Nat.lt_of_lt_of_le hj (Nat.le_add_right _ _))), r168 j (Nat.lt_of_lt_of_le hj (Nat.le_add_right _ _)) hjo, r160 j (Nat.lt_of_lt_of_le hj (Nat.le_add_right _ _)) (Nat.ne_of_lt (Nat.lt_of_lt_of_le hj (Nat.le_add_right _ _))), r153 j (Nat.lt_of_lt_of_le hj (Nat.le_add_right _ _)) (Nat.ne_of_lt (Nat.lt_of_lt_of_le hj (Nat.le_add_right _ _))), r148 j (Nat.lt_of_lt_of_le hj (Nat.le_add_right _ _)) hjo, r142 j (Nat.lt_of_lt_of_le hj (Nat.le_add_right _ _)) hjo, r134 j (Nat.lt_of_lt_of_le hj (Nat.le_add_right _ _)) (Nat.ne_of_lt (Nat.lt_of_lt_of_le hj (Nat.le_add_right _ _))), r127 j (Nat.lt_of_lt_of_le hj (Nat.le_add_right _ _)) (Nat.ne_of_lt (Nat.lt_of_lt_of_le hj (Nat.le_add_right _ _))), r122 j (Nat.lt_of_lt_of_le hj (Nat.le_add_right _ _)) hjo, r114 j (Nat.lt_of_lt_of_le hj (Nat.le_add_right _ _)) (Nat.ne_of_lt (Nat.lt_of_lt_of_le hj (Nat.le_add_right _ _))), r107 j (Nat.lt_of_lt_of_le hj (Nat.le_add_right _ _)) (Nat.ne_of_lt (Nat.lt_of_lt_of_le hj (Nat.le_add_right _ _))), r102 j (Nat.lt_of_lt_of_le hj (Nat.le_add_right _ _)) hjo, r94 j (Nat.lt_of_lt_of_le hj (Nat.le_add_right _ _)) (Nat.ne_of_lt (Nat.lt_of_lt_of_le hj (Nat.le_add_right _ _))), r87 j (Nat.lt_of_lt_of_le hj (Nat.le_add_right _ _)) (Nat.ne_of_lt (Nat.lt_of_lt_of_le hj (Nat.le_add_right _ _))), r82 j (Nat.lt_of_lt_of_le hj (Nat.le_add_right _ _)) hjo, r74 j (Nat.lt_of_lt_of_le hj (Nat.le_add_right _ _)) (Nat.ne_of_lt (Nat.lt_of_lt_of_le hj (Nat.le_add_right _ _))), r67 j (Nat.lt_of_lt_of_le hj (Nat.le_add_right _ _)) (Nat.ne_of_lt (Nat.lt_of_lt_of_le hj (Nat.le_add_right _ _))), r62 j (Nat.lt_of_lt_of_le hj (Nat.le_add_right _ _)) hjo, r54 j (Nat.lt_of_lt_of_le hj (Nat.le_add_right _ _)) (Nat.ne_of_lt (Nat.lt_of_lt_of_le hj (Nat.le_add_right _ _))), r47 j (Nat.lt_of_lt_of_le hj (Nat.le_add_right _ _)) (Nat.ne_of_lt (Nat.lt_of_lt_of_le hj (Nat.le_add_right _ _))), r42 j (Nat.lt_of_lt_of_le hj (Nat.le_add_right _ _)) hjo, r36 j (Nat.lt_of_lt_of_le hj (Nat.le_add_right _ _)) (Nat.ne_of_lt (Nat.lt_of_lt_of_le hj (Nat.le_add_right _ _))), r31 j (Nat.lt_of_lt_of_le hj (Nat.le_add_right _ _)) hjo, r25 j (Nat.lt_of_lt_of_le hj (Nat.le_add_right _ _)) (Nat.ne_of_lt (Nat.lt_of_lt_of_le hj (Nat.le_add_right _ _))), r20 j (Nat.lt_of_lt_of_le hj (Nat.le_add_right _ _)) hjo, r12 j (Nat.lt_of_lt_of_le hj (Nat.le_add_right _ _)) (Nat.ne_of_lt (Nat.lt_of_lt_of_le hj (Nat.le_add_right _ _))), r5 j (Nat.lt_of_lt_of_le hj (Nat.le_add_right _ _)) (Nat.ne_of_lt (Nat.lt_of_lt_of_le hj (Nat.le_add_right _ _)))]
  exact J_vret hq dX10_init_133 rfl (hk1 hn l255) (by decide) (by decide) ⟨rfl, l255, f259, (At_cons f292 (At_app bl7 b325 (At_cons f254 (At_cons f354 (At_cons f380 (At_app bl3 b406 (At_cons f429 (At_app bl4 b452 (At_cons f472 (At_app bl8 b492 (At_cons f509 (At_app bl5 b526 (At_cons f539 (At_app bl0 b553 (At_cons f563 (At_app bl1 b573 (At_cons f580 (At_app bl7 b587 (At_cons f591 (At_app bl7 b595 (At_cons f596 (At_app bl7 b597 At_nil)))))))))))))))))))))), hfr⟩
def ob11 (n : Nat) : MC := (.inr (11, [.int 0, .ref (n + 0), .ref (n + 1), .ref (n + 2), .ref (n + 3), .ref (n + 4), .ref (n + 5), .ref (n + 6), .int 0, .int 0, .int 0, .int 0, .int 0, .long 0, .int 0, .int 0, .int 0, .int 0, .int 0, .ref (n + 7), .ref (n + 8), .ref (n + 9), .int 0, .int 0, .int 0, .int 0, .int 0, .int 0, .ref (n + 10), .ref (n + 11), .ref (n + 12), .int 0, .int 0, .int 0, .ref (n + 13), .ref (n + 14), .ref (n + 15), .ref (n + 16), .ref (n + 17), .int 0, .long 0, .int 0, .ref (n + 18)]))
def bk11 (n : Nat) : List MC := (.inl (0, 2400, .inl (fun _ => 0))) :: ((.inl (1, 4, .inl (fun _ => 0))) :: ((.inl (1, 4, .inl (fun _ => 0))) :: ((.inl (1, 4, .inl (upd (fun _ => 0) ((0 : Int32).toNatClampNeg) (-1)))) :: ((.inl (1, 8, .inl (fun _ => 0))) :: ((.inl (1, 1256, .inl (fun _ => 0))) :: ((.inl (1, 444, .inl (fun _ => 0))) :: ((.inl (1, 157, .inl (fun _ => 0))) :: ((.inl (1, 3, .inl (fun _ => 0))) :: ((.inl (1, 157, .inl (fun _ => 0))) :: ((.inl (1, 9, .inl (fun _ => 0))) :: ((.inl (1, 9, .inl (fun _ => 0))) :: ((.inl (1, 9, .inl (fun _ => 0))) :: ((.inl (2, 512, .inr (.inl (fun _ => 0)))) :: ((.inl (1, 9, .inl (fun _ => 0))) :: ((.inl (1, 9, .inl (fun _ => 0))) :: ((.inl (1, 4, .inl (fun _ => 0))) :: ((.inl (1, 4, .inl (fun _ => 0))) :: ((.inl (3, 3, .inl (fun _ => 0))) :: ([])))))))))))))))))))
set_option maxRecDepth 100000 in
theorem bl11 {n : Nat} : (bk11 n).length = 19 := rfl
set_option maxHeartbeats 4000000 in
set_option maxRecDepth 100000 in
theorem c_X11_init {d : Nat} {h : List MC} {o n0 : Nat} (hd : 1 ≤ d) (hn : h.length = n0) (ho : h[o]? = some (.inr (11, [.int 0, .null, .null, .null, .null, .null, .null, .null, .int 0, .int 0, .int 0, .int 0, .int 0, .long 0, .int 0, .int 0, .int 0, .int 0, .int 0, .null, .null, .null, .int 0, .int 0, .int 0, .int 0, .int 0, .int 0, .null, .null, .null, .int 0, .int 0, .int 0, .null, .null, .null, .null, .null, .int 0, .long 0, .int 0, .null]))) : CT con0 d 19 5005 yX11_init cX11_init 1 none [.ref o] h (fun r h2 => r = none ∧ h2.length = n0 + 19 ∧ h2[o]? = some (ob11 n0) ∧ At h2 n0 (bk11 n0) ∧ ∀ j, j < n0 → j ≠ o → h2[j]? = h[j]?) := by
  have hol : o < n0 := by rw [← hn]; exact (List.getElem?_eq_some_iff.mp ho).1
  have hn0 : h.length = n0 + 0 := hn
  refine CT_of (by decide) (Nat.le_of_ble_eq_true rfl) (fun x hq => ?_)
  show J x yX11_init cX11_init 1 none d 19 5005 h.length 0 [(0, .ref o)] [] h 0 0
  refine J_aload_n (i := 0) (j := 0) dX11_init_0 rfl rfl ?_
  refine J_obj dX11_init_1 k1263 k113 k114 (Nat.le_trans (by decide) hd) (Nat.le_of_ble_eq_true rfl) ?_
  refine J_aload_n (i := 0) (j := 0) dX11_init_4 rfl rfl ?_
  refine J_sipush (v := 2400) dX11_init_5 (by decide) ?_
  refine J_newa0 (Z := 2400) dX11_init_8 ka0 (by decide) (by decide) (by decide) (hk1 hn hn0) (by decide) (by decide) ?_
  obtain ⟨h1, e2⟩ : ∃ z, z = h ++ [(.inl (0, 2400, .inl (fun _ => 0)))] := ⟨_, rfl⟩
  refine J_w e2.symm ?_
  refine J_cr (v := n0 + 0) hn0 ?_
  have f3 := a_push e2 hn0
  have l4 : h1.length = n0 + 1 := l_push e2 hn0 rfl
  have r5 := r_push (a := n0 + 0) e2 hn0
  have f6 := (r5 (o) (Nat.lt_of_lt_of_le hol (Nat.le_add_right _ _)) (Nat.ne_of_lt (Nat.lt_of_lt_of_le hol (Nat.le_add_right _ _)))).trans ho
  obtain ⟨h7, e8⟩ : ∃ z, z = h1.set (o) (.inr (11, [.int 0, .ref (n0 + 0), .null, .null, .null, .null, .null, .null, .int 0, .int 0, .int 0, .int 0, .int 0, .long 0, .int 0, .int 0, .int 0, .int 0, .int 0, .null, .null, .null, .int 0, .int 0, .int 0, .int 0, .int 0, .int 0, .null, .null, .null, .int 0, .int 0, .int 0, .null, .null, .null, .null, .null, .int 0, .long 0, .int 0, .null])) := ⟨_, rfl⟩
  refine J_putF (C := RX11) (T := TX11) (Z := 43) (ci := 11) (f := 1) (ty0 := tyX11) dX11_init_10 inG11 rfl tyX11_ok nmX11 (by decide) k1265 rfl rfl rfl rfl f6 (Nat.le_of_ble_eq_true rfl) (fun _ _ => ⟨rfl, rfl⟩) e8.symm ?_
  have f9 := a_set e8 f6
  have l10 : h7.length = n0 + 1 := l_set e8 l4
  have r11 := r_set (N := n0 + 1) e8
  refine J_aload_n (i := 0) (j := 0) dX11_init_13 rfl rfl ?_
  refine J_iconst (v := 4) dX11_init_14 (by decide) ?_
  refine J_newa1 (Z := 4) dX11_init_15 ka1 (by decide) (by decide) (by decide) (hk1 hn l10) (by decide) (by decide) ?_
  obtain ⟨h12, e13⟩ : ∃ z, z = h7 ++ [(.inl (1, 4, .inl (fun _ => 0)))] := ⟨_, rfl⟩
  refine J_w e13.symm ?_
  refine J_cr (v := n0 + 1) l10 ?_
  have f14 := a_push e13 l10
  have l15 : h12.length = n0 + 2 := l_push e13 l10 rfl
  have r16 := r_push (a := n0 + 1) e13 l10
  have f17 := (r16 (o) (Nat.lt_of_lt_of_le hol (Nat.le_add_right _ _)) (Nat.ne_of_lt (Nat.lt_of_lt_of_le hol (Nat.le_add_right _ _)))).trans f9
  obtain ⟨h18, e19⟩ : ∃ z, z = h12.set (o) (.inr (11, [.int 0, .ref (n0 + 0), .ref (n0 + 1), .null, .null, .null, .null, .null, .int 0, .int 0, .int 0, .int 0, .int 0, .long 0, .int 0, .int 0, .int 0, .int 0, .int 0, .null, .null, .null, .int 0, .int 0, .int 0, .int 0, .int 0, .int 0, .null, .null, .null, .int 0, .int 0, .int 0, .null, .null, .null, .null, .null, .int 0, .long 0, .int 0, .null])) := ⟨_, rfl⟩
  refine J_putF (C := RX11) (T := TX11) (Z := 43) (ci := 11) (f := 2) (ty0 := tyX11) dX11_init_17 inG11 rfl tyX11_ok nmX11 (by decide) k1266 rfl rfl rfl rfl f17 (Nat.le_of_ble_eq_true rfl) (fun _ _ => ⟨rfl, rfl⟩) e19.symm ?_
  have f20 := a_set e19 f17
  have l21 : h18.length = n0 + 2 := l_set e19 l15
  have r22 := r_set (N := n0 + 2) e19
  refine J_aload_n (i := 0) (j := 0) dX11_init_20 rfl rfl ?_
  refine J_iconst (v := 4) dX11_init_21 (by decide) ?_
  refine J_newa1 (Z := 4) dX11_init_22 ka1 (by decide) (by decide) (by decide) (hk1 hn l21) (by decide) (by decide) ?_
  obtain ⟨h23, e24⟩ : ∃ z, z = h18 ++ [(.inl (1, 4, .inl (fun _ => 0)))] := ⟨_, rfl⟩
  refine J_w e24.symm ?_
  refine J_cr (v := n0 + 2) l21 ?_
  have f25 := a_push e24 l21
  have l26 : h23.length = n0 + 3 := l_push e24 l21 rfl
  have r27 := r_push (a := n0 + 2) e24 l21
  have f28 := (r27 (o) (Nat.lt_of_lt_of_le hol (Nat.le_add_right _ _)) (Nat.ne_of_lt (Nat.lt_of_lt_of_le hol (Nat.le_add_right _ _)))).trans f20
  obtain ⟨h29, e30⟩ : ∃ z, z = h23.set (o) (.inr (11, [.int 0, .ref (n0 + 0), .ref (n0 + 1), .ref (n0 + 2), .null, .null, .null, .null, .int 0, .int 0, .int 0, .int 0, .int 0, .long 0, .int 0, .int 0, .int 0, .int 0, .int 0, .null, .null, .null, .int 0, .int 0, .int 0, .int 0, .int 0, .int 0, .null, .null, .null, .int 0, .int 0, .int 0, .null, .null, .null, .null, .null, .int 0, .long 0, .int 0, .null])) := ⟨_, rfl⟩
  refine J_putF (C := RX11) (T := TX11) (Z := 43) (ci := 11) (f := 3) (ty0 := tyX11) dX11_init_24 inG11 rfl tyX11_ok nmX11 (by decide) k1267 rfl rfl rfl rfl f28 (Nat.le_of_ble_eq_true rfl) (fun _ _ => ⟨rfl, rfl⟩) e30.symm ?_
  have f31 := a_set e30 f28
  have l32 : h29.length = n0 + 3 := l_set e30 l26
  have r33 := r_set (N := n0 + 3) e30
  refine J_aload_n (i := 0) (j := 0) dX11_init_27 rfl rfl ?_
  refine J_iconst (v := 4) dX11_init_28 (by decide) ?_
  refine J_newa1 (Z := 4) dX11_init_29 ka1 (by decide) (by decide) (by decide) (hk1 hn l32) (by decide) (by decide) ?_
  obtain ⟨h34, e35⟩ : ∃ z, z = h29 ++ [(.inl (1, 4, .inl (fun _ => 0)))] := ⟨_, rfl⟩
  refine J_w e35.symm ?_
  refine J_cr (v := n0 + 3) l32 ?_
  have f36 := a_push e35 l32
  have l37 : h34.length = n0 + 4 := l_push e35 l32 rfl
  have r38 := r_push (a := n0 + 3) e35 l32
  have f39 := (r38 (o) (Nat.lt_of_lt_of_le hol (Nat.le_add_right _ _)) (Nat.ne_of_lt (Nat.lt_of_lt_of_le hol (Nat.le_add_right _ _)))).trans f31
  obtain ⟨h40, e41⟩ : ∃ z, z = h34.set (o) (.inr (11, [.int 0, .ref (n0 + 0), .ref (n0 + 1), .ref (n0 + 2), .ref (n0 + 3), .null, .null, .null, .int 0, .int 0, .int 0, .int 0, .int 0, .long 0, .int 0, .int 0, .int 0, .int 0, .int 0, .null, .null, .null, .int 0, .int 0, .int 0, .int 0, .int 0, .int 0, .null, .null, .null, .int 0, .int 0, .int 0, .null, .null, .null, .null, .null, .int 0, .long 0, .int 0, .null])) := ⟨_, rfl⟩
  refine J_putF (C := RX11) (T := TX11) (Z := 43) (ci := 11) (f := 4) (ty0 := tyX11) dX11_init_31 inG11 rfl tyX11_ok nmX11 (by decide) k1268 rfl rfl rfl rfl f39 (Nat.le_of_ble_eq_true rfl) (fun _ _ => ⟨rfl, rfl⟩) e41.symm ?_
  have f42 := a_set e41 f39
  have l43 : h40.length = n0 + 4 := l_set e41 l37
  have r44 := r_set (N := n0 + 4) e41
  refine J_aload_n (i := 0) (j := 0) dX11_init_34 rfl rfl ?_
  refine J_bipush (v := 8) dX11_init_35 (by decide) ?_
  refine J_newa1 (Z := 8) dX11_init_37 ka1 (by decide) (by decide) (by decide) (hk1 hn l43) (by decide) (by decide) ?_
  obtain ⟨h45, e46⟩ : ∃ z, z = h40 ++ [(.inl (1, 8, .inl (fun _ => 0)))] := ⟨_, rfl⟩
  refine J_w e46.symm ?_
  refine J_cr (v := n0 + 4) l43 ?_
  have f47 := a_push e46 l43
  have l48 : h45.length = n0 + 5 := l_push e46 l43 rfl
  have r49 := r_push (a := n0 + 4) e46 l43
  have f50 := (r49 (o) (Nat.lt_of_lt_of_le hol (Nat.le_add_right _ _)) (Nat.ne_of_lt (Nat.lt_of_lt_of_le hol (Nat.le_add_right _ _)))).trans f42
  obtain ⟨h51, e52⟩ : ∃ z, z = h45.set (o) (.inr (11, [.int 0, .ref (n0 + 0), .ref (n0 + 1), .ref (n0 + 2), .ref (n0 + 3), .ref (n0 + 4), .null, .null, .int 0, .int 0, .int 0, .int 0, .int 0, .long 0, .int 0, .int 0, .int 0, .int 0, .int 0, .null, .null, .null, .int 0, .int 0, .int 0, .int 0, .int 0, .int 0, .null, .null, .null, .int 0, .int 0, .int 0, .null, .null, .null, .null, .null, .int 0, .long 0, .int 0, .null])) := ⟨_, rfl⟩
  refine J_putF (C := RX11) (T := TX11) (Z := 43) (ci := 11) (f := 5) (ty0 := tyX11) dX11_init_39 inG11 rfl tyX11_ok nmX11 (by decide) k1269 rfl rfl rfl rfl f50 (Nat.le_of_ble_eq_true rfl) (fun _ _ => ⟨rfl, rfl⟩) e52.symm ?_
  have f53 := a_set e52 f50
  have l54 : h51.length = n0 + 5 := l_set e52 l48
  have r55 := r_set (N := n0 + 5) e52
  refine J_aload_n (i := 0) (j := 0) dX11_init_42 rfl rfl ?_
  refine J_sipush (v := 1256) dX11_init_43 (by decide) ?_
  refine J_newa1 (Z := 1256) dX11_init_46 ka1 (by decide) (by decide) (by decide) (hk1 hn l54) (by decide) (by decide) ?_
  obtain ⟨h56, e57⟩ : ∃ z, z = h51 ++ [(.inl (1, 1256, .inl (fun _ => 0)))] := ⟨_, rfl⟩
  refine J_w e57.symm ?_
  refine J_cr (v := n0 + 5) l54 ?_
  have f58 := a_push e57 l54
  have l59 : h56.length = n0 + 6 := l_push e57 l54 rfl
  have r60 := r_push (a := n0 + 5) e57 l54
  have f61 := (r60 (o) (Nat.lt_of_lt_of_le hol (Nat.le_add_right _ _)) (Nat.ne_of_lt (Nat.lt_of_lt_of_le hol (Nat.le_add_right _ _)))).trans f53
  obtain ⟨h62, e63⟩ : ∃ z, z = h56.set (o) (.inr (11, [.int 0, .ref (n0 + 0), .ref (n0 + 1), .ref (n0 + 2), .ref (n0 + 3), .ref (n0 + 4), .ref (n0 + 5), .null, .int 0, .int 0, .int 0, .int 0, .int 0, .long 0, .int 0, .int 0, .int 0, .int 0, .int 0, .null, .null, .null, .int 0, .int 0, .int 0, .int 0, .int 0, .int 0, .null, .null, .null, .int 0, .int 0, .int 0, .null, .null, .null, .null, .null, .int 0, .long 0, .int 0, .null])) := ⟨_, rfl⟩
  refine J_putF (C := RX11) (T := TX11) (Z := 43) (ci := 11) (f := 6) (ty0 := tyX11) dX11_init_48 inG11 rfl tyX11_ok nmX11 (by decide) k1270 rfl rfl rfl rfl f61 (Nat.le_of_ble_eq_true rfl) (fun _ _ => ⟨rfl, rfl⟩) e63.symm ?_
  have f64 := a_set e63 f61
  have l65 : h62.length = n0 + 6 := l_set e63 l59
  have r66 := r_set (N := n0 + 6) e63
  refine J_aload_n (i := 0) (j := 0) dX11_init_51 rfl rfl ?_
  refine J_sipush (v := 444) dX11_init_52 (by decide) ?_
  refine J_newa1 (Z := 444) dX11_init_55 ka1 (by decide) (by decide) (by decide) (hk1 hn l65) (by decide) (by decide) ?_
  obtain ⟨h67, e68⟩ : ∃ z, z = h62 ++ [(.inl (1, 444, .inl (fun _ => 0)))] := ⟨_, rfl⟩
  refine J_w e68.symm ?_
  refine J_cr (v := n0 + 6) l65 ?_
  have f69 := a_push e68 l65
  have l70 : h67.length = n0 + 7 := l_push e68 l65 rfl
  have r71 := r_push (a := n0 + 6) e68 l65
  have f72 := (r71 (o) (Nat.lt_of_lt_of_le hol (Nat.le_add_right _ _)) (Nat.ne_of_lt (Nat.lt_of_lt_of_le hol (Nat.le_add_right _ _)))).trans f64
  obtain ⟨h73, e74⟩ : ∃ z, z = h67.set (o) (.inr (11, [.int 0, .ref (n0 + 0), .ref (n0 + 1), .ref (n0 + 2), .ref (n0 + 3), .ref (n0 + 4), .ref (n0 + 5), .ref (n0 + 6), .int 0, .int 0, .int 0, .int 0, .int 0, .long 0, .int 0, .int 0, .int 0, .int 0, .int 0, .null, .null, .null, .int 0, .int 0, .int 0, .int 0, .int 0, .int 0, .null, .null, .null, .int 0, .int 0, .int 0, .null, .null, .null, .null, .null, .int 0, .long 0, .int 0, .null])) := ⟨_, rfl⟩
  refine J_putF (C := RX11) (T := TX11) (Z := 43) (ci := 11) (f := 7) (ty0 := tyX11) dX11_init_57 inG11 rfl tyX11_ok nmX11 (by decide) k1271 rfl rfl rfl rfl f72 (Nat.le_of_ble_eq_true rfl) (fun _ _ => ⟨rfl, rfl⟩) e74.symm ?_
  have f75 := a_set e74 f72
  have l76 : h73.length = n0 + 7 := l_set e74 l70
  have r77 := r_set (N := n0 + 7) e74
  refine J_aload_n (i := 0) (j := 0) dX11_init_60 rfl rfl ?_
  refine J_sipush (v := 157) dX11_init_61 (by decide) ?_
  refine J_newa1 (Z := 157) dX11_init_64 ka1 (by decide) (by decide) (by decide) (hk1 hn l76) (by decide) (by decide) ?_
  obtain ⟨h78, e79⟩ : ∃ z, z = h73 ++ [(.inl (1, 157, .inl (fun _ => 0)))] := ⟨_, rfl⟩
  refine J_w e79.symm ?_
  refine J_cr (v := n0 + 7) l76 ?_
  have f80 := a_push e79 l76
  have l81 : h78.length = n0 + 8 := l_push e79 l76 rfl
  have r82 := r_push (a := n0 + 7) e79 l76
  have f83 := (r82 (o) (Nat.lt_of_lt_of_le hol (Nat.le_add_right _ _)) (Nat.ne_of_lt (Nat.lt_of_lt_of_le hol (Nat.le_add_right _ _)))).trans f75
  obtain ⟨h84, e85⟩ : ∃ z, z = h78.set (o) (.inr (11, [.int 0, .ref (n0 + 0), .ref (n0 + 1), .ref (n0 + 2), .ref (n0 + 3), .ref (n0 + 4), .ref (n0 + 5), .ref (n0 + 6), .int 0, .int 0, .int 0, .int 0, .int 0, .long 0, .int 0, .int 0, .int 0, .int 0, .int 0, .ref (n0 + 7), .null, .null, .int 0, .int 0, .int 0, .int 0, .int 0, .int 0, .null, .null, .null, .int 0, .int 0, .int 0, .null, .null, .null, .null, .null, .int 0, .long 0, .int 0, .null])) := ⟨_, rfl⟩
  refine J_putF (C := RX11) (T := TX11) (Z := 43) (ci := 11) (f := 19) (ty0 := tyX11) dX11_init_66 inG11 rfl tyX11_ok nmX11 (by decide) k1283 rfl rfl rfl rfl f83 (Nat.le_of_ble_eq_true rfl) (fun _ _ => ⟨rfl, rfl⟩) e85.symm ?_
  have f86 := a_set e85 f83
  have l87 : h84.length = n0 + 8 := l_set e85 l81
  have r88 := r_set (N := n0 + 8) e85
  refine J_aload_n (i := 0) (j := 0) dX11_init_69 rfl rfl ?_
  refine J_iconst (v := 3) dX11_init_70 (by decide) ?_
  refine J_newa1 (Z := 3) dX11_init_71 ka1 (by decide) (by decide) (by decide) (hk1 hn l87) (by decide) (by decide) ?_
  obtain ⟨h89, e90⟩ : ∃ z, z = h84 ++ [(.inl (1, 3, .inl (fun _ => 0)))] := ⟨_, rfl⟩
  refine J_w e90.symm ?_
  refine J_cr (v := n0 + 8) l87 ?_
  have f91 := a_push e90 l87
  have l92 : h89.length = n0 + 9 := l_push e90 l87 rfl
  have r93 := r_push (a := n0 + 8) e90 l87
  have f94 := (r93 (o) (Nat.lt_of_lt_of_le hol (Nat.le_add_right _ _)) (Nat.ne_of_lt (Nat.lt_of_lt_of_le hol (Nat.le_add_right _ _)))).trans f86
  obtain ⟨h95, e96⟩ : ∃ z, z = h89.set (o) (.inr (11, [.int 0, .ref (n0 + 0), .ref (n0 + 1), .ref (n0 + 2), .ref (n0 + 3), .ref (n0 + 4), .ref (n0 + 5), .ref (n0 + 6), .int 0, .int 0, .int 0, .int 0, .int 0, .long 0, .int 0, .int 0, .int 0, .int 0, .int 0, .ref (n0 + 7), .ref (n0 + 8), .null, .int 0, .int 0, .int 0, .int 0, .int 0, .int 0, .null, .null, .null, .int 0, .int 0, .int 0, .null, .null, .null, .null, .null, .int 0, .long 0, .int 0, .null])) := ⟨_, rfl⟩
  refine J_putF (C := RX11) (T := TX11) (Z := 43) (ci := 11) (f := 20) (ty0 := tyX11) dX11_init_73 inG11 rfl tyX11_ok nmX11 (by decide) k1284 rfl rfl rfl rfl f94 (Nat.le_of_ble_eq_true rfl) (fun _ _ => ⟨rfl, rfl⟩) e96.symm ?_
  have f97 := a_set e96 f94
  have l98 : h95.length = n0 + 9 := l_set e96 l92
  have r99 := r_set (N := n0 + 9) e96
  refine J_aload_n (i := 0) (j := 0) dX11_init_76 rfl rfl ?_
  refine J_sipush (v := 157) dX11_init_77 (by decide) ?_
  refine J_newa1 (Z := 157) dX11_init_80 ka1 (by decide) (by decide) (by decide) (hk1 hn l98) (by decide) (by decide) ?_
  obtain ⟨h100, e101⟩ : ∃ z, z = h95 ++ [(.inl (1, 157, .inl (fun _ => 0)))] := ⟨_, rfl⟩
  refine J_w e101.symm ?_
  refine J_cr (v := n0 + 9) l98 ?_
  have f102 := a_push e101 l98
  have l103 : h100.length = n0 + 10 := l_push e101 l98 rfl
  have r104 := r_push (a := n0 + 9) e101 l98
  have f105 := (r104 (o) (Nat.lt_of_lt_of_le hol (Nat.le_add_right _ _)) (Nat.ne_of_lt (Nat.lt_of_lt_of_le hol (Nat.le_add_right _ _)))).trans f97
  obtain ⟨h106, e107⟩ : ∃ z, z = h100.set (o) (.inr (11, [.int 0, .ref (n0 + 0), .ref (n0 + 1), .ref (n0 + 2), .ref (n0 + 3), .ref (n0 + 4), .ref (n0 + 5), .ref (n0 + 6), .int 0, .int 0, .int 0, .int 0, .int 0, .long 0, .int 0, .int 0, .int 0, .int 0, .int 0, .ref (n0 + 7), .ref (n0 + 8), .ref (n0 + 9), .int 0, .int 0, .int 0, .int 0, .int 0, .int 0, .null, .null, .null, .int 0, .int 0, .int 0, .null, .null, .null, .null, .null, .int 0, .long 0, .int 0, .null])) := ⟨_, rfl⟩
  refine J_putF (C := RX11) (T := TX11) (Z := 43) (ci := 11) (f := 21) (ty0 := tyX11) dX11_init_82 inG11 rfl tyX11_ok nmX11 (by decide) k1285 rfl rfl rfl rfl f105 (Nat.le_of_ble_eq_true rfl) (fun _ _ => ⟨rfl, rfl⟩) e107.symm ?_
  have f108 := a_set e107 f105
  have l109 : h106.length = n0 + 10 := l_set e107 l103
  have r110 := r_set (N := n0 + 10) e107
  refine J_aload_n (i := 0) (j := 0) dX11_init_85 rfl rfl ?_
  refine J_bipush (v := 9) dX11_init_86 (by decide) ?_
  refine J_newa1 (Z := 9) dX11_init_88 ka1 (by decide) (by decide) (by decide) (hk1 hn l109) (by decide) (by decide) ?_
  obtain ⟨h111, e112⟩ : ∃ z, z = h106 ++ [(.inl (1, 9, .inl (fun _ => 0)))] := ⟨_, rfl⟩
  refine J_w e112.symm ?_
  refine J_cr (v := n0 + 10) l109 ?_
  have f113 := a_push e112 l109
  have l114 : h111.length = n0 + 11 := l_push e112 l109 rfl
  have r115 := r_push (a := n0 + 10) e112 l109
  have f116 := (r115 (o) (Nat.lt_of_lt_of_le hol (Nat.le_add_right _ _)) (Nat.ne_of_lt (Nat.lt_of_lt_of_le hol (Nat.le_add_right _ _)))).trans f108
  obtain ⟨h117, e118⟩ : ∃ z, z = h111.set (o) (.inr (11, [.int 0, .ref (n0 + 0), .ref (n0 + 1), .ref (n0 + 2), .ref (n0 + 3), .ref (n0 + 4), .ref (n0 + 5), .ref (n0 + 6), .int 0, .int 0, .int 0, .int 0, .int 0, .long 0, .int 0, .int 0, .int 0, .int 0, .int 0, .ref (n0 + 7), .ref (n0 + 8), .ref (n0 + 9), .int 0, .int 0, .int 0, .int 0, .int 0, .int 0, .ref (n0 + 10), .null, .null, .int 0, .int 0, .int 0, .null, .null, .null, .null, .null, .int 0, .long 0, .int 0, .null])) := ⟨_, rfl⟩
  refine J_putF (C := RX11) (T := TX11) (Z := 43) (ci := 11) (f := 28) (ty0 := tyX11) dX11_init_90 inG11 rfl tyX11_ok nmX11 (by decide) k1292 rfl rfl rfl rfl f116 (Nat.le_of_ble_eq_true rfl) (fun _ _ => ⟨rfl, rfl⟩) e118.symm ?_
  have f119 := a_set e118 f116
  have l120 : h117.length = n0 + 11 := l_set e118 l114
  have r121 := r_set (N := n0 + 11) e118
  refine J_aload_n (i := 0) (j := 0) dX11_init_93 rfl rfl ?_
  refine J_bipush (v := 9) dX11_init_94 (by decide) ?_
  refine J_newa1 (Z := 9) dX11_init_96 ka1 (by decide) (by decide) (by decide) (hk1 hn l120) (by decide) (by decide) ?_
  obtain ⟨h122, e123⟩ : ∃ z, z = h117 ++ [(.inl (1, 9, .inl (fun _ => 0)))] := ⟨_, rfl⟩
  refine J_w e123.symm ?_
  refine J_cr (v := n0 + 11) l120 ?_
  have f124 := a_push e123 l120
  have l125 : h122.length = n0 + 12 := l_push e123 l120 rfl
  have r126 := r_push (a := n0 + 11) e123 l120
  have f127 := (r126 (o) (Nat.lt_of_lt_of_le hol (Nat.le_add_right _ _)) (Nat.ne_of_lt (Nat.lt_of_lt_of_le hol (Nat.le_add_right _ _)))).trans f119
  obtain ⟨h128, e129⟩ : ∃ z, z = h122.set (o) (.inr (11, [.int 0, .ref (n0 + 0), .ref (n0 + 1), .ref (n0 + 2), .ref (n0 + 3), .ref (n0 + 4), .ref (n0 + 5), .ref (n0 + 6), .int 0, .int 0, .int 0, .int 0, .int 0, .long 0, .int 0, .int 0, .int 0, .int 0, .int 0, .ref (n0 + 7), .ref (n0 + 8), .ref (n0 + 9), .int 0, .int 0, .int 0, .int 0, .int 0, .int 0, .ref (n0 + 10), .ref (n0 + 11), .null, .int 0, .int 0, .int 0, .null, .null, .null, .null, .null, .int 0, .long 0, .int 0, .null])) := ⟨_, rfl⟩
  refine J_putF (C := RX11) (T := TX11) (Z := 43) (ci := 11) (f := 29) (ty0 := tyX11) dX11_init_98 inG11 rfl tyX11_ok nmX11 (by decide) k1293 rfl rfl rfl rfl f127 (Nat.le_of_ble_eq_true rfl) (fun _ _ => ⟨rfl, rfl⟩) e129.symm ?_
  have f130 := a_set e129 f127
  have l131 : h128.length = n0 + 12 := l_set e129 l125
  have r132 := r_set (N := n0 + 12) e129
  refine J_aload_n (i := 0) (j := 0) dX11_init_101 rfl rfl ?_
  refine J_bipush (v := 9) dX11_init_102 (by decide) ?_
  refine J_newa1 (Z := 9) dX11_init_104 ka1 (by decide) (by decide) (by decide) (hk1 hn l131) (by decide) (by decide) ?_
  obtain ⟨h133, e134⟩ : ∃ z, z = h128 ++ [(.inl (1, 9, .inl (fun _ => 0)))] := ⟨_, rfl⟩
  refine J_w e134.symm ?_
  refine J_cr (v := n0 + 12) l131 ?_
  have f135 := a_push e134 l131
  have l136 : h133.length = n0 + 13 := l_push e134 l131 rfl
  have r137 := r_push (a := n0 + 12) e134 l131
  have f138 := (r137 (o) (Nat.lt_of_lt_of_le hol (Nat.le_add_right _ _)) (Nat.ne_of_lt (Nat.lt_of_lt_of_le hol (Nat.le_add_right _ _)))).trans f130
  obtain ⟨h139, e140⟩ : ∃ z, z = h133.set (o) (.inr (11, [.int 0, .ref (n0 + 0), .ref (n0 + 1), .ref (n0 + 2), .ref (n0 + 3), .ref (n0 + 4), .ref (n0 + 5), .ref (n0 + 6), .int 0, .int 0, .int 0, .int 0, .int 0, .long 0, .int 0, .int 0, .int 0, .int 0, .int 0, .ref (n0 + 7), .ref (n0 + 8), .ref (n0 + 9), .int 0, .int 0, .int 0, .int 0, .int 0, .int 0, .ref (n0 + 10), .ref (n0 + 11), .ref (n0 + 12), .int 0, .int 0, .int 0, .null, .null, .null, .null, .null, .int 0, .long 0, .int 0, .null])) := ⟨_, rfl⟩
  refine J_putF (C := RX11) (T := TX11) (Z := 43) (ci := 11) (f := 30) (ty0 := tyX11) dX11_init_106 inG11 rfl tyX11_ok nmX11 (by decide) k1294 rfl rfl rfl rfl f138 (Nat.le_of_ble_eq_true rfl) (fun _ _ => ⟨rfl, rfl⟩) e140.symm ?_
  have f141 := a_set e140 f138
  have l142 : h139.length = n0 + 13 := l_set e140 l136
  have r143 := r_set (N := n0 + 13) e140
  refine J_aload_n (i := 0) (j := 0) dX11_init_109 rfl rfl ?_
  refine J_sipush (v := 512) dX11_init_110 (by decide) ?_
  refine J_newa2 (Z := 512) dX11_init_113 ka2 (by decide) (by decide) (by decide) (hk1 hn l142) (by decide) (by decide) ?_
  obtain ⟨h144, e145⟩ : ∃ z, z = h139 ++ [(.inl (2, 512, .inr (.inl (fun _ => 0))))] := ⟨_, rfl⟩
  refine J_w e145.symm ?_
  refine J_cr (v := n0 + 13) l142 ?_
  have f146 := a_push e145 l142
  have l147 : h144.length = n0 + 14 := l_push e145 l142 rfl
  have r148 := r_push (a := n0 + 13) e145 l142
  have f149 := (r148 (o) (Nat.lt_of_lt_of_le hol (Nat.le_add_right _ _)) (Nat.ne_of_lt (Nat.lt_of_lt_of_le hol (Nat.le_add_right _ _)))).trans f141
  obtain ⟨h150, e151⟩ : ∃ z, z = h144.set (o) (.inr (11, [.int 0, .ref (n0 + 0), .ref (n0 + 1), .ref (n0 + 2), .ref (n0 + 3), .ref (n0 + 4), .ref (n0 + 5), .ref (n0 + 6), .int 0, .int 0, .int 0, .int 0, .int 0, .long 0, .int 0, .int 0, .int 0, .int 0, .int 0, .ref (n0 + 7), .ref (n0 + 8), .ref (n0 + 9), .int 0, .int 0, .int 0, .int 0, .int 0, .int 0, .ref (n0 + 10), .ref (n0 + 11), .ref (n0 + 12), .int 0, .int 0, .int 0, .ref (n0 + 13), .null, .null, .null, .null, .int 0, .long 0, .int 0, .null])) := ⟨_, rfl⟩
  refine J_putF (C := RX11) (T := TX11) (Z := 43) (ci := 11) (f := 34) (ty0 := tyX11) dX11_init_115 inG11 rfl tyX11_ok nmX11 (by decide) k1298 rfl rfl rfl rfl f149 (Nat.le_of_ble_eq_true rfl) (fun _ _ => ⟨rfl, rfl⟩) e151.symm ?_
  have f152 := a_set e151 f149
  have l153 : h150.length = n0 + 14 := l_set e151 l147
  have r154 := r_set (N := n0 + 14) e151
  refine J_aload_n (i := 0) (j := 0) dX11_init_118 rfl rfl ?_
  refine J_bipush (v := 9) dX11_init_119 (by decide) ?_
  refine J_newa1 (Z := 9) dX11_init_121 ka1 (by decide) (by decide) (by decide) (hk1 hn l153) (by decide) (by decide) ?_
  obtain ⟨h155, e156⟩ : ∃ z, z = h150 ++ [(.inl (1, 9, .inl (fun _ => 0)))] := ⟨_, rfl⟩
  refine J_w e156.symm ?_
  refine J_cr (v := n0 + 14) l153 ?_
  have f157 := a_push e156 l153
  have l158 : h155.length = n0 + 15 := l_push e156 l153 rfl
  have r159 := r_push (a := n0 + 14) e156 l153
  have f160 := (r159 (o) (Nat.lt_of_lt_of_le hol (Nat.le_add_right _ _)) (Nat.ne_of_lt (Nat.lt_of_lt_of_le hol (Nat.le_add_right _ _)))).trans f152
  obtain ⟨h161, e162⟩ : ∃ z, z = h155.set (o) (.inr (11, [.int 0, .ref (n0 + 0), .ref (n0 + 1), .ref (n0 + 2), .ref (n0 + 3), .ref (n0 + 4), .ref (n0 + 5), .ref (n0 + 6), .int 0, .int 0, .int 0, .int 0, .int 0, .long 0, .int 0, .int 0, .int 0, .int 0, .int 0, .ref (n0 + 7), .ref (n0 + 8), .ref (n0 + 9), .int 0, .int 0, .int 0, .int 0, .int 0, .int 0, .ref (n0 + 10), .ref (n0 + 11), .ref (n0 + 12), .int 0, .int 0, .int 0, .ref (n0 + 13), .ref (n0 + 14), .null, .null, .null, .int 0, .long 0, .int 0, .null])) := ⟨_, rfl⟩
  refine J_putF (C := RX11) (T := TX11) (Z := 43) (ci := 11) (f := 35) (ty0 := tyX11) dX11_init_123 inG11 rfl tyX11_ok nmX11 (by decide) k1299 rfl rfl rfl rfl f160 (Nat.le_of_ble_eq_true rfl) (fun _ _ => ⟨rfl, rfl⟩) e162.symm ?_
  have f163 := a_set e162 f160
  have l164 : h161.length = n0 + 15 := l_set e162 l158
  have r165 := r_set (N := n0 + 15) e162
  refine J_aload_n (i := 0) (j := 0) dX11_init_126 rfl rfl ?_
  refine J_bipush (v := 9) dX11_init_127 (by decide) ?_
  refine J_newa1 (Z := 9) dX11_init_129 ka1 (by decide) (by decide) (by decide) (hk1 hn l164) (by decide) (by decide) ?_
  obtain ⟨h166, e167⟩ : ∃ z, z = h161 ++ [(.inl (1, 9, .inl (fun _ => 0)))] := ⟨_, rfl⟩
  refine J_w e167.symm ?_
  refine J_cr (v := n0 + 15) l164 ?_
  have f168 := a_push e167 l164
  have l169 : h166.length = n0 + 16 := l_push e167 l164 rfl
  have r170 := r_push (a := n0 + 15) e167 l164
  have f171 := (r170 (o) (Nat.lt_of_lt_of_le hol (Nat.le_add_right _ _)) (Nat.ne_of_lt (Nat.lt_of_lt_of_le hol (Nat.le_add_right _ _)))).trans f163
  obtain ⟨h172, e173⟩ : ∃ z, z = h166.set (o) (.inr (11, [.int 0, .ref (n0 + 0), .ref (n0 + 1), .ref (n0 + 2), .ref (n0 + 3), .ref (n0 + 4), .ref (n0 + 5), .ref (n0 + 6), .int 0, .int 0, .int 0, .int 0, .int 0, .long 0, .int 0, .int 0, .int 0, .int 0, .int 0, .ref (n0 + 7), .ref (n0 + 8), .ref (n0 + 9), .int 0, .int 0, .int 0, .int 0, .int 0, .int 0, .ref (n0 + 10), .ref (n0 + 11), .ref (n0 + 12), .int 0, .int 0, .int 0, .ref (n0 + 13), .ref (n0 + 14), .ref (n0 + 15), .null, .null, .int 0, .long 0, .int 0, .null])) := ⟨_, rfl⟩
  refine J_putF (C := RX11) (T := TX11) (Z := 43) (ci := 11) (f := 36) (ty0 := tyX11) dX11_init_131 inG11 rfl tyX11_ok nmX11 (by decide) k1300 rfl rfl rfl rfl f171 (Nat.le_of_ble_eq_true rfl) (fun _ _ => ⟨rfl, rfl⟩) e173.symm ?_
  have f174 := a_set e173 f171
  have l175 : h172.length = n0 + 16 := l_set e173 l169
  have r176 := r_set (N := n0 + 16) e173
  refine J_aload_n (i := 0) (j := 0) dX11_init_134 rfl rfl ?_
  refine J_iconst (v := 4) dX11_init_135 (by decide) ?_
  refine J_newa1 (Z := 4) dX11_init_136 ka1 (by decide) (by decide) (by decide) (hk1 hn l175) (by decide) (by decide) ?_
  obtain ⟨h177, e178⟩ : ∃ z, z = h172 ++ [(.inl (1, 4, .inl (fun _ => 0)))] := ⟨_, rfl⟩
  refine J_w e178.symm ?_
  refine J_cr (v := n0 + 16) l175 ?_
  have f179 := a_push e178 l175
  have l180 : h177.length = n0 + 17 := l_push e178 l175 rfl
  have r181 := r_push (a := n0 + 16) e178 l175
  have f182 := (r181 (o) (Nat.lt_of_lt_of_le hol (Nat.le_add_right _ _)) (Nat.ne_of_lt (Nat.lt_of_lt_of_le hol (Nat.le_add_right _ _)))).trans f174
  obtain ⟨h183, e184⟩ : ∃ z, z = h177.set (o) (.inr (11, [.int 0, .ref (n0 + 0), .ref (n0 + 1), .ref (n0 + 2), .ref (n0 + 3), .ref (n0 + 4), .ref (n0 + 5), .ref (n0 + 6), .int 0, .int 0, .int 0, .int 0, .int 0, .long 0, .int 0, .int 0, .int 0, .int 0, .int 0, .ref (n0 + 7), .ref (n0 + 8), .ref (n0 + 9), .int 0, .int 0, .int 0, .int 0, .int 0, .int 0, .ref (n0 + 10), .ref (n0 + 11), .ref (n0 + 12), .int 0, .int 0, .int 0, .ref (n0 + 13), .ref (n0 + 14), .ref (n0 + 15), .ref (n0 + 16), .null, .int 0, .long 0, .int 0, .null])) := ⟨_, rfl⟩
  refine J_putF (C := RX11) (T := TX11) (Z := 43) (ci := 11) (f := 37) (ty0 := tyX11) dX11_init_138 inG11 rfl tyX11_ok nmX11 (by decide) k1301 rfl rfl rfl rfl f182 (Nat.le_of_ble_eq_true rfl) (fun _ _ => ⟨rfl, rfl⟩) e184.symm ?_
  have f185 := a_set e184 f182
  have l186 : h183.length = n0 + 17 := l_set e184 l180
  have r187 := r_set (N := n0 + 17) e184
  refine J_aload_n (i := 0) (j := 0) dX11_init_141 rfl rfl ?_
  refine J_iconst (v := 4) dX11_init_142 (by decide) ?_
  refine J_newa1 (Z := 4) dX11_init_143 ka1 (by decide) (by decide) (by decide) (hk1 hn l186) (by decide) (by decide) ?_
  obtain ⟨h188, e189⟩ : ∃ z, z = h183 ++ [(.inl (1, 4, .inl (fun _ => 0)))] := ⟨_, rfl⟩
  refine J_w e189.symm ?_
  refine J_cr (v := n0 + 17) l186 ?_
  have f190 := a_push e189 l186
  have l191 : h188.length = n0 + 18 := l_push e189 l186 rfl
  have r192 := r_push (a := n0 + 17) e189 l186
  have f193 := (r192 (o) (Nat.lt_of_lt_of_le hol (Nat.le_add_right _ _)) (Nat.ne_of_lt (Nat.lt_of_lt_of_le hol (Nat.le_add_right _ _)))).trans f185
  obtain ⟨h194, e195⟩ : ∃ z, z = h188.set (o) (.inr (11, [.int 0, .ref (n0 + 0), .ref (n0 + 1), .ref (n0 + 2), .ref (n0 + 3), .ref (n0 + 4), .ref (n0 + 5), .ref (n0 + 6), .int 0, .int 0, .int 0, .int 0, .int 0, .long 0, .int 0, .int 0, .int 0, .int 0, .int 0, .ref (n0 + 7), .ref (n0 + 8), .ref (n0 + 9), .int 0, .int 0, .int 0, .int 0, .int 0, .int 0, .ref (n0 + 10), .ref (n0 + 11), .ref (n0 + 12), .int 0, .int 0, .int 0, .ref (n0 + 13), .ref (n0 + 14), .ref (n0 + 15), .ref (n0 + 16), .ref (n0 + 17), .int 0, .long 0, .int 0, .null])) := ⟨_, rfl⟩
  refine J_putF (C := RX11) (T := TX11) (Z := 43) (ci := 11) (f := 38) (ty0 := tyX11) dX11_init_145 inG11 rfl tyX11_ok nmX11 (by decide) k1302 rfl rfl rfl rfl f193 (Nat.le_of_ble_eq_true rfl) (fun _ _ => ⟨rfl, rfl⟩) e195.symm ?_
  have f196 := a_set e195 f193
  have l197 : h194.length = n0 + 18 := l_set e195 l191
  have r198 := r_set (N := n0 + 18) e195
  refine J_aload_n (i := 0) (j := 0) dX11_init_148 rfl rfl ?_
  refine J_iconst (v := 3) dX11_init_149 (by decide) ?_
  refine J_newa3 (Z := 3) dX11_init_150 ka3 (by decide) (by decide) (by decide) (hk1 hn l197) (by decide) (by decide) ?_
  obtain ⟨h199, e200⟩ : ∃ z, z = h194 ++ [(.inl (3, 3, .inl (fun _ => 0)))] := ⟨_, rfl⟩
  refine J_w e200.symm ?_
  refine J_cr (v := n0 + 18) l197 ?_
  have f201 := a_push e200 l197
  have l202 : h199.length = n0 + 19 := l_push e200 l197 rfl
  have r203 := r_push (a := n0 + 18) e200 l197
  have f204 := (r203 (o) (Nat.lt_of_lt_of_le hol (Nat.le_add_right _ _)) (Nat.ne_of_lt (Nat.lt_of_lt_of_le hol (Nat.le_add_right _ _)))).trans f196
  obtain ⟨h205, e206⟩ : ∃ z, z = h199.set (o) (.inr (11, [.int 0, .ref (n0 + 0), .ref (n0 + 1), .ref (n0 + 2), .ref (n0 + 3), .ref (n0 + 4), .ref (n0 + 5), .ref (n0 + 6), .int 0, .int 0, .int 0, .int 0, .int 0, .long 0, .int 0, .int 0, .int 0, .int 0, .int 0, .ref (n0 + 7), .ref (n0 + 8), .ref (n0 + 9), .int 0, .int 0, .int 0, .int 0, .int 0, .int 0, .ref (n0 + 10), .ref (n0 + 11), .ref (n0 + 12), .int 0, .int 0, .int 0, .ref (n0 + 13), .ref (n0 + 14), .ref (n0 + 15), .ref (n0 + 16), .ref (n0 + 17), .int 0, .long 0, .int 0, .ref (n0 + 18)])) := ⟨_, rfl⟩
  refine J_putF (C := RX11) (T := TX11) (Z := 43) (ci := 11) (f := 42) (ty0 := tyX11) dX11_init_152 inG11 rfl tyX11_ok nmX11 (by decide) k1306 rfl rfl rfl rfl f204 (Nat.le_of_ble_eq_true rfl) (fun _ _ => ⟨rfl, rfl⟩) e206.symm ?_
  have f207 := a_set e206 f204
  have l208 : h205.length = n0 + 19 := l_set e206 l202
  have r209 := r_set (N := n0 + 19) e206
  refine J_aload_n (i := 0) (j := 0) dX11_init_155 rfl rfl ?_
  refine J_get (C := RX11) (T := TX11) (Z := 43) (ci := 11) (f := 4) dX11_init_156 inG11 rfl (by decide) k1268 f207 rfl ?_
  refine J_iconst (v := 0) dX11_init_159 (by decide) ?_
  refine J_iconst (v := (-1)) dX11_init_160 (by decide) ?_
  have f210 := (r44 (n0 + 3) (Nat.add_lt_add_left (by decide) n0) (Nat.ne_of_gt (Nat.lt_of_lt_of_le hol (Nat.le_add_right _ _)))).trans f36
  have f211 := (r49 (n0 + 3) (Nat.add_lt_add_left (by decide) n0) (fun q => absurd (Nat.add_left_cancel q) (by decide))).trans f210
  have f212 := (r55 (n0 + 3) (Nat.add_lt_add_left (by decide) n0) (Nat.ne_of_gt (Nat.lt_of_lt_of_le hol (Nat.le_add_right _ _)))).trans f211
  have f213 := (r60 (n0 + 3) (Nat.add_lt_add_left (by decide) n0) (fun q => absurd (Nat.add_left_cancel q) (by decide))).trans f212
  have f214 := (r66 (n0 + 3) (Nat.add_lt_add_left (by decide) n0) (Nat.ne_of_gt (Nat.lt_of_lt_of_le hol (Nat.le_add_right _ _)))).trans f213
  have f215 := (r71 (n0 + 3) (Nat.add_lt_add_left (by decide) n0) (fun q => absurd (Nat.add_left_cancel q) (by decide))).trans f214
  have f216 := (r77 (n0 + 3) (Nat.add_lt_add_left (by decide) n0) (Nat.ne_of_gt (Nat.lt_of_lt_of_le hol (Nat.le_add_right _ _)))).trans f215
  have f217 := (r82 (n0 + 3) (Nat.add_lt_add_left (by decide) n0) (fun q => absurd (Nat.add_left_cancel q) (by decide))).trans f216
  have f218 := (r88 (n0 + 3) (Nat.add_lt_add_left (by decide) n0) (Nat.ne_of_gt (Nat.lt_of_lt_of_le hol (Nat.le_add_right _ _)))).trans f217
  have f219 := (r93 (n0 + 3) (Nat.add_lt_add_left (by decide) n0) (fun q => absurd (Nat.add_left_cancel q) (by decide))).trans f218
  have f220 := (r99 (n0 + 3) (Nat.add_lt_add_left (by decide) n0) (Nat.ne_of_gt (Nat.lt_of_lt_of_le hol (Nat.le_add_right _ _)))).trans f219
  have f221 := (r104 (n0 + 3) (Nat.add_lt_add_left (by decide) n0) (fun q => absurd (Nat.add_left_cancel q) (by decide))).trans f220
  have f222 := (r110 (n0 + 3) (Nat.add_lt_add_left (by decide) n0) (Nat.ne_of_gt (Nat.lt_of_lt_of_le hol (Nat.le_add_right _ _)))).trans f221
  have f223 := (r115 (n0 + 3) (Nat.add_lt_add_left (by decide) n0) (fun q => absurd (Nat.add_left_cancel q) (by decide))).trans f222
  have f224 := (r121 (n0 + 3) (Nat.add_lt_add_left (by decide) n0) (Nat.ne_of_gt (Nat.lt_of_lt_of_le hol (Nat.le_add_right _ _)))).trans f223
  have f225 := (r126 (n0 + 3) (Nat.add_lt_add_left (by decide) n0) (fun q => absurd (Nat.add_left_cancel q) (by decide))).trans f224
  have f226 := (r132 (n0 + 3) (Nat.add_lt_add_left (by decide) n0) (Nat.ne_of_gt (Nat.lt_of_lt_of_le hol (Nat.le_add_right _ _)))).trans f225
  have f227 := (r137 (n0 + 3) (Nat.add_lt_add_left (by decide) n0) (fun q => absurd (Nat.add_left_cancel q) (by decide))).trans f226
  have f228 := (r143 (n0 + 3) (Nat.add_lt_add_left (by decide) n0) (Nat.ne_of_gt (Nat.lt_of_lt_of_le hol (Nat.le_add_right _ _)))).trans f227
  have f229 := (r148 (n0 + 3) (Nat.add_lt_add_left (by decide) n0) (fun q => absurd (Nat.add_left_cancel q) (by decide))).trans f228
  have f230 := (r154 (n0 + 3) (Nat.add_lt_add_left (by decide) n0) (Nat.ne_of_gt (Nat.lt_of_lt_of_le hol (Nat.le_add_right _ _)))).trans f229
  have f231 := (r159 (n0 + 3) (Nat.add_lt_add_left (by decide) n0) (fun q => absurd (Nat.add_left_cancel q) (by decide))).trans f230
  have f232 := (r165 (n0 + 3) (Nat.add_lt_add_left (by decide) n0) (Nat.ne_of_gt (Nat.lt_of_lt_of_le hol (Nat.le_add_right _ _)))).trans f231
  have f233 := (r170 (n0 + 3) (Nat.add_lt_add_left (by decide) n0) (fun q => absurd (Nat.add_left_cancel q) (by decide))).trans f232
  have f234 := (r176 (n0 + 3) (Nat.add_lt_add_left (by decide) n0) (Nat.ne_of_gt (Nat.lt_of_lt_of_le hol (Nat.le_add_right _ _)))).trans f233
  have f235 := (r181 (n0 + 3) (Nat.add_lt_add_left (by decide) n0) (fun q => absurd (Nat.add_left_cancel q) (by decide))).trans f234
  have f236 := (r187 (n0 + 3) (Nat.add_lt_add_left (by decide) n0) (Nat.ne_of_gt (Nat.lt_of_lt_of_le hol (Nat.le_add_right _ _)))).trans f235
  have f237 := (r192 (n0 + 3) (Nat.add_lt_add_left (by decide) n0) (fun q => absurd (Nat.add_left_cancel q) (by decide))).trans f236
  have f238 := (r198 (n0 + 3) (Nat.add_lt_add_left (by decide) n0) (Nat.ne_of_gt (Nat.lt_of_lt_of_le hol (Nat.le_add_right _ _)))).trans f237
  have f239 := (r203 (n0 + 3) (Nat.add_lt_add_left (by decide) n0) (fun q => absurd (Nat.add_left_cancel q) (by decide))).trans f238
  have f240 := (r209 (n0 + 3) (Nat.add_lt_add_left (by decide) n0) (Nat.ne_of_gt (Nat.lt_of_lt_of_le hol (Nat.le_add_right _ _)))).trans f239
  obtain ⟨h241, e242⟩ : ∃ z, z = h205.set (n0 + 3) (.inl (1, 4, .inl (upd (fun _ => 0) ((0 : Int32).toNatClampNeg) (-1)))) := ⟨_, rfl⟩
  refine J_iast dX11_init_161 f240 (vp_c (by decide)) e242.symm ?_
  have f243 := a_set e242 f240
  have l244 : h241.length = n0 + 19 := l_set e242 l208
  have r245 := r_set (N := n0 + 19) e242
  have f246 := (r245 (o) (Nat.lt_of_lt_of_le hol (Nat.le_add_right _ _)) (Nat.ne_of_lt (Nat.lt_of_lt_of_le hol (Nat.le_add_right _ _)))).trans f207
  have f247 := (r11 (n0 + 0) (Nat.add_lt_add_left (by decide) n0) (Nat.ne_of_gt (Nat.lt_of_lt_of_le hol (Nat.le_add_right _ _)))).trans f3
  have f248 := (r16 (n0 + 0) (Nat.add_lt_add_left (by decide) n0) (fun q => absurd (Nat.add_left_cancel q) (by decide))).trans f247
  have f249 := (r22 (n0 + 0) (Nat.add_lt_add_left (by decide) n0) (Nat.ne_of_gt (Nat.lt_of_lt_of_le hol (Nat.le_add_right _ _)))).trans f248
  have f250 := (r27 (n0 + 0) (Nat.add_lt_add_left (by decide) n0) (fun q => absurd (Nat.add_left_cancel q) (by decide))).trans f249
  have f251 := (r33 (n0 + 0) (Nat.add_lt_add_left (by decide) n0) (Nat.ne_of_gt (Nat.lt_of_lt_of_le hol (Nat.le_add_right _ _)))).trans f250
  have f252 := (r38 (n0 + 0) (Nat.add_lt_add_left (by decide) n0) (fun q => absurd (Nat.add_left_cancel q) (by decide))).trans f251
  have f253 := (r44 (n0 + 0) (Nat.add_lt_add_left (by decide) n0) (Nat.ne_of_gt (Nat.lt_of_lt_of_le hol (Nat.le_add_right _ _)))).trans f252
  have f254 := (r49 (n0 + 0) (Nat.add_lt_add_left (by decide) n0) (fun q => absurd (Nat.add_left_cancel q) (by decide))).trans f253
  have f255 := (r55 (n0 + 0) (Nat.add_lt_add_left (by decide) n0) (Nat.ne_of_gt (Nat.lt_of_lt_of_le hol (Nat.le_add_right _ _)))).trans f254
  have f256 := (r60 (n0 + 0) (Nat.add_lt_add_left (by decide) n0) (fun q => absurd (Nat.add_left_cancel q) (by decide))).trans f255
  have f257 := (r66 (n0 + 0) (Nat.add_lt_add_left (by decide) n0) (Nat.ne_of_gt (Nat.lt_of_lt_of_le hol (Nat.le_add_right _ _)))).trans f256
  have f258 := (r71 (n0 + 0) (Nat.add_lt_add_left (by decide) n0) (fun q => absurd (Nat.add_left_cancel q) (by decide))).trans f257
  have f259 := (r77 (n0 + 0) (Nat.add_lt_add_left (by decide) n0) (Nat.ne_of_gt (Nat.lt_of_lt_of_le hol (Nat.le_add_right _ _)))).trans f258
  have f260 := (r82 (n0 + 0) (Nat.add_lt_add_left (by decide) n0) (fun q => absurd (Nat.add_left_cancel q) (by decide))).trans f259
  have f261 := (r88 (n0 + 0) (Nat.add_lt_add_left (by decide) n0) (Nat.ne_of_gt (Nat.lt_of_lt_of_le hol (Nat.le_add_right _ _)))).trans f260
  have f262 := (r93 (n0 + 0) (Nat.add_lt_add_left (by decide) n0) (fun q => absurd (Nat.add_left_cancel q) (by decide))).trans f261
  have f263 := (r99 (n0 + 0) (Nat.add_lt_add_left (by decide) n0) (Nat.ne_of_gt (Nat.lt_of_lt_of_le hol (Nat.le_add_right _ _)))).trans f262
  have f264 := (r104 (n0 + 0) (Nat.add_lt_add_left (by decide) n0) (fun q => absurd (Nat.add_left_cancel q) (by decide))).trans f263
  have f265 := (r110 (n0 + 0) (Nat.add_lt_add_left (by decide) n0) (Nat.ne_of_gt (Nat.lt_of_lt_of_le hol (Nat.le_add_right _ _)))).trans f264
  have f266 := (r115 (n0 + 0) (Nat.add_lt_add_left (by decide) n0) (fun q => absurd (Nat.add_left_cancel q) (by decide))).trans f265
  have f267 := (r121 (n0 + 0) (Nat.add_lt_add_left (by decide) n0) (Nat.ne_of_gt (Nat.lt_of_lt_of_le hol (Nat.le_add_right _ _)))).trans f266
  have f268 := (r126 (n0 + 0) (Nat.add_lt_add_left (by decide) n0) (fun q => absurd (Nat.add_left_cancel q) (by decide))).trans f267
  have f269 := (r132 (n0 + 0) (Nat.add_lt_add_left (by decide) n0) (Nat.ne_of_gt (Nat.lt_of_lt_of_le hol (Nat.le_add_right _ _)))).trans f268
  have f270 := (r137 (n0 + 0) (Nat.add_lt_add_left (by decide) n0) (fun q => absurd (Nat.add_left_cancel q) (by decide))).trans f269
  have f271 := (r143 (n0 + 0) (Nat.add_lt_add_left (by decide) n0) (Nat.ne_of_gt (Nat.lt_of_lt_of_le hol (Nat.le_add_right _ _)))).trans f270
  have f272 := (r148 (n0 + 0) (Nat.add_lt_add_left (by decide) n0) (fun q => absurd (Nat.add_left_cancel q) (by decide))).trans f271
  have f273 := (r154 (n0 + 0) (Nat.add_lt_add_left (by decide) n0) (Nat.ne_of_gt (Nat.lt_of_lt_of_le hol (Nat.le_add_right _ _)))).trans f272
  have f274 := (r159 (n0 + 0) (Nat.add_lt_add_left (by decide) n0) (fun q => absurd (Nat.add_left_cancel q) (by decide))).trans f273
  have f275 := (r165 (n0 + 0) (Nat.add_lt_add_left (by decide) n0) (Nat.ne_of_gt (Nat.lt_of_lt_of_le hol (Nat.le_add_right _ _)))).trans f274
  have f276 := (r170 (n0 + 0) (Nat.add_lt_add_left (by decide) n0) (fun q => absurd (Nat.add_left_cancel q) (by decide))).trans f275
  have f277 := (r176 (n0 + 0) (Nat.add_lt_add_left (by decide) n0) (Nat.ne_of_gt (Nat.lt_of_lt_of_le hol (Nat.le_add_right _ _)))).trans f276
  have f278 := (r181 (n0 + 0) (Nat.add_lt_add_left (by decide) n0) (fun q => absurd (Nat.add_left_cancel q) (by decide))).trans f277
  have f279 := (r187 (n0 + 0) (Nat.add_lt_add_left (by decide) n0) (Nat.ne_of_gt (Nat.lt_of_lt_of_le hol (Nat.le_add_right _ _)))).trans f278
  have f280 := (r192 (n0 + 0) (Nat.add_lt_add_left (by decide) n0) (fun q => absurd (Nat.add_left_cancel q) (by decide))).trans f279
  have f281 := (r198 (n0 + 0) (Nat.add_lt_add_left (by decide) n0) (Nat.ne_of_gt (Nat.lt_of_lt_of_le hol (Nat.le_add_right _ _)))).trans f280
  have f282 := (r203 (n0 + 0) (Nat.add_lt_add_left (by decide) n0) (fun q => absurd (Nat.add_left_cancel q) (by decide))).trans f281
  have f283 := (r209 (n0 + 0) (Nat.add_lt_add_left (by decide) n0) (Nat.ne_of_gt (Nat.lt_of_lt_of_le hol (Nat.le_add_right _ _)))).trans f282
  have f284 := (r245 (n0 + 0) (Nat.add_lt_add_left (by decide) n0) (fun q => absurd (Nat.add_left_cancel q) (by decide))).trans f283
  have f285 := (r22 (n0 + 1) (Nat.add_lt_add_left (by decide) n0) (Nat.ne_of_gt (Nat.lt_of_lt_of_le hol (Nat.le_add_right _ _)))).trans f14
  have f286 := (r27 (n0 + 1) (Nat.add_lt_add_left (by decide) n0) (fun q => absurd (Nat.add_left_cancel q) (by decide))).trans f285
  have f287 := (r33 (n0 + 1) (Nat.add_lt_add_left (by decide) n0) (Nat.ne_of_gt (Nat.lt_of_lt_of_le hol (Nat.le_add_right _ _)))).trans f286
  have f288 := (r38 (n0 + 1) (Nat.add_lt_add_left (by decide) n0) (fun q => absurd (Nat.add_left_cancel q) (by decide))).trans f287
  have f289 := (r44 (n0 + 1) (Nat.add_lt_add_left (by decide) n0) (Nat.ne_of_gt (Nat.lt_of_lt_of_le hol (Nat.le_add_right _ _)))).trans f288
  have f290 := (r49 (n0 + 1) (Nat.add_lt_add_left (by decide) n0) (fun q => absurd (Nat.add_left_cancel q) (by decide))).trans f289
  have f291 := (r55 (n0 + 1) (Nat.add_lt_add_left (by decide) n0) (Nat.ne_of_gt (Nat.lt_of_lt_of_le hol (Nat.le_add_right _ _)))).trans f290
  have f292 := (r60 (n0 + 1) (Nat.add_lt_add_left (by decide) n0) (fun q => absurd (Nat.add_left_cancel q) (by decide))).trans f291
  have f293 := (r66 (n0 + 1) (Nat.add_lt_add_left (by decide) n0) (Nat.ne_of_gt (Nat.lt_of_lt_of_le hol (Nat.le_add_right _ _)))).trans f292
  have f294 := (r71 (n0 + 1) (Nat.add_lt_add_left (by decide) n0) (fun q => absurd (Nat.add_left_cancel q) (by decide))).trans f293
  have f295 := (r77 (n0 + 1) (Nat.add_lt_add_left (by decide) n0) (Nat.ne_of_gt (Nat.lt_of_lt_of_le hol (Nat.le_add_right _ _)))).trans f294
  have f296 := (r82 (n0 + 1) (Nat.add_lt_add_left (by decide) n0) (fun q => absurd (Nat.add_left_cancel q) (by decide))).trans f295
  have f297 := (r88 (n0 + 1) (Nat.add_lt_add_left (by decide) n0) (Nat.ne_of_gt (Nat.lt_of_lt_of_le hol (Nat.le_add_right _ _)))).trans f296
  have f298 := (r93 (n0 + 1) (Nat.add_lt_add_left (by decide) n0) (fun q => absurd (Nat.add_left_cancel q) (by decide))).trans f297
  have f299 := (r99 (n0 + 1) (Nat.add_lt_add_left (by decide) n0) (Nat.ne_of_gt (Nat.lt_of_lt_of_le hol (Nat.le_add_right _ _)))).trans f298
  have f300 := (r104 (n0 + 1) (Nat.add_lt_add_left (by decide) n0) (fun q => absurd (Nat.add_left_cancel q) (by decide))).trans f299
  have f301 := (r110 (n0 + 1) (Nat.add_lt_add_left (by decide) n0) (Nat.ne_of_gt (Nat.lt_of_lt_of_le hol (Nat.le_add_right _ _)))).trans f300
  have f302 := (r115 (n0 + 1) (Nat.add_lt_add_left (by decide) n0) (fun q => absurd (Nat.add_left_cancel q) (by decide))).trans f301
  have f303 := (r121 (n0 + 1) (Nat.add_lt_add_left (by decide) n0) (Nat.ne_of_gt (Nat.lt_of_lt_of_le hol (Nat.le_add_right _ _)))).trans f302
  have f304 := (r126 (n0 + 1) (Nat.add_lt_add_left (by decide) n0) (fun q => absurd (Nat.add_left_cancel q) (by decide))).trans f303
  have f305 := (r132 (n0 + 1) (Nat.add_lt_add_left (by decide) n0) (Nat.ne_of_gt (Nat.lt_of_lt_of_le hol (Nat.le_add_right _ _)))).trans f304
  have f306 := (r137 (n0 + 1) (Nat.add_lt_add_left (by decide) n0) (fun q => absurd (Nat.add_left_cancel q) (by decide))).trans f305
  have f307 := (r143 (n0 + 1) (Nat.add_lt_add_left (by decide) n0) (Nat.ne_of_gt (Nat.lt_of_lt_of_le hol (Nat.le_add_right _ _)))).trans f306
  have f308 := (r148 (n0 + 1) (Nat.add_lt_add_left (by decide) n0) (fun q => absurd (Nat.add_left_cancel q) (by decide))).trans f307
  have f309 := (r154 (n0 + 1) (Nat.add_lt_add_left (by decide) n0) (Nat.ne_of_gt (Nat.lt_of_lt_of_le hol (Nat.le_add_right _ _)))).trans f308
  have f310 := (r159 (n0 + 1) (Nat.add_lt_add_left (by decide) n0) (fun q => absurd (Nat.add_left_cancel q) (by decide))).trans f309
  have f311 := (r165 (n0 + 1) (Nat.add_lt_add_left (by decide) n0) (Nat.ne_of_gt (Nat.lt_of_lt_of_le hol (Nat.le_add_right _ _)))).trans f310
  have f312 := (r170 (n0 + 1) (Nat.add_lt_add_left (by decide) n0) (fun q => absurd (Nat.add_left_cancel q) (by decide))).trans f311
  have f313 := (r176 (n0 + 1) (Nat.add_lt_add_left (by decide) n0) (Nat.ne_of_gt (Nat.lt_of_lt_of_le hol (Nat.le_add_right _ _)))).trans f312
  have f314 := (r181 (n0 + 1) (Nat.add_lt_add_left (by decide) n0) (fun q => absurd (Nat.add_left_cancel q) (by decide))).trans f313
  have f315 := (r187 (n0 + 1) (Nat.add_lt_add_left (by decide) n0) (Nat.ne_of_gt (Nat.lt_of_lt_of_le hol (Nat.le_add_right _ _)))).trans f314
  have f316 := (r192 (n0 + 1) (Nat.add_lt_add_left (by decide) n0) (fun q => absurd (Nat.add_left_cancel q) (by decide))).trans f315
  have f317 := (r198 (n0 + 1) (Nat.add_lt_add_left (by decide) n0) (Nat.ne_of_gt (Nat.lt_of_lt_of_le hol (Nat.le_add_right _ _)))).trans f316
  have f318 := (r203 (n0 + 1) (Nat.add_lt_add_left (by decide) n0) (fun q => absurd (Nat.add_left_cancel q) (by decide))).trans f317
  have f319 := (r209 (n0 + 1) (Nat.add_lt_add_left (by decide) n0) (Nat.ne_of_gt (Nat.lt_of_lt_of_le hol (Nat.le_add_right _ _)))).trans f318
  have f320 := (r245 (n0 + 1) (Nat.add_lt_add_left (by decide) n0) (fun q => absurd (Nat.add_left_cancel q) (by decide))).trans f319
  have f321 := (r33 (n0 + 2) (Nat.add_lt_add_left (by decide) n0) (Nat.ne_of_gt (Nat.lt_of_lt_of_le hol (Nat.le_add_right _ _)))).trans f25
  have f322 := (r38 (n0 + 2) (Nat.add_lt_add_left (by decide) n0) (fun q => absurd (Nat.add_left_cancel q) (by decide))).trans f321
  have f323 := (r44 (n0 + 2) (Nat.add_lt_add_left (by decide) n0) (Nat.ne_of_gt (Nat.lt_of_lt_of_le hol (Nat.le_add_right _ _)))).trans f322
  have f324 := (r49 (n0 + 2) (Nat.add_lt_add_left (by decide) n0) (fun q => absurd (Nat.add_left_cancel q) (by decide))).trans f323
  have f325 := (r55 (n0 + 2) (Nat.add_lt_add_left (by decide) n0) (Nat.ne_of_gt (Nat.lt_of_lt_of_le hol (Nat.le_add_right _ _)))).trans f324
  have f326 := (r60 (n0 + 2) (Nat.add_lt_add_left (by decide) n0) (fun q => absurd (Nat.add_left_cancel q) (by decide))).trans f325
  have f327 := (r66 (n0 + 2) (Nat.add_lt_add_left (by decide) n0) (Nat.ne_of_gt (Nat.lt_of_lt_of_le hol (Nat.le_add_right _ _)))).trans f326
  have f328 := (r71 (n0 + 2) (Nat.add_lt_add_left (by decide) n0) (fun q => absurd (Nat.add_left_cancel q) (by decide))).trans f327
  have f329 := (r77 (n0 + 2) (Nat.add_lt_add_left (by decide) n0) (Nat.ne_of_gt (Nat.lt_of_lt_of_le hol (Nat.le_add_right _ _)))).trans f328
  have f330 := (r82 (n0 + 2) (Nat.add_lt_add_left (by decide) n0) (fun q => absurd (Nat.add_left_cancel q) (by decide))).trans f329
  have f331 := (r88 (n0 + 2) (Nat.add_lt_add_left (by decide) n0) (Nat.ne_of_gt (Nat.lt_of_lt_of_le hol (Nat.le_add_right _ _)))).trans f330
  have f332 := (r93 (n0 + 2) (Nat.add_lt_add_left (by decide) n0) (fun q => absurd (Nat.add_left_cancel q) (by decide))).trans f331
  have f333 := (r99 (n0 + 2) (Nat.add_lt_add_left (by decide) n0) (Nat.ne_of_gt (Nat.lt_of_lt_of_le hol (Nat.le_add_right _ _)))).trans f332
  have f334 := (r104 (n0 + 2) (Nat.add_lt_add_left (by decide) n0) (fun q => absurd (Nat.add_left_cancel q) (by decide))).trans f333
  have f335 := (r110 (n0 + 2) (Nat.add_lt_add_left (by decide) n0) (Nat.ne_of_gt (Nat.lt_of_lt_of_le hol (Nat.le_add_right _ _)))).trans f334
  have f336 := (r115 (n0 + 2) (Nat.add_lt_add_left (by decide) n0) (fun q => absurd (Nat.add_left_cancel q) (by decide))).trans f335
  have f337 := (r121 (n0 + 2) (Nat.add_lt_add_left (by decide) n0) (Nat.ne_of_gt (Nat.lt_of_lt_of_le hol (Nat.le_add_right _ _)))).trans f336
  have f338 := (r126 (n0 + 2) (Nat.add_lt_add_left (by decide) n0) (fun q => absurd (Nat.add_left_cancel q) (by decide))).trans f337
  have f339 := (r132 (n0 + 2) (Nat.add_lt_add_left (by decide) n0) (Nat.ne_of_gt (Nat.lt_of_lt_of_le hol (Nat.le_add_right _ _)))).trans f338
  have f340 := (r137 (n0 + 2) (Nat.add_lt_add_left (by decide) n0) (fun q => absurd (Nat.add_left_cancel q) (by decide))).trans f339
  have f341 := (r143 (n0 + 2) (Nat.add_lt_add_left (by decide) n0) (Nat.ne_of_gt (Nat.lt_of_lt_of_le hol (Nat.le_add_right _ _)))).trans f340
  have f342 := (r148 (n0 + 2) (Nat.add_lt_add_left (by decide) n0) (fun q => absurd (Nat.add_left_cancel q) (by decide))).trans f341
  have f343 := (r154 (n0 + 2) (Nat.add_lt_add_left (by decide) n0) (Nat.ne_of_gt (Nat.lt_of_lt_of_le hol (Nat.le_add_right _ _)))).trans f342
  have f344 := (r159 (n0 + 2) (Nat.add_lt_add_left (by decide) n0) (fun q => absurd (Nat.add_left_cancel q) (by decide))).trans f343
  have f345 := (r165 (n0 + 2) (Nat.add_lt_add_left (by decide) n0) (Nat.ne_of_gt (Nat.lt_of_lt_of_le hol (Nat.le_add_right _ _)))).trans f344
  have f346 := (r170 (n0 + 2) (Nat.add_lt_add_left (by decide) n0) (fun q => absurd (Nat.add_left_cancel q) (by decide))).trans f345
  have f347 := (r176 (n0 + 2) (Nat.add_lt_add_left (by decide) n0) (Nat.ne_of_gt (Nat.lt_of_lt_of_le hol (Nat.le_add_right _ _)))).trans f346
  have f348 := (r181 (n0 + 2) (Nat.add_lt_add_left (by decide) n0) (fun q => absurd (Nat.add_left_cancel q) (by decide))).trans f347
  have f349 := (r187 (n0 + 2) (Nat.add_lt_add_left (by decide) n0) (Nat.ne_of_gt (Nat.lt_of_lt_of_le hol (Nat.le_add_right _ _)))).trans f348
  have f350 := (r192 (n0 + 2) (Nat.add_lt_add_left (by decide) n0) (fun q => absurd (Nat.add_left_cancel q) (by decide))).trans f349
  have f351 := (r198 (n0 + 2) (Nat.add_lt_add_left (by decide) n0) (Nat.ne_of_gt (Nat.lt_of_lt_of_le hol (Nat.le_add_right _ _)))).trans f350
  have f352 := (r203 (n0 + 2) (Nat.add_lt_add_left (by decide) n0) (fun q => absurd (Nat.add_left_cancel q) (by decide))).trans f351
  have f353 := (r209 (n0 + 2) (Nat.add_lt_add_left (by decide) n0) (Nat.ne_of_gt (Nat.lt_of_lt_of_le hol (Nat.le_add_right _ _)))).trans f352
  have f354 := (r245 (n0 + 2) (Nat.add_lt_add_left (by decide) n0) (fun q => absurd (Nat.add_left_cancel q) (by decide))).trans f353
  have f355 := (r55 (n0 + 4) (Nat.add_lt_add_left (by decide) n0) (Nat.ne_of_gt (Nat.lt_of_lt_of_le hol (Nat.le_add_right _ _)))).trans f47
  have f356 := (r60 (n0 + 4) (Nat.add_lt_add_left (by decide) n0) (fun q => absurd (Nat.add_left_cancel q) (by decide))).trans f355
  have f357 := (r66 (n0 + 4) (Nat.add_lt_add_left (by decide) n0) (Nat.ne_of_gt (Nat.lt_of_lt_of_le hol (Nat.le_add_right _ _)))).trans f356
  have f358 := (r71 (n0 + 4) (Nat.add_lt_add_left (by decide) n0) (fun q => absurd (Nat.add_left_cancel q) (by decide))).trans f357
  have f359 := (r77 (n0 + 4) (Nat.add_lt_add_left (by decide) n0) (Nat.ne_of_gt (Nat.lt_of_lt_of_le hol (Nat.le_add_right _ _)))).trans f358
  have f360 := (r82 (n0 + 4) (Nat.add_lt_add_left (by decide) n0) (fun q => absurd (Nat.add_left_cancel q) (by decide))).trans f359
  have f361 := (r88 (n0 + 4) (Nat.add_lt_add_left (by decide) n0) (Nat.ne_of_gt (Nat.lt_of_lt_of_le hol (Nat.le_add_right _ _)))).trans f360
  have f362 := (r93 (n0 + 4) (Nat.add_lt_add_left (by decide) n0) (fun q => absurd (Nat.add_left_cancel q) (by decide))).trans f361
  have f363 := (r99 (n0 + 4) (Nat.add_lt_add_left (by decide) n0) (Nat.ne_of_gt (Nat.lt_of_lt_of_le hol (Nat.le_add_right _ _)))).trans f362
  have f364 := (r104 (n0 + 4) (Nat.add_lt_add_left (by decide) n0) (fun q => absurd (Nat.add_left_cancel q) (by decide))).trans f363
  have f365 := (r110 (n0 + 4) (Nat.add_lt_add_left (by decide) n0) (Nat.ne_of_gt (Nat.lt_of_lt_of_le hol (Nat.le_add_right _ _)))).trans f364
  have f366 := (r115 (n0 + 4) (Nat.add_lt_add_left (by decide) n0) (fun q => absurd (Nat.add_left_cancel q) (by decide))).trans f365
  have f367 := (r121 (n0 + 4) (Nat.add_lt_add_left (by decide) n0) (Nat.ne_of_gt (Nat.lt_of_lt_of_le hol (Nat.le_add_right _ _)))).trans f366
  have f368 := (r126 (n0 + 4) (Nat.add_lt_add_left (by decide) n0) (fun q => absurd (Nat.add_left_cancel q) (by decide))).trans f367
  have f369 := (r132 (n0 + 4) (Nat.add_lt_add_left (by decide) n0) (Nat.ne_of_gt (Nat.lt_of_lt_of_le hol (Nat.le_add_right _ _)))).trans f368
  have f370 := (r137 (n0 + 4) (Nat.add_lt_add_left (by decide) n0) (fun q => absurd (Nat.add_left_cancel q) (by decide))).trans f369
  have f371 := (r143 (n0 + 4) (Nat.add_lt_add_left (by decide) n0) (Nat.ne_of_gt (Nat.lt_of_lt_of_le hol (Nat.le_add_right _ _)))).trans f370
  have f372 := (r148 (n0 + 4) (Nat.add_lt_add_left (by decide) n0) (fun q => absurd (Nat.add_left_cancel q) (by decide))).trans f371
  have f373 := (r154 (n0 + 4) (Nat.add_lt_add_left (by decide) n0) (Nat.ne_of_gt (Nat.lt_of_lt_of_le hol (Nat.le_add_right _ _)))).trans f372
  have f374 := (r159 (n0 + 4) (Nat.add_lt_add_left (by decide) n0) (fun q => absurd (Nat.add_left_cancel q) (by decide))).trans f373
  have f375 := (r165 (n0 + 4) (Nat.add_lt_add_left (by decide) n0) (Nat.ne_of_gt (Nat.lt_of_lt_of_le hol (Nat.le_add_right _ _)))).trans f374
  have f376 := (r170 (n0 + 4) (Nat.add_lt_add_left (by decide) n0) (fun q => absurd (Nat.add_left_cancel q) (by decide))).trans f375
  have f377 := (r176 (n0 + 4) (Nat.add_lt_add_left (by decide) n0) (Nat.ne_of_gt (Nat.lt_of_lt_of_le hol (Nat.le_add_right _ _)))).trans f376
  have f378 := (r181 (n0 + 4) (Nat.add_lt_add_left (by decide) n0) (fun q => absurd (Nat.add_left_cancel q) (by decide))).trans f377
  have f379 := (r187 (n0 + 4) (Nat.add_lt_add_left (by decide) n0) (Nat.ne_of_gt (Nat.lt_of_lt_of_le hol (Nat.le_add_right _ _)))).trans f378
  have f380 := (r192 (n0 + 4) (Nat.add_lt_add_left (by decide) n0) (fun q => absurd (Nat.add_left_cancel q) (by decide))).trans f379
  have f381 := (r198 (n0 + 4) (Nat.add_lt_add_left (by decide) n0) (Nat.ne_of_gt (Nat.lt_of_lt_of_le hol (Nat.le_add_right _ _)))).trans f380
  have f382 := (r203 (n0 + 4) (Nat.add_lt_add_left (by decide) n0) (fun q => absurd (Nat.add_left_cancel q) (by decide))).trans f381
  have f383 := (r209 (n0 + 4) (Nat.add_lt_add_left (by decide) n0) (Nat.ne_of_gt (Nat.lt_of_lt_of_le hol (Nat.le_add_right _ _)))).trans f382
  have f384 := (r245 (n0 + 4) (Nat.add_lt_add_left (by decide) n0) (fun q => absurd (Nat.add_left_cancel q) (by decide))).trans f383
  have f385 := (r66 (n0 + 5) (Nat.add_lt_add_left (by decide) n0) (Nat.ne_of_gt (Nat.lt_of_lt_of_le hol (Nat.le_add_right _ _)))).trans f58
  have f386 := (r71 (n0 + 5) (Nat.add_lt_add_left (by decide) n0) (fun q => absurd (Nat.add_left_cancel q) (by decide))).trans f385
  have f387 := (r77 (n0 + 5) (Nat.add_lt_add_left (by decide) n0) (Nat.ne_of_gt (Nat.lt_of_lt_of_le hol (Nat.le_add_right _ _)))).trans f386
  have f388 := (r82 (n0 + 5) (Nat.add_lt_add_left (by decide) n0) (fun q => absurd (Nat.add_left_cancel q) (by decide))).trans f387
  have f389 := (r88 (n0 + 5) (Nat.add_lt_add_left (by decide) n0) (Nat.ne_of_gt (Nat.lt_of_lt_of_le hol (Nat.le_add_right _ _)))).trans f388
  have f390 := (r93 (n0 + 5) (Nat.add_lt_add_left (by decide) n0) (fun q => absurd (Nat.add_left_cancel q) (by decide))).trans f389
  have f391 := (r99 (n0 + 5) (Nat.add_lt_add_left (by decide) n0) (Nat.ne_of_gt (Nat.lt_of_lt_of_le hol (Nat.le_add_right _ _)))).trans f390
  have f392 := (r104 (n0 + 5) (Nat.add_lt_add_left (by decide) n0) (fun q => absurd (Nat.add_left_cancel q) (by decide))).trans f391
  have f393 := (r110 (n0 + 5) (Nat.add_lt_add_left (by decide) n0) (Nat.ne_of_gt (Nat.lt_of_lt_of_le hol (Nat.le_add_right _ _)))).trans f392
  have f394 := (r115 (n0 + 5) (Nat.add_lt_add_left (by decide) n0) (fun q => absurd (Nat.add_left_cancel q) (by decide))).trans f393
  have f395 := (r121 (n0 + 5) (Nat.add_lt_add_left (by decide) n0) (Nat.ne_of_gt (Nat.lt_of_lt_of_le hol (Nat.le_add_right _ _)))).trans f394
  have f396 := (r126 (n0 + 5) (Nat.add_lt_add_left (by decide) n0) (fun q => absurd (Nat.add_left_cancel q) (by decide))).trans f395
  have f397 := (r132 (n0 + 5) (Nat.add_lt_add_left (by decide) n0) (Nat.ne_of_gt (Nat.lt_of_lt_of_le hol (Nat.le_add_right _ _)))).trans f396
  have f398 := (r137 (n0 + 5) (Nat.add_lt_add_left (by decide) n0) (fun q => absurd (Nat.add_left_cancel q) (by decide))).trans f397
  have f399 := (r143 (n0 + 5) (Nat.add_lt_add_left (by decide) n0) (Nat.ne_of_gt (Nat.lt_of_lt_of_le hol (Nat.le_add_right _ _)))).trans f398
  have f400 := (r148 (n0 + 5) (Nat.add_lt_add_left (by decide) n0) (fun q => absurd (Nat.add_left_cancel q) (by decide))).trans f399
  have f401 := (r154 (n0 + 5) (Nat.add_lt_add_left (by decide) n0) (Nat.ne_of_gt (Nat.lt_of_lt_of_le hol (Nat.le_add_right _ _)))).trans f400
  have f402 := (r159 (n0 + 5) (Nat.add_lt_add_left (by decide) n0) (fun q => absurd (Nat.add_left_cancel q) (by decide))).trans f401
  have f403 := (r165 (n0 + 5) (Nat.add_lt_add_left (by decide) n0) (Nat.ne_of_gt (Nat.lt_of_lt_of_le hol (Nat.le_add_right _ _)))).trans f402
  have f404 := (r170 (n0 + 5) (Nat.add_lt_add_left (by decide) n0) (fun q => absurd (Nat.add_left_cancel q) (by decide))).trans f403
  have f405 := (r176 (n0 + 5) (Nat.add_lt_add_left (by decide) n0) (Nat.ne_of_gt (Nat.lt_of_lt_of_le hol (Nat.le_add_right _ _)))).trans f404
  have f406 := (r181 (n0 + 5) (Nat.add_lt_add_left (by decide) n0) (fun q => absurd (Nat.add_left_cancel q) (by decide))).trans f405
  have f407 := (r187 (n0 + 5) (Nat.add_lt_add_left (by decide) n0) (Nat.ne_of_gt (Nat.lt_of_lt_of_le hol (Nat.le_add_right _ _)))).trans f406
  have f408 := (r192 (n0 + 5) (Nat.add_lt_add_left (by decide) n0) (fun q => absurd (Nat.add_left_cancel q) (by decide))).trans f407
  have f409 := (r198 (n0 + 5) (Nat.add_lt_add_left (by decide) n0) (Nat.ne_of_gt (Nat.lt_of_lt_of_le hol (Nat.le_add_right _ _)))).trans f408
  have f410 := (r203 (n0 + 5) (Nat.add_lt_add_left (by decide) n0) (fun q => absurd (Nat.add_left_cancel q) (by decide))).trans f409
  have f411 := (r209 (n0 + 5) (Nat.add_lt_add_left (by decide) n0) (Nat.ne_of_gt (Nat.lt_of_lt_of_le hol (Nat.le_add_right _ _)))).trans f410
  have f412 := (r245 (n0 + 5) (Nat.add_lt_add_left (by decide) n0) (fun q => absurd (Nat.add_left_cancel q) (by decide))).trans f411
  have f413 := (r77 (n0 + 6) (Nat.add_lt_add_left (by decide) n0) (Nat.ne_of_gt (Nat.lt_of_lt_of_le hol (Nat.le_add_right _ _)))).trans f69
  have f414 := (r82 (n0 + 6) (Nat.add_lt_add_left (by decide) n0) (fun q => absurd (Nat.add_left_cancel q) (by decide))).trans f413
  have f415 := (r88 (n0 + 6) (Nat.add_lt_add_left (by decide) n0) (Nat.ne_of_gt (Nat.lt_of_lt_of_le hol (Nat.le_add_right _ _)))).trans f414
  have f416 := (r93 (n0 + 6) (Nat.add_lt_add_left (by decide) n0) (fun q => absurd (Nat.add_left_cancel q) (by decide))).trans f415
  have f417 := (r99 (n0 + 6) (Nat.add_lt_add_left (by decide) n0) (Nat.ne_of_gt (Nat.lt_of_lt_of_le hol (Nat.le_add_right _ _)))).trans f416
  have f418 := (r104 (n0 + 6) (Nat.add_lt_add_left (by decide) n0) (fun q => absurd (Nat.add_left_cancel q) (by decide))).trans f417
  have f419 := (r110 (n0 + 6) (Nat.add_lt_add_left (by decide) n0) (Nat.ne_of_gt (Nat.lt_of_lt_of_le hol (Nat.le_add_right _ _)))).trans f418
  have f420 := (r115 (n0 + 6) (Nat.add_lt_add_left (by decide) n0) (fun q => absurd (Nat.add_left_cancel q) (by decide))).trans f419
  have f421 := (r121 (n0 + 6) (Nat.add_lt_add_left (by decide) n0) (Nat.ne_of_gt (Nat.lt_of_lt_of_le hol (Nat.le_add_right _ _)))).trans f420
  have f422 := (r126 (n0 + 6) (Nat.add_lt_add_left (by decide) n0) (fun q => absurd (Nat.add_left_cancel q) (by decide))).trans f421
  have f423 := (r132 (n0 + 6) (Nat.add_lt_add_left (by decide) n0) (Nat.ne_of_gt (Nat.lt_of_lt_of_le hol (Nat.le_add_right _ _)))).trans f422
  have f424 := (r137 (n0 + 6) (Nat.add_lt_add_left (by decide) n0) (fun q => absurd (Nat.add_left_cancel q) (by decide))).trans f423
  have f425 := (r143 (n0 + 6) (Nat.add_lt_add_left (by decide) n0) (Nat.ne_of_gt (Nat.lt_of_lt_of_le hol (Nat.le_add_right _ _)))).trans f424
  have f426 := (r148 (n0 + 6) (Nat.add_lt_add_left (by decide) n0) (fun q => absurd (Nat.add_left_cancel q) (by decide))).trans f425
  have f427 := (r154 (n0 + 6) (Nat.add_lt_add_left (by decide) n0) (Nat.ne_of_gt (Nat.lt_of_lt_of_le hol (Nat.le_add_right _ _)))).trans f426
  have f428 := (r159 (n0 + 6) (Nat.add_lt_add_left (by decide) n0) (fun q => absurd (Nat.add_left_cancel q) (by decide))).trans f427
  have f429 := (r165 (n0 + 6) (Nat.add_lt_add_left (by decide) n0) (Nat.ne_of_gt (Nat.lt_of_lt_of_le hol (Nat.le_add_right _ _)))).trans f428
  have f430 := (r170 (n0 + 6) (Nat.add_lt_add_left (by decide) n0) (fun q => absurd (Nat.add_left_cancel q) (by decide))).trans f429
  have f431 := (r176 (n0 + 6) (Nat.add_lt_add_left (by decide) n0) (Nat.ne_of_gt (Nat.lt_of_lt_of_le hol (Nat.le_add_right _ _)))).trans f430
  have f432 := (r181 (n0 + 6) (Nat.add_lt_add_left (by decide) n0) (fun q => absurd (Nat.add_left_cancel q) (by decide))).trans f431
  have f433 := (r187 (n0 + 6) (Nat.add_lt_add_left (by decide) n0) (Nat.ne_of_gt (Nat.lt_of_lt_of_le hol (Nat.le_add_right _ _)))).trans f432
  have f434 := (r192 (n0 + 6) (Nat.add_lt_add_left (by decide) n0) (fun q => absurd (Nat.add_left_cancel q) (by decide))).trans f433
  have f435 := (r198 (n0 + 6) (Nat.add_lt_add_left (by decide) n0) (Nat.ne_of_gt (Nat.lt_of_lt_of_le hol (Nat.le_add_right _ _)))).trans f434
  have f436 := (r203 (n0 + 6) (Nat.add_lt_add_left (by decide) n0) (fun q => absurd (Nat.add_left_cancel q) (by decide))).trans f435
  have f437 := (r209 (n0 + 6) (Nat.add_lt_add_left (by decide) n0) (Nat.ne_of_gt (Nat.lt_of_lt_of_le hol (Nat.le_add_right _ _)))).trans f436
  have f438 := (r245 (n0 + 6) (Nat.add_lt_add_left (by decide) n0) (fun q => absurd (Nat.add_left_cancel q) (by decide))).trans f437
  have f439 := (r88 (n0 + 7) (Nat.add_lt_add_left (by decide) n0) (Nat.ne_of_gt (Nat.lt_of_lt_of_le hol (Nat.le_add_right _ _)))).trans f80
  have f440 := (r93 (n0 + 7) (Nat.add_lt_add_left (by decide) n0) (fun q => absurd (Nat.add_left_cancel q) (by decide))).trans f439
  have f441 := (r99 (n0 + 7) (Nat.add_lt_add_left (by decide) n0) (Nat.ne_of_gt (Nat.lt_of_lt_of_le hol (Nat.le_add_right _ _)))).trans f440
  have f442 := (r104 (n0 + 7) (Nat.add_lt_add_left (by decide) n0) (fun q => absurd (Nat.add_left_cancel q) (by decide))).trans f441
  have f443 := (r110 (n0 + 7) (Nat.add_lt_add_left (by decide) n0) (Nat.ne_of_gt (Nat.lt_of_lt_of_le hol (Nat.le_add_right _ _)))).trans f442
  have f444 := (r115 (n0 + 7) (Nat.add_lt_add_left (by decide) n0) (fun q => absurd (Nat.add_left_cancel q) (by decide))).trans f443
  have f445 := (r121 (n0 + 7) (Nat.add_lt_add_left (by decide) n0) (Nat.ne_of_gt (Nat.lt_of_lt_of_le hol (Nat.le_add_right _ _)))).trans f444
  have f446 := (r126 (n0 + 7) (Nat.add_lt_add_left (by decide) n0) (fun q => absurd (Nat.add_left_cancel q) (by decide))).trans f445
  have f447 := (r132 (n0 + 7) (Nat.add_lt_add_left (by decide) n0) (Nat.ne_of_gt (Nat.lt_of_lt_of_le hol (Nat.le_add_right _ _)))).trans f446
  have f448 := (r137 (n0 + 7) (Nat.add_lt_add_left (by decide) n0) (fun q => absurd (Nat.add_left_cancel q) (by decide))).trans f447
  have f449 := (r143 (n0 + 7) (Nat.add_lt_add_left (by decide) n0) (Nat.ne_of_gt (Nat.lt_of_lt_of_le hol (Nat.le_add_right _ _)))).trans f448
  have f450 := (r148 (n0 + 7) (Nat.add_lt_add_left (by decide) n0) (fun q => absurd (Nat.add_left_cancel q) (by decide))).trans f449
  have f451 := (r154 (n0 + 7) (Nat.add_lt_add_left (by decide) n0) (Nat.ne_of_gt (Nat.lt_of_lt_of_le hol (Nat.le_add_right _ _)))).trans f450
  have f452 := (r159 (n0 + 7) (Nat.add_lt_add_left (by decide) n0) (fun q => absurd (Nat.add_left_cancel q) (by decide))).trans f451
  have f453 := (r165 (n0 + 7) (Nat.add_lt_add_left (by decide) n0) (Nat.ne_of_gt (Nat.lt_of_lt_of_le hol (Nat.le_add_right _ _)))).trans f452
  have f454 := (r170 (n0 + 7) (Nat.add_lt_add_left (by decide) n0) (fun q => absurd (Nat.add_left_cancel q) (by decide))).trans f453
  have f455 := (r176 (n0 + 7) (Nat.add_lt_add_left (by decide) n0) (Nat.ne_of_gt (Nat.lt_of_lt_of_le hol (Nat.le_add_right _ _)))).trans f454
  have f456 := (r181 (n0 + 7) (Nat.add_lt_add_left (by decide) n0) (fun q => absurd (Nat.add_left_cancel q) (by decide))).trans f455
  have f457 := (r187 (n0 + 7) (Nat.add_lt_add_left (by decide) n0) (Nat.ne_of_gt (Nat.lt_of_lt_of_le hol (Nat.le_add_right _ _)))).trans f456
  have f458 := (r192 (n0 + 7) (Nat.add_lt_add_left (by decide) n0) (fun q => absurd (Nat.add_left_cancel q) (by decide))).trans f457
  have f459 := (r198 (n0 + 7) (Nat.add_lt_add_left (by decide) n0) (Nat.ne_of_gt (Nat.lt_of_lt_of_le hol (Nat.le_add_right _ _)))).trans f458
  have f460 := (r203 (n0 + 7) (Nat.add_lt_add_left (by decide) n0) (fun q => absurd (Nat.add_left_cancel q) (by decide))).trans f459
  have f461 := (r209 (n0 + 7) (Nat.add_lt_add_left (by decide) n0) (Nat.ne_of_gt (Nat.lt_of_lt_of_le hol (Nat.le_add_right _ _)))).trans f460
  have f462 := (r245 (n0 + 7) (Nat.add_lt_add_left (by decide) n0) (fun q => absurd (Nat.add_left_cancel q) (by decide))).trans f461
  have f463 := (r99 (n0 + 8) (Nat.add_lt_add_left (by decide) n0) (Nat.ne_of_gt (Nat.lt_of_lt_of_le hol (Nat.le_add_right _ _)))).trans f91
  have f464 := (r104 (n0 + 8) (Nat.add_lt_add_left (by decide) n0) (fun q => absurd (Nat.add_left_cancel q) (by decide))).trans f463
  have f465 := (r110 (n0 + 8) (Nat.add_lt_add_left (by decide) n0) (Nat.ne_of_gt (Nat.lt_of_lt_of_le hol (Nat.le_add_right _ _)))).trans f464
  have f466 := (r115 (n0 + 8) (Nat.add_lt_add_left (by decide) n0) (fun q => absurd (Nat.add_left_cancel q) (by decide))).trans f465
  have f467 := (r121 (n0 + 8) (Nat.add_lt_add_left (by decide) n0) (Nat.ne_of_gt (Nat.lt_of_lt_of_le hol (Nat.le_add_right _ _)))).trans f466
  have f468 := (r126 (n0 + 8) (Nat.add_lt_add_left (by decide) n0) (fun q => absurd (Nat.add_left_cancel q) (by decide))).trans f467
  have f469 := (r132 (n0 + 8) (Nat.add_lt_add_left (by decide) n0) (Nat.ne_of_gt (Nat.lt_of_lt_of_le hol (Nat.le_add_right _ _)))).trans f468
  have f470 := (r137 (n0 + 8) (Nat.add_lt_add_left (by decide) n0) (fun q => absurd (Nat.add_left_cancel q) (by decide))).trans f469
  have f471 := (r143 (n0 + 8) (Nat.add_lt_add_left (by decide) n0) (Nat.ne_of_gt (Nat.lt_of_lt_of_le hol (Nat.le_add_right _ _)))).trans f470
  have f472 := (r148 (n0 + 8) (Nat.add_lt_add_left (by decide) n0) (fun q => absurd (Nat.add_left_cancel q) (by decide))).trans f471
  have f473 := (r154 (n0 + 8) (Nat.add_lt_add_left (by decide) n0) (Nat.ne_of_gt (Nat.lt_of_lt_of_le hol (Nat.le_add_right _ _)))).trans f472
  have f474 := (r159 (n0 + 8) (Nat.add_lt_add_left (by decide) n0) (fun q => absurd (Nat.add_left_cancel q) (by decide))).trans f473
  have f475 := (r165 (n0 + 8) (Nat.add_lt_add_left (by decide) n0) (Nat.ne_of_gt (Nat.lt_of_lt_of_le hol (Nat.le_add_right _ _)))).trans f474
  have f476 := (r170 (n0 + 8) (Nat.add_lt_add_left (by decide) n0) (fun q => absurd (Nat.add_left_cancel q) (by decide))).trans f475
  have f477 := (r176 (n0 + 8) (Nat.add_lt_add_left (by decide) n0) (Nat.ne_of_gt (Nat.lt_of_lt_of_le hol (Nat.le_add_right _ _)))).trans f476
  have f478 := (r181 (n0 + 8) (Nat.add_lt_add_left (by decide) n0) (fun q => absurd (Nat.add_left_cancel q) (by decide))).trans f477
  have f479 := (r187 (n0 + 8) (Nat.add_lt_add_left (by decide) n0) (Nat.ne_of_gt (Nat.lt_of_lt_of_le hol (Nat.le_add_right _ _)))).trans f478
  have f480 := (r192 (n0 + 8) (Nat.add_lt_add_left (by decide) n0) (fun q => absurd (Nat.add_left_cancel q) (by decide))).trans f479
  have f481 := (r198 (n0 + 8) (Nat.add_lt_add_left (by decide) n0) (Nat.ne_of_gt (Nat.lt_of_lt_of_le hol (Nat.le_add_right _ _)))).trans f480
  have f482 := (r203 (n0 + 8) (Nat.add_lt_add_left (by decide) n0) (fun q => absurd (Nat.add_left_cancel q) (by decide))).trans f481
  have f483 := (r209 (n0 + 8) (Nat.add_lt_add_left (by decide) n0) (Nat.ne_of_gt (Nat.lt_of_lt_of_le hol (Nat.le_add_right _ _)))).trans f482
  have f484 := (r245 (n0 + 8) (Nat.add_lt_add_left (by decide) n0) (fun q => absurd (Nat.add_left_cancel q) (by decide))).trans f483
  have f485 := (r110 (n0 + 9) (Nat.add_lt_add_left (by decide) n0) (Nat.ne_of_gt (Nat.lt_of_lt_of_le hol (Nat.le_add_right _ _)))).trans f102
  have f486 := (r115 (n0 + 9) (Nat.add_lt_add_left (by decide) n0) (fun q => absurd (Nat.add_left_cancel q) (by decide))).trans f485
  have f487 := (r121 (n0 + 9) (Nat.add_lt_add_left (by decide) n0) (Nat.ne_of_gt (Nat.lt_of_lt_of_le hol (Nat.le_add_right _ _)))).trans f486
  have f488 := (r126 (n0 + 9) (Nat.add_lt_add_left (by decide) n0) (fun q => absurd (Nat.add_left_cancel q) (by decide))).trans f487
  have f489 := (r132 (n0 + 9) (Nat.add_lt_add_left (by decide) n0) (Nat.ne_of_gt (Nat.lt_of_lt_of_le hol (Nat.le_add_right _ _)))).trans f488
  have f490 := (r137 (n0 + 9) (Nat.add_lt_add_left (by decide) n0) (fun q => absurd (Nat.add_left_cancel q) (by decide))).trans f489
  have f491 := (r143 (n0 + 9) (Nat.add_lt_add_left (by decide) n0) (Nat.ne_of_gt (Nat.lt_of_lt_of_le hol (Nat.le_add_right _ _)))).trans f490
  have f492 := (r148 (n0 + 9) (Nat.add_lt_add_left (by decide) n0) (fun q => absurd (Nat.add_left_cancel q) (by decide))).trans f491
  have f493 := (r154 (n0 + 9) (Nat.add_lt_add_left (by decide) n0) (Nat.ne_of_gt (Nat.lt_of_lt_of_le hol (Nat.le_add_right _ _)))).trans f492
  have f494 := (r159 (n0 + 9) (Nat.add_lt_add_left (by decide) n0) (fun q => absurd (Nat.add_left_cancel q) (by decide))).trans f493
  have f495 := (r165 (n0 + 9) (Nat.add_lt_add_left (by decide) n0) (Nat.ne_of_gt (Nat.lt_of_lt_of_le hol (Nat.le_add_right _ _)))).trans f494
  have f496 := (r170 (n0 + 9) (Nat.add_lt_add_left (by decide) n0) (fun q => absurd (Nat.add_left_cancel q) (by decide))).trans f495
  have f497 := (r176 (n0 + 9) (Nat.add_lt_add_left (by decide) n0) (Nat.ne_of_gt (Nat.lt_of_lt_of_le hol (Nat.le_add_right _ _)))).trans f496
  have f498 := (r181 (n0 + 9) (Nat.add_lt_add_left (by decide) n0) (fun q => absurd (Nat.add_left_cancel q) (by decide))).trans f497
  have f499 := (r187 (n0 + 9) (Nat.add_lt_add_left (by decide) n0) (Nat.ne_of_gt (Nat.lt_of_lt_of_le hol (Nat.le_add_right _ _)))).trans f498
  have f500 := (r192 (n0 + 9) (Nat.add_lt_add_left (by decide) n0) (fun q => absurd (Nat.add_left_cancel q) (by decide))).trans f499
  have f501 := (r198 (n0 + 9) (Nat.add_lt_add_left (by decide) n0) (Nat.ne_of_gt (Nat.lt_of_lt_of_le hol (Nat.le_add_right _ _)))).trans f500
  have f502 := (r203 (n0 + 9) (Nat.add_lt_add_left (by decide) n0) (fun q => absurd (Nat.add_left_cancel q) (by decide))).trans f501
  have f503 := (r209 (n0 + 9) (Nat.add_lt_add_left (by decide) n0) (Nat.ne_of_gt (Nat.lt_of_lt_of_le hol (Nat.le_add_right _ _)))).trans f502
  have f504 := (r245 (n0 + 9) (Nat.add_lt_add_left (by decide) n0) (fun q => absurd (Nat.add_left_cancel q) (by decide))).trans f503
  have f505 := (r121 (n0 + 10) (Nat.add_lt_add_left (by decide) n0) (Nat.ne_of_gt (Nat.lt_of_lt_of_le hol (Nat.le_add_right _ _)))).trans f113
  have f506 := (r126 (n0 + 10) (Nat.add_lt_add_left (by decide) n0) (fun q => absurd (Nat.add_left_cancel q) (by decide))).trans f505
  have f507 := (r132 (n0 + 10) (Nat.add_lt_add_left (by decide) n0) (Nat.ne_of_gt (Nat.lt_of_lt_of_le hol (Nat.le_add_right _ _)))).trans f506
  have f508 := (r137 (n0 + 10) (Nat.add_lt_add_left (by decide) n0) (fun q => absurd (Nat.add_left_cancel q) (by decide))).trans f507
  have f509 := (r143 (n0 + 10) (Nat.add_lt_add_left (by decide) n0) (Nat.ne_of_gt (Nat.lt_of_lt_of_le hol (Nat.le_add_right _ _)))).trans f508
  have f510 := (r148 (n0 + 10) (Nat.add_lt_add_left (by decide) n0) (fun q => absurd (Nat.add_left_cancel q) (by decide))).trans f509
  have f511 := (r154 (n0 + 10) (Nat.add_lt_add_left (by decide) n0) (Nat.ne_of_gt (Nat.lt_of_lt_of_le hol (Nat.le_add_right _ _)))).trans f510
  have f512 := (r159 (n0 + 10) (Nat.add_lt_add_left (by decide) n0) (fun q => absurd (Nat.add_left_cancel q) (by decide))).trans f511
  have f513 := (r165 (n0 + 10) (Nat.add_lt_add_left (by decide) n0) (Nat.ne_of_gt (Nat.lt_of_lt_of_le hol (Nat.le_add_right _ _)))).trans f512
  have f514 := (r170 (n0 + 10) (Nat.add_lt_add_left (by decide) n0) (fun q => absurd (Nat.add_left_cancel q) (by decide))).trans f513
  have f515 := (r176 (n0 + 10) (Nat.add_lt_add_left (by decide) n0) (Nat.ne_of_gt (Nat.lt_of_lt_of_le hol (Nat.le_add_right _ _)))).trans f514
  have f516 := (r181 (n0 + 10) (Nat.add_lt_add_left (by decide) n0) (fun q => absurd (Nat.add_left_cancel q) (by decide))).trans f515
  have f517 := (r187 (n0 + 10) (Nat.add_lt_add_left (by decide) n0) (Nat.ne_of_gt (Nat.lt_of_lt_of_le hol (Nat.le_add_right _ _)))).trans f516
  have f518 := (r192 (n0 + 10) (Nat.add_lt_add_left (by decide) n0) (fun q => absurd (Nat.add_left_cancel q) (by decide))).trans f517
  have f519 := (r198 (n0 + 10) (Nat.add_lt_add_left (by decide) n0) (Nat.ne_of_gt (Nat.lt_of_lt_of_le hol (Nat.le_add_right _ _)))).trans f518
  have f520 := (r203 (n0 + 10) (Nat.add_lt_add_left (by decide) n0) (fun q => absurd (Nat.add_left_cancel q) (by decide))).trans f519
  have f521 := (r209 (n0 + 10) (Nat.add_lt_add_left (by decide) n0) (Nat.ne_of_gt (Nat.lt_of_lt_of_le hol (Nat.le_add_right _ _)))).trans f520
  have f522 := (r245 (n0 + 10) (Nat.add_lt_add_left (by decide) n0) (fun q => absurd (Nat.add_left_cancel q) (by decide))).trans f521
  have f523 := (r132 (n0 + 11) (Nat.add_lt_add_left (by decide) n0) (Nat.ne_of_gt (Nat.lt_of_lt_of_le hol (Nat.le_add_right _ _)))).trans f124
  have f524 := (r137 (n0 + 11) (Nat.add_lt_add_left (by decide) n0) (fun q => absurd (Nat.add_left_cancel q) (by decide))).trans f523
  have f525 := (r143 (n0 + 11) (Nat.add_lt_add_left (by decide) n0) (Nat.ne_of_gt (Nat.lt_of_lt_of_le hol (Nat.le_add_right _ _)))).trans f524
  have f526 := (r148 (n0 + 11) (Nat.add_lt_add_left (by decide) n0) (fun q => absurd (Nat.add_left_cancel q) (by decide))).trans f525
  have f527 := (r154 (n0 + 11) (Nat.add_lt_add_left (by decide) n0) (Nat.ne_of_gt (Nat.lt_of_lt_of_le hol (Nat.le_add_right _ _)))).trans f526
  have f528 := (r159 (n0 + 11) (Nat.add_lt_add_left (by decide) n0) (fun q => absurd (Nat.add_left_cancel q) (by decide))).trans f527
  have f529 := (r165 (n0 + 11) (Nat.add_lt_add_left (by decide) n0) (Nat.ne_of_gt (Nat.lt_of_lt_of_le hol (Nat.le_add_right _ _)))).trans f528
  have f530 := (r170 (n0 + 11) (Nat.add_lt_add_left (by decide) n0) (fun q => absurd (Nat.add_left_cancel q) (by decide))).trans f529
  have f531 := (r176 (n0 + 11) (Nat.add_lt_add_left (by decide) n0) (Nat.ne_of_gt (Nat.lt_of_lt_of_le hol (Nat.le_add_right _ _)))).trans f530
  have f532 := (r181 (n0 + 11) (Nat.add_lt_add_left (by decide) n0) (fun q => absurd (Nat.add_left_cancel q) (by decide))).trans f531
  have f533 := (r187 (n0 + 11) (Nat.add_lt_add_left (by decide) n0) (Nat.ne_of_gt (Nat.lt_of_lt_of_le hol (Nat.le_add_right _ _)))).trans f532
  have f534 := (r192 (n0 + 11) (Nat.add_lt_add_left (by decide) n0) (fun q => absurd (Nat.add_left_cancel q) (by decide))).trans f533
  have f535 := (r198 (n0 + 11) (Nat.add_lt_add_left (by decide) n0) (Nat.ne_of_gt (Nat.lt_of_lt_of_le hol (Nat.le_add_right _ _)))).trans f534
  have f536 := (r203 (n0 + 11) (Nat.add_lt_add_left (by decide) n0) (fun q => absurd (Nat.add_left_cancel q) (by decide))).trans f535
  have f537 := (r209 (n0 + 11) (Nat.add_lt_add_left (by decide) n0) (Nat.ne_of_gt (Nat.lt_of_lt_of_le hol (Nat.le_add_right _ _)))).trans f536
  have f538 := (r245 (n0 + 11) (Nat.add_lt_add_left (by decide) n0) (fun q => absurd (Nat.add_left_cancel q) (by decide))).trans f537
  have f539 := (r143 (n0 + 12) (Nat.add_lt_add_left (by decide) n0) (Nat.ne_of_gt (Nat.lt_of_lt_of_le hol (Nat.le_add_right _ _)))).trans f135
  have f540 := (r148 (n0 + 12) (Nat.add_lt_add_left (by decide) n0) (fun q => absurd (Nat.add_left_cancel q) (by decide))).trans f539
  have f541 := (r154 (n0 + 12) (Nat.add_lt_add_left (by decide) n0) (Nat.ne_of_gt (Nat.lt_of_lt_of_le hol (Nat.le_add_right _ _)))).trans f540
  have f542 := (r159 (n0 + 12) (Nat.add_lt_add_left (by decide) n0) (fun q => absurd (Nat.add_left_cancel q) (by decide))).trans f541
  have f543 := (r165 (n0 + 12) (Nat.add_lt_add_left (by decide) n0) (Nat.ne_of_gt (Nat.lt_of_lt_of_le hol (Nat.le_add_right _ _)))).trans f542
  have f544 := (r170 (n0 + 12) (Nat.add_lt_add_left (by decide) n0) (fun q => absurd (Nat.add_left_cancel q) (by decide))).trans f543
  have f545 := (r176 (n0 + 12) (Nat.add_lt_add_left (by decide) n0) (Nat.ne_of_gt (Nat.lt_of_lt_of_le hol (Nat.le_add_right _ _)))).trans f544
  have f546 := (r181 (n0 + 12) (Nat.add_lt_add_left (by decide) n0) (fun q => absurd (Nat.add_left_cancel q) (by decide))).trans f545
  have f547 := (r187 (n0 + 12) (Nat.add_lt_add_left (by decide) n0) (Nat.ne_of_gt (Nat.lt_of_lt_of_le hol (Nat.le_add_right _ _)))).trans f546
  have f548 := (r192 (n0 + 12) (Nat.add_lt_add_left (by decide) n0) (fun q => absurd (Nat.add_left_cancel q) (by decide))).trans f547
  have f549 := (r198 (n0 + 12) (Nat.add_lt_add_left (by decide) n0) (Nat.ne_of_gt (Nat.lt_of_lt_of_le hol (Nat.le_add_right _ _)))).trans f548
  have f550 := (r203 (n0 + 12) (Nat.add_lt_add_left (by decide) n0) (fun q => absurd (Nat.add_left_cancel q) (by decide))).trans f549
  have f551 := (r209 (n0 + 12) (Nat.add_lt_add_left (by decide) n0) (Nat.ne_of_gt (Nat.lt_of_lt_of_le hol (Nat.le_add_right _ _)))).trans f550
  have f552 := (r245 (n0 + 12) (Nat.add_lt_add_left (by decide) n0) (fun q => absurd (Nat.add_left_cancel q) (by decide))).trans f551
  have f553 := (r154 (n0 + 13) (Nat.add_lt_add_left (by decide) n0) (Nat.ne_of_gt (Nat.lt_of_lt_of_le hol (Nat.le_add_right _ _)))).trans f146
  have f554 := (r159 (n0 + 13) (Nat.add_lt_add_left (by decide) n0) (fun q => absurd (Nat.add_left_cancel q) (by decide))).trans f553
  have f555 := (r165 (n0 + 13) (Nat.add_lt_add_left (by decide) n0) (Nat.ne_of_gt (Nat.lt_of_lt_of_le hol (Nat.le_add_right _ _)))).trans f554
  have f556 := (r170 (n0 + 13) (Nat.add_lt_add_left (by decide) n0) (fun q => absurd (Nat.add_left_cancel q) (by decide))).trans f555
  have f557 := (r176 (n0 + 13) (Nat.add_lt_add_left (by decide) n0) (Nat.ne_of_gt (Nat.lt_of_lt_of_le hol (Nat.le_add_right _ _)))).trans f556
  have f558 := (r181 (n0 + 13) (Nat.add_lt_add_left (by decide) n0) (fun q => absurd (Nat.add_left_cancel q) (by decide))).trans f557
  have f559 := (r187 (n0 + 13) (Nat.add_lt_add_left (by decide) n0) (Nat.ne_of_gt (Nat.lt_of_lt_of_le hol (Nat.le_add_right _ _)))).trans f558
  have f560 := (r192 (n0 + 13) (Nat.add_lt_add_left (by decide) n0) (fun q => absurd (Nat.add_left_cancel q) (by decide))).trans f559
  have f561 := (r198 (n0 + 13) (Nat.add_lt_add_left (by decide) n0) (Nat.ne_of_gt (Nat.lt_of_lt_of_le hol (Nat.le_add_right _ _)))).trans f560
  have f562 := (r203 (n0 + 13) (Nat.add_lt_add_left (by decide) n0) (fun q => absurd (Nat.add_left_cancel q) (by decide))).trans f561
  have f563 := (r209 (n0 + 13) (Nat.add_lt_add_left (by decide) n0) (Nat.ne_of_gt (Nat.lt_of_lt_of_le hol (Nat.le_add_right _ _)))).trans f562
  have f564 := (r245 (n0 + 13) (Nat.add_lt_add_left (by decide) n0) (fun q => absurd (Nat.add_left_cancel q) (by decide))).trans f563
  have f565 := (r165 (n0 + 14) (Nat.add_lt_add_left (by decide) n0) (Nat.ne_of_gt (Nat.lt_of_lt_of_le hol (Nat.le_add_right _ _)))).trans f157
  have f566 := (r170 (n0 + 14) (Nat.add_lt_add_left (by decide) n0) (fun q => absurd (Nat.add_left_cancel q) (by decide))).trans f565
  have f567 := (r176 (n0 + 14) (Nat.add_lt_add_left (by decide) n0) (Nat.ne_of_gt (Nat.lt_of_lt_of_le hol (Nat.le_add_right _ _)))).trans f566
  have f568 := (r181 (n0 + 14) (Nat.add_lt_add_left (by decide) n0) (fun q => absurd (Nat.add_left_cancel q) (by decide))).trans f567
  have f569 := (r187 (n0 + 14) (Nat.add_lt_add_left (by decide) n0) (Nat.ne_of_gt (Nat.lt_of_lt_of_le hol (Nat.le_add_right _ _)))).trans f568
  have f570 := (r192 (n0 + 14) (Nat.add_lt_add_left (by decide) n0) (fun q => absurd (Nat.add_left_cancel q) (by decide))).trans f569
  have f571 := (r198 (n0 + 14) (Nat.add_lt_add_left (by decide) n0) (Nat.ne_of_gt (Nat.lt_of_lt_of_le hol (Nat.le_add_right _ _)))).trans f570
  have f572 := (r203 (n0 + 14) (Nat.add_lt_add_left (by decide) n0) (fun q => absurd (Nat.add_left_cancel q) (by decide))).trans f571
  have f573 := (r209 (n0 + 14) (Nat.add_lt_add_left (by decide) n0) (Nat.ne_of_gt (Nat.lt_of_lt_of_le hol (Nat.le_add_right _ _)))).trans f572
  have f574 := (r245 (n0 + 14) (Nat.add_lt_add_left (by decide) n0) (fun q => absurd (Nat.add_left_cancel q) (by decide))).trans f573
  have f575 := (r176 (n0 + 15) (Nat.add_lt_add_left (by decide) n0) (Nat.ne_of_gt (Nat.lt_of_lt_of_le hol (Nat.le_add_right _ _)))).trans f168
  have f576 := (r181 (n0 + 15) (Nat.add_lt_add_left (by decide) n0) (fun q => absurd (Nat.add_left_cancel q) (by decide))).trans f575
  have f577 := (r187 (n0 + 15) (Nat.add_lt_add_left (by decide) n0) (Nat.ne_of_gt (Nat.lt_of_lt_of_le hol (Nat.le_add_right _ _)))).trans f576
  have f578 := (r192 (n0 + 15) (Nat.add_lt_add_left (by decide) n0) (fun q => absurd (Nat.add_left_cancel q) (by decide))).trans f577
  have f579 := (r198 (n0 + 15) (Nat.add_lt_add_left (by decide) n0) (Nat.ne_of_gt (Nat.lt_of_lt_of_le hol (Nat.le_add_right _ _)))).trans f578
  have f580 := (r203 (n0 + 15) (Nat.add_lt_add_left (by decide) n0) (fun q => absurd (Nat.add_left_cancel q) (by decide))).trans f579
  have f581 := (r209 (n0 + 15) (Nat.add_lt_add_left (by decide) n0) (Nat.ne_of_gt (Nat.lt_of_lt_of_le hol (Nat.le_add_right _ _)))).trans f580
  have f582 := (r245 (n0 + 15) (Nat.add_lt_add_left (by decide) n0) (fun q => absurd (Nat.add_left_cancel q) (by decide))).trans f581
  have f583 := (r187 (n0 + 16) (Nat.add_lt_add_left (by decide) n0) (Nat.ne_of_gt (Nat.lt_of_lt_of_le hol (Nat.le_add_right _ _)))).trans f179
  have f584 := (r192 (n0 + 16) (Nat.add_lt_add_left (by decide) n0) (fun q => absurd (Nat.add_left_cancel q) (by decide))).trans f583
  have f585 := (r198 (n0 + 16) (Nat.add_lt_add_left (by decide) n0) (Nat.ne_of_gt (Nat.lt_of_lt_of_le hol (Nat.le_add_right _ _)))).trans f584
  have f586 := (r203 (n0 + 16) (Nat.add_lt_add_left (by decide) n0) (fun q => absurd (Nat.add_left_cancel q) (by decide))).trans f585
  have f587 := (r209 (n0 + 16) (Nat.add_lt_add_left (by decide) n0) (Nat.ne_of_gt (Nat.lt_of_lt_of_le hol (Nat.le_add_right _ _)))).trans f586
  have f588 := (r245 (n0 + 16) (Nat.add_lt_add_left (by decide) n0) (fun q => absurd (Nat.add_left_cancel q) (by decide))).trans f587
  have f589 := (r198 (n0 + 17) (Nat.add_lt_add_left (by decide) n0) (Nat.ne_of_gt (Nat.lt_of_lt_of_le hol (Nat.le_add_right _ _)))).trans f190
  have f590 := (r203 (n0 + 17) (Nat.add_lt_add_left (by decide) n0) (fun q => absurd (Nat.add_left_cancel q) (by decide))).trans f589
  have f591 := (r209 (n0 + 17) (Nat.add_lt_add_left (by decide) n0) (Nat.ne_of_gt (Nat.lt_of_lt_of_le hol (Nat.le_add_right _ _)))).trans f590
  have f592 := (r245 (n0 + 17) (Nat.add_lt_add_left (by decide) n0) (fun q => absurd (Nat.add_left_cancel q) (by decide))).trans f591
  have f593 := (r209 (n0 + 18) (Nat.add_lt_add_left (by decide) n0) (Nat.ne_of_gt (Nat.lt_of_lt_of_le hol (Nat.le_add_right _ _)))).trans f201
  have f594 := (r245 (n0 + 18) (Nat.add_lt_add_left (by decide) n0) (fun q => absurd (Nat.add_left_cancel q) (by decide))).trans f593
  have hfr : ∀ j, j < n0 → j ≠ o → h241[j]? = h[j]? := by
    intro j hj hjo
    rw [r245 j (Nat.lt_of_lt_of_le hj (Nat.le_add_right _ _)) (Nat.ne_of_lt (Nat.lt_of_lt_of_le hj (Nat.le_add_right _ _))), r209 j (Nat.lt_of_lt_of_le hj (Nat.le_add_right _ _)) hjo, r203 j (Nat.lt_of_lt_of_le hj (Nat.le_add_right _ _)) (Nat.ne_of_lt (Nat.lt_of_lt_of_le hj (Nat.le_add_right _ _))), r198 j (Nat.lt_of_lt_of_le hj (Nat.le_add_right _ _)) hjo, r192 j (Nat.lt_of_lt_of_le hj (Nat.le_add_right _ _)) (Nat.ne_of_lt (Nat.lt_of_lt_of_le hj (Nat.le_add_right _ _))), r187 j (Nat.lt_of_lt_of_le hj (Nat.le_add_right _ _)) hjo, r181 j (Nat.lt_of_lt_of_le hj (Nat.le_add_right _ _)) (Nat.ne_of_lt (Nat.lt_of_lt_of_le hj (Nat.le_add_right _ _))), r176 j (Nat.lt_of_lt_of_le hj (Nat.le_add_right _ _)) hjo, r170 j (Nat.lt_of_lt_of_le hj (Nat.le_add_right _ _)) (Nat.ne_of_lt (Nat.lt_of_lt_of_le hj (Nat.le_add_right _ _))), r165 j (Nat.lt_of_lt_of_le hj (Nat.le_add_right _ _)) hjo, r159 j (Nat.lt_of_lt_of_le hj (Nat.le_add_right _ _)) (Nat.ne_of_lt (Nat.lt_of_lt_of_le hj (Nat.le_add_right _ _))), r154 j (Nat.lt_of_lt_of_le hj (Nat.le_add_right _ _)) hjo, r148 j (Nat.lt_of_lt_of_le hj (Nat.le_add_right _ _)) (Nat.ne_of_lt (Nat.lt_of_lt_of_le hj (Nat.le_add_right _ _))), r143 j (Nat.lt_of_lt_of_le hj (Nat.le_add_right _ _)) hjo, r137 j (Nat.lt_of_lt_of_le hj (Nat.le_add_right _ _)) (Nat.ne_of_lt (Nat.lt_of_lt_of_le hj (Nat.le_add_right _ _))), r132 j (Nat.lt_of_lt_of_le hj (Nat.le_add_right _ _)) hjo, r126 j (Nat.lt_of_lt_of_le hj (Nat.le_add_right _ _)) (Nat.ne_of_lt (Nat.lt_of_lt_of_le hj (Nat.le_add_right _ _))), r121 j (Nat.lt_of_lt_of_le hj (Nat.le_add_right _ _)) hjo, r115 j (Nat.lt_of_lt_of_le hj (Nat.le_add_right _ _)) (Nat.ne_of_lt (Nat.lt_of_lt_of_le hj (Nat.le_add_right _ _))), r110 j (Nat.lt_of_lt_of_le hj (Nat.le_add_right _ _)) hjo, r104 j (Nat.lt_of_lt_of_le hj (Nat.le_add_right _ _)) (Nat.ne_of_lt (Nat.lt_of_lt_of_le hj (Nat.le_add_right _ _))), r99 j (Nat.lt_of_lt_of_le hj (Nat.le_add_right _ _)) hjo, r93 j (Nat.lt_of_lt_of_le hj (Nat.le_add_right _ _)) (Nat.ne_of_lt (Nat.lt_of_lt_of_le hj (Nat.le_add_right _ _))), r88 j (Nat.lt_of_lt_of_le hj (Nat.le_add_right _ _)) hjo, r82 j (Nat.lt_of_lt_of_le hj (Nat.le_add_right _ _)) (Nat.ne_of_lt (Nat.lt_of_lt_of_le hj (Nat.le_add_right _ _))), r77 j (Nat.lt_of_lt_of_le hj (Nat.le_add_right _ _)) hjo, r71 j (Nat.lt_of_lt_of_le hj (Nat.le_add_right _ _)) (Nat.ne_of_lt (Nat.lt_of_lt_of_le hj (Nat.le_add_right _ _))), r66 j (Nat.lt_of_lt_of_le hj (Nat.le_add_right _ _)) hjo, r60 j (Nat.lt_of_lt_of_le hj (Nat.le_add_right _ _)) (Nat.ne_of_lt (Nat.lt_of_lt_of_le hj (Nat.le_add_right _ _))), r55 j (Nat.lt_of_lt_of_le hj (Nat.le_add_right _ _)) hjo, r49 j (Nat.lt_of_lt_of_le hj (Nat.le_add_right _ _)) (Nat.ne_of_lt (Nat.lt_of_lt_of_le hj (Nat.le_add_right _ _))), r44 j (Nat.lt_of_lt_of_le hj (Nat.le_add_right _ _)) hjo, r38 j (Nat.lt_of_lt_of_le hj (Nat.le_add_right _ _)) (Nat.ne_of_lt (Nat.lt_of_lt_of_le hj (Nat.le_add_right _ _))), r33 j (Nat.lt_of_lt_of_le hj (Nat.le_add_right _ _)) hjo, r27 j (Nat.lt_of_lt_of_le hj (Nat.le_add_right _ _)) (Nat.ne_of_lt (Nat.lt_of_lt_of_le hj (Nat.le_add_right _ _))), r22 j (Nat.lt_of_lt_of_le hj (Nat.le_add_right _ _)) hjo, r16 j (Nat.lt_of_lt_of_le hj (Nat.le_add_right _ _)) (Nat.ne_of_lt (Nat.lt_of_lt_of_le hj (Nat.le_add_right _ _))), r11 j (Nat.lt_of_lt_of_le hj (Nat.le_add_right _ _)) hjo, r5 j (Nat.lt_of_lt_of_le hj (Nat.le_add_right _ _)) (Nat.ne_of_lt (Nat.lt_of_lt_of_le hj (Nat.le_add_right _ _)))]
  exact J_vret hq dX11_init_162 rfl (hk1 hn l244) (by decide) (by decide) ⟨rfl, l244, f246, (At_cons f284 (At_cons f320 (At_cons f354 (At_cons f243 (At_cons f384 (At_cons f412 (At_cons f438 (At_cons f462 (At_cons f484 (At_cons f504 (At_cons f522 (At_cons f538 (At_cons f552 (At_cons f564 (At_cons f574 (At_cons f582 (At_cons f588 (At_cons f592 (At_cons f594 At_nil))))))))))))))))))), hfr⟩
