theorem k1272 : Cond.fieldLink RX11 86 "PondStairModel" "ahead" "I" ∈ gt := gt_in 1272 (by decide +kernel) (by decide +kernel)
theorem k1273 : Cond.fieldLink RX11 89 "PondStairModel" "length" "I" ∈ gt := gt_in 1273 (by decide +kernel) (by decide +kernel)
theorem k1421 : Cond.methodLink RX11 92 yX11_see ∈ gt := gt_in 1421 (by decide +kernel) (by decide +kernel)
theorem k1423 : Cond.instanceMethod yX11_see ∈ gt := gt_in 1423 (by decide +kernel) (by decide +kernel)
theorem k39 : Cond.selects RX11 yX11_see yX11_see ∈ gt := gt_in 39 (by decide +kernel) (by decide +kernel)
theorem k1424 : Cond.code yX11_see cX11_see 1 (some .int) ∈ gt := gt_in 1424 (by decide +kernel) (by decide +kernel)
theorem np_X11_see : yX11_see.cls ≠ "java/lang/invoke/MethodHandle" ∧ yX11_see.cls ≠ "java/lang/invoke/VarHandle" ∧ (parseMethodDescriptor yX11_see.desc).map (fun d => d.parameters.length) = some 0 := by decide +kernel
theorem k1274 : Cond.fieldLink RX11 96 "PondStairModel" "begins" "I" ∈ gt := gt_in 1274 (by decide +kernel) (by decide +kernel)
theorem k1277 : Cond.fieldLink RX11 99 "PondStairModel" "word" "J" ∈ gt := gt_in 1277 (by decide +kernel) (by decide +kernel)
theorem k1275 : Cond.fieldLink RX11 103 "PondStairModel" "sort" "I" ∈ gt := gt_in 1275 (by decide +kernel) (by decide +kernel)
theorem k1276 : Cond.fieldLink RX11 106 "PondStairModel" "value" "I" ∈ gt := gt_in 1276 (by decide +kernel) (by decide +kernel)
theorem dX11_see_0 : decode cX11_see 0 = .ok (.aload_n 0, 1) := by decide +kernel
theorem dX11_see_1 : decode cX11_see 1 = .ok (.getfield 86, 3) := by decide +kernel
theorem dX11_see_4 : decode cX11_see 4 = .ok (.aload_n 0, 1) := by decide +kernel
theorem dX11_see_5 : decode cX11_see 5 = .ok (.getfield 89, 3) := by decide +kernel
theorem dX11_see_8 : decode cX11_see 8 = .ok (.if_icmp .ge 19, 3) := by decide +kernel
theorem dX11_see_11 : decode cX11_see 11 = .ok (.aload_n 0, 1) := by decide +kernel
theorem dX11_see_12 : decode cX11_see 12 = .ok (.getfield 7, 3) := by decide +kernel
theorem dX11_see_15 : decode cX11_see 15 = .ok (.aload_n 0, 1) := by decide +kernel
theorem dX11_see_16 : decode cX11_see 16 = .ok (.getfield 86, 3) := by decide +kernel
theorem dX11_see_19 : decode cX11_see 19 = .ok (.baload, 1) := by decide +kernel
theorem dX11_see_20 : decode cX11_see 20 = .ok (.sipush 255, 3) := by decide +kernel
theorem dX11_see_23 : decode cX11_see 23 = .ok (.iand, 1) := by decide +kernel
theorem dX11_see_24 : decode cX11_see 24 = .ok (.goto 4, 3) := by decide +kernel
theorem dX11_see_27 : decode cX11_see 27 = .ok (.iconst (-1), 1) := by decide +kernel
theorem dX11_see_28 : decode cX11_see 28 = .ok (.ireturn, 1) := by decide +kernel
theorem dX11_token_0 : decode cX11_token 0 = .ok (.aload_n 0, 1) := by decide +kernel
theorem dX11_token_1 : decode cX11_token 1 = .ok (.invokevirtual 92, 3) := by decide +kernel
theorem dX11_token_4 : decode cX11_token 4 = .ok (.bipush 10, 2) := by decide +kernel
theorem dX11_token_6 : decode cX11_token 6 = .ok (.if_icmp .eq 12, 3) := by decide +kernel
theorem dX11_token_9 : decode cX11_token 9 = .ok (.aload_n 0, 1) := by decide +kernel
theorem dX11_token_10 : decode cX11_token 10 = .ok (.invokevirtual 92, 3) := by decide +kernel
theorem dX11_token_13 : decode cX11_token 13 = .ok (.bipush 32, 2) := by decide +kernel
theorem dX11_token_15 : decode cX11_token 15 = .ok (.if_icmp .ne 16, 3) := by decide +kernel
theorem dX11_token_18 : decode cX11_token 18 = .ok (.aload_n 0, 1) := by decide +kernel
theorem dX11_token_19 : decode cX11_token 19 = .ok (.dup, 1) := by decide +kernel
theorem dX11_token_20 : decode cX11_token 20 = .ok (.getfield 86, 3) := by decide +kernel
theorem dX11_token_23 : decode cX11_token 23 = .ok (.iconst 1, 1) := by decide +kernel
theorem dX11_token_24 : decode cX11_token 24 = .ok (.iadd, 1) := by decide +kernel
theorem dX11_token_25 : decode cX11_token 25 = .ok (.putfield 86, 3) := by decide +kernel
theorem dX11_token_28 : decode cX11_token 28 = .ok (.goto (-28), 3) := by decide +kernel
theorem dX11_token_31 : decode cX11_token 31 = .ok (.aload_n 0, 1) := by decide +kernel
theorem dX11_token_32 : decode cX11_token 32 = .ok (.aload_n 0, 1) := by decide +kernel
theorem dX11_token_33 : decode cX11_token 33 = .ok (.getfield 86, 3) := by decide +kernel
theorem dX11_token_36 : decode cX11_token 36 = .ok (.putfield 96, 3) := by decide +kernel
theorem dX11_token_39 : decode cX11_token 39 = .ok (.aload_n 0, 1) := by decide +kernel
theorem dX11_token_40 : decode cX11_token 40 = .ok (.invokevirtual 92, 3) := by decide +kernel
theorem dX11_token_43 : decode cX11_token 43 = .ok (.istore_n 1, 1) := by decide +kernel
theorem dX11_token_44 : decode cX11_token 44 = .ok (.aload_n 0, 1) := by decide +kernel
theorem dX11_token_45 : decode cX11_token 45 = .ok (.lconst 0, 1) := by decide +kernel
theorem dX11_token_46 : decode cX11_token 46 = .ok (.putfield 99, 3) := by decide +kernel
theorem dX11_token_49 : decode cX11_token 49 = .ok (.iconst 0, 1) := by decide +kernel
theorem dX11_token_50 : decode cX11_token 50 = .ok (.istore_n 2, 1) := by decide +kernel
theorem dX11_token_51 : decode cX11_token 51 = .ok (.iload_n 1, 1) := by decide +kernel
theorem dX11_token_52 : decode cX11_token 52 = .ok (.ifCond .ge 11, 3) := by decide +kernel
theorem dX11_token_55 : decode cX11_token 55 = .ok (.aload_n 0, 1) := by decide +kernel
theorem dX11_token_56 : decode cX11_token 56 = .ok (.iconst 0, 1) := by decide +kernel
theorem dX11_token_57 : decode cX11_token 57 = .ok (.putfield 103, 3) := by decide +kernel
theorem dX11_token_60 : decode cX11_token 60 = .ok (.goto 206, 3) := by decide +kernel
theorem dX11_token_63 : decode cX11_token 63 = .ok (.iload_n 1, 1) := by decide +kernel
theorem dX11_token_64 : decode cX11_token 64 = .ok (.bipush 97, 2) := by decide +kernel
theorem dX11_token_66 : decode cX11_token 66 = .ok (.bipush 122, 2) := by decide +kernel
theorem dX11_token_68 : decode cX11_token 68 = .ok (.invokestatic 78, 3) := by decide +kernel
theorem dX11_token_71 : decode cX11_token 71 = .ok (.ifCond .eq 76, 3) := by decide +kernel
theorem dX11_token_74 : decode cX11_token 74 = .ok (.aload_n 0, 1) := by decide +kernel
theorem dX11_token_75 : decode cX11_token 75 = .ok (.invokevirtual 92, 3) := by decide +kernel
theorem dX11_token_78 : decode cX11_token 78 = .ok (.bipush 97, 2) := by decide +kernel
theorem dX11_token_80 : decode cX11_token 80 = .ok (.bipush 122, 2) := by decide +kernel
theorem dX11_token_82 : decode cX11_token 82 = .ok (.invokestatic 78, 3) := by decide +kernel
theorem dX11_token_85 : decode cX11_token 85 = .ok (.ifCond .eq 36, 3) := by decide +kernel
theorem dX11_token_88 : decode cX11_token 88 = .ok (.aload_n 0, 1) := by decide +kernel
theorem dX11_token_89 : decode cX11_token 89 = .ok (.aload_n 0, 1) := by decide +kernel
theorem dX11_token_90 : decode cX11_token 90 = .ok (.getfield 99, 3) := by decide +kernel
theorem dX11_token_93 : decode cX11_token 93 = .ok (.bipush 8, 2) := by decide +kernel
theorem dX11_token_95 : decode cX11_token 95 = .ok (.lshl, 1) := by decide +kernel
theorem dX11_token_96 : decode cX11_token 96 = .ok (.aload_n 0, 1) := by decide +kernel
theorem dX11_token_97 : decode cX11_token 97 = .ok (.invokevirtual 92, 3) := by decide +kernel
theorem dX11_token_100 : decode cX11_token 100 = .ok (.i2l, 1) := by decide +kernel
theorem dX11_token_101 : decode cX11_token 101 = .ok (.lor, 1) := by decide +kernel
theorem dX11_token_102 : decode cX11_token 102 = .ok (.putfield 99, 3) := by decide +kernel
theorem dX11_token_105 : decode cX11_token 105 = .ok (.aload_n 0, 1) := by decide +kernel
theorem dX11_token_106 : decode cX11_token 106 = .ok (.dup, 1) := by decide +kernel
theorem dX11_token_107 : decode cX11_token 107 = .ok (.getfield 86, 3) := by decide +kernel
theorem dX11_token_110 : decode cX11_token 110 = .ok (.iconst 1, 1) := by decide +kernel
theorem dX11_token_111 : decode cX11_token 111 = .ok (.iadd, 1) := by decide +kernel
theorem dX11_token_112 : decode cX11_token 112 = .ok (.putfield 86, 3) := by decide +kernel
theorem dX11_token_115 : decode cX11_token 115 = .ok (.iinc 2 1, 3) := by decide +kernel
theorem dX11_token_118 : decode cX11_token 118 = .ok (.goto (-44), 3) := by decide +kernel
theorem dX11_token_121 : decode cX11_token 121 = .ok (.aload_n 0, 1) := by decide +kernel
theorem dX11_token_122 : decode cX11_token 122 = .ok (.iload_n 2, 1) := by decide +kernel
theorem dX11_token_123 : decode cX11_token 123 = .ok (.bipush 8, 2) := by decide +kernel
theorem dX11_token_125 : decode cX11_token 125 = .ok (.if_icmp .le 7, 3) := by decide +kernel
theorem dX11_token_128 : decode cX11_token 128 = .ok (.lconst 0, 1) := by decide +kernel
theorem dX11_token_129 : decode cX11_token 129 = .ok (.goto 7, 3) := by decide +kernel
theorem dX11_token_132 : decode cX11_token 132 = .ok (.aload_n 0, 1) := by decide +kernel
theorem dX11_token_133 : decode cX11_token 133 = .ok (.getfield 99, 3) := by decide +kernel
theorem dX11_token_136 : decode cX11_token 136 = .ok (.putfield 99, 3) := by decide +kernel
theorem dX11_token_139 : decode cX11_token 139 = .ok (.aload_n 0, 1) := by decide +kernel
theorem dX11_token_140 : decode cX11_token 140 = .ok (.iconst 2, 1) := by decide +kernel
theorem dX11_token_141 : decode cX11_token 141 = .ok (.putfield 103, 3) := by decide +kernel
theorem dX11_token_144 : decode cX11_token 144 = .ok (.goto 122, 3) := by decide +kernel
theorem dX11_token_147 : decode cX11_token 147 = .ok (.iload_n 1, 1) := by decide +kernel
theorem dX11_token_148 : decode cX11_token 148 = .ok (.bipush 48, 2) := by decide +kernel
theorem dX11_token_150 : decode cX11_token 150 = .ok (.bipush 57, 2) := by decide +kernel
theorem dX11_token_152 : decode cX11_token 152 = .ok (.invokestatic 78, 3) := by decide +kernel
theorem dX11_token_155 : decode cX11_token 155 = .ok (.ifCond .eq 86, 3) := by decide +kernel
theorem dX11_token_158 : decode cX11_token 158 = .ok (.aload_n 0, 1) := by decide +kernel
theorem dX11_token_159 : decode cX11_token 159 = .ok (.iconst 0, 1) := by decide +kernel
theorem dX11_token_160 : decode cX11_token 160 = .ok (.putfield 106, 3) := by decide +kernel
theorem dX11_token_163 : decode cX11_token 163 = .ok (.aload_n 0, 1) := by decide +kernel
theorem dX11_token_164 : decode cX11_token 164 = .ok (.invokevirtual 92, 3) := by decide +kernel
theorem dX11_token_167 : decode cX11_token 167 = .ok (.bipush 48, 2) := by decide +kernel
theorem dX11_token_169 : decode cX11_token 169 = .ok (.bipush 57, 2) := by decide +kernel
theorem dX11_token_171 : decode cX11_token 171 = .ok (.invokestatic 78, 3) := by decide +kernel
theorem dX11_token_174 : decode cX11_token 174 = .ok (.ifCond .eq 50, 3) := by decide +kernel
theorem dX11_token_177 : decode cX11_token 177 = .ok (.aload_n 0, 1) := by decide +kernel
theorem dX11_token_178 : decode cX11_token 178 = .ok (.iload_n 2, 1) := by decide +kernel
theorem dX11_token_179 : decode cX11_token 179 = .ok (.iconst 3, 1) := by decide +kernel
theorem dX11_token_180 : decode cX11_token 180 = .ok (.if_icmp .ge 21, 3) := by decide +kernel
theorem dX11_token_183 : decode cX11_token 183 = .ok (.bipush 10, 2) := by decide +kernel
theorem dX11_token_185 : decode cX11_token 185 = .ok (.aload_n 0, 1) := by decide +kernel
theorem dX11_token_186 : decode cX11_token 186 = .ok (.getfield 106, 3) := by decide +kernel
theorem dX11_token_189 : decode cX11_token 189 = .ok (.imul, 1) := by decide +kernel
theorem dX11_token_190 : decode cX11_token 190 = .ok (.aload_n 0, 1) := by decide +kernel
theorem dX11_token_191 : decode cX11_token 191 = .ok (.invokevirtual 92, 3) := by decide +kernel
theorem dX11_token_194 : decode cX11_token 194 = .ok (.iadd, 1) := by decide +kernel
theorem dX11_token_195 : decode cX11_token 195 = .ok (.bipush 48, 2) := by decide +kernel
theorem dX11_token_197 : decode cX11_token 197 = .ok (.isub, 1) := by decide +kernel
theorem dX11_token_198 : decode cX11_token 198 = .ok (.goto 7, 3) := by decide +kernel
theorem dX11_token_201 : decode cX11_token 201 = .ok (.aload_n 0, 1) := by decide +kernel
theorem dX11_token_202 : decode cX11_token 202 = .ok (.getfield 106, 3) := by decide +kernel
theorem dX11_token_205 : decode cX11_token 205 = .ok (.putfield 106, 3) := by decide +kernel
theorem dX11_token_208 : decode cX11_token 208 = .ok (.aload_n 0, 1) := by decide +kernel
theorem dX11_token_209 : decode cX11_token 209 = .ok (.dup, 1) := by decide +kernel
theorem dX11_token_210 : decode cX11_token 210 = .ok (.getfield 86, 3) := by decide +kernel
theorem dX11_token_213 : decode cX11_token 213 = .ok (.iconst 1, 1) := by decide +kernel
theorem dX11_token_214 : decode cX11_token 214 = .ok (.iadd, 1) := by decide +kernel
theorem dX11_token_215 : decode cX11_token 215 = .ok (.putfield 86, 3) := by decide +kernel
theorem dX11_token_218 : decode cX11_token 218 = .ok (.iinc 2 1, 3) := by decide +kernel
theorem dX11_token_221 : decode cX11_token 221 = .ok (.goto (-58), 3) := by decide +kernel
theorem dX11_token_224 : decode cX11_token 224 = .ok (.aload_n 0, 1) := by decide +kernel
theorem dX11_token_225 : decode cX11_token 225 = .ok (.iload_n 2, 1) := by decide +kernel
theorem dX11_token_226 : decode cX11_token 226 = .ok (.iconst 3, 1) := by decide +kernel
theorem dX11_token_227 : decode cX11_token 227 = .ok (.if_icmp .le 7, 3) := by decide +kernel
theorem dX11_token_230 : decode cX11_token 230 = .ok (.iconst 1, 1) := by decide +kernel
theorem dX11_token_231 : decode cX11_token 231 = .ok (.goto 4, 3) := by decide +kernel
theorem dX11_token_234 : decode cX11_token 234 = .ok (.iconst 3, 1) := by decide +kernel
theorem dX11_token_235 : decode cX11_token 235 = .ok (.putfield 103, 3) := by decide +kernel
theorem dX11_token_238 : decode cX11_token 238 = .ok (.goto 28, 3) := by decide +kernel
theorem dX11_token_241 : decode cX11_token 241 = .ok (.aload_n 0, 1) := by decide +kernel
theorem dX11_token_242 : decode cX11_token 242 = .ok (.dup, 1) := by decide +kernel
theorem dX11_token_243 : decode cX11_token 243 = .ok (.getfield 86, 3) := by decide +kernel
theorem dX11_token_246 : decode cX11_token 246 = .ok (.iconst 1, 1) := by decide +kernel
theorem dX11_token_247 : decode cX11_token 247 = .ok (.iadd, 1) := by decide +kernel
theorem dX11_token_248 : decode cX11_token 248 = .ok (.putfield 86, 3) := by decide +kernel
theorem dX11_token_251 : decode cX11_token 251 = .ok (.aload_n 0, 1) := by decide +kernel
theorem dX11_token_252 : decode cX11_token 252 = .ok (.iload_n 1, 1) := by decide +kernel
theorem dX11_token_253 : decode cX11_token 253 = .ok (.bipush 59, 2) := by decide +kernel
theorem dX11_token_255 : decode cX11_token 255 = .ok (.if_icmp .ne 7, 3) := by decide +kernel
theorem dX11_token_258 : decode cX11_token 258 = .ok (.iconst 4, 1) := by decide +kernel
theorem dX11_token_259 : decode cX11_token 259 = .ok (.goto 4, 3) := by decide +kernel
theorem dX11_token_262 : decode cX11_token 262 = .ok (.iconst 1, 1) := by decide +kernel
theorem dX11_token_263 : decode cX11_token 263 = .ok (.putfield 103, 3) := by decide +kernel
theorem dX11_token_266 : decode cX11_token 266 = .ok (.return_, 1) := by decide +kernel
set_option maxHeartbeats 4000000 in
set_option maxRecDepth 100000 in
theorem c_M_see {d : Nat} {u : Nat → Nat → Int32} {g : Nat → Nat → Int64} {ex : List MC}  (hd : 0 ≤ d) (hp0 : Bd 0 600 (u 162 8)) (hp1 : Bd 0 600 (u 162 9)) : CT con0 d 0 0 yX11_see cX11_see 1 (some .int) [.ref 162] (Wd u g ex) (fun r h2 => r = some (.int (mse u (u 162 8) (u 162 9))) ∧ h2 = Wd u g ex) := by
  refine CT_of (by decide) (Nat.le_of_ble_eq_true rfl) (fun x hq => ?_)
  show J x yX11_see cX11_see 1 (some .int) d 0 0 (Wd u g ex).length 0 [(0, .ref 162)] [] (Wd u g ex) 0 0
  refine J_aload_n (i := 0) (j := 0) dX11_see_0 rfl rfl ?_
  refine J_get (C := RX11) (T := TX11) (Z := 43) (ci := 11) (f := 8) dX11_see_1 inG11 rfl (by decide) k1272 wc_162 rfl ?_
  refine J_aload_n (i := 0) (j := 0) dX11_see_4 rfl rfl ?_
  refine J_get (C := RX11) (T := TX11) (Z := 43) (ci := 11) (f := 9) dX11_see_5 inG11 rfl (by decide) k1273 wc_162 rfl ?_
  refine J_icmp_ge (tgt := 27) dX11_see_8 (by decide) (fun c1 => ?_) (fun c1 => ?_)
  · refine J_iconst (v := (-1)) dX11_see_27 (by decide) ?_
    exact J_iret hq dX11_see_28 rfl wlen (Nat.le_refl _) (Nat.le_refl _) ⟨(congrArg (fun z => some (Value.int z)) (mse_2 c1)), rfl⟩
  · refine J_aload_n (i := 0) (j := 0) dX11_see_11 rfl rfl ?_
    refine J_get (C := RX11) (T := TX11) (Z := 43) (ci := 11) (f := 1) dX11_see_12 inG11 rfl (by decide) k1265 wc_162 rfl ?_
    refine J_aload_n (i := 0) (j := 0) dX11_see_15 rfl rfl ?_
    refine J_get (C := RX11) (T := TX11) (Z := 43) (ci := 11) (f := 8) dX11_see_16 inG11 rfl (by decide) k1272 wc_162 rfl ?_
    refine J_bald dX11_see_19 wc_163 (vin (bd_lt_hi hp0 (i_nle c1) hp1) (by decide)) ?_
    refine J_topi (fun v2 qv2 => ?_)
    refine J_sipush (v := 255) dX11_see_20 (by decide) ?_
    refine J_iand dX11_see_23 ?_
    refine J_goto (tgt := 28) dX11_see_24 (by decide) ?_
    exact J_iret hq dX11_see_28 rfl wlen (Nat.le_refl _) (Nat.le_refl _) ⟨(congrArg (fun z => some (Value.int z)) (mse_1 (i_nle c1) qv2)), rfl⟩
set_option maxHeartbeats 4000000 in
set_option maxRecDepth 100000 in
theorem c_M_token {d : Nat} {u : Nat → Nat → Int32} {g : Nat → Nat → Int64} {ex : List MC}  (hd : 1 ≤ d) (hp0 : Bd 0 600 (u 162 8)) (hp1 : Bd 0 600 (u 162 9)) (hp2 : Bd 0 999 (u 162 12)) : CT con0 d 0 0 yX11_token cX11_token 3 none [.ref 162] (Wd u g ex) (fun r h2 => ∃ (u2 : Nat → Nat → Int32) (g2 : Nat → Nat → Int64), r = none ∧ h2 = Wd u2 g2 ex ∧ Bd 0 600 (u2 162 8) ∧ Bd 0 600 (u2 162 10) ∧ Bd 0 4 (u2 162 11) ∧ Bd 0 999 (u2 162 12) ∧ (GV (u 162 8) (u2 162 8) (u2 162 11)) ∧ (∀ c, c ≠ 162 → u2 c = u c) ∧ (∀ j, j ≠ 8 → j ≠ 10 → j ≠ 11 → j ≠ 12 → u2 162 j = u 162 j)) := by
  refine CT_of (by decide) (Nat.le_of_ble_eq_true rfl) (fun x hq => ?_)
  show J x yX11_token cX11_token 3 none d 0 0 (Wd u g ex).length 0 [(0, .ref 162)] [] (Wd u g ex) 0 0
  have lp3109 : ∀ (n3110 : Nat) (u1553 : Nat → Nat → Int32), (∀ c, c ≠ 162 → u1553 c = u c) → (∀ j, j ≠ 8 → u1553 162 j = u 162 j) → Bd 0 600 (u1553 162 8) → u 162 8 ≤ u1553 162 8 → (600 - (u1553 162 8).toInt).toNat < n3110 → J x yX11_token cX11_token 3 none d 0 0 (Wd u g ex).length 0 [(0, .ref 162)] [] (Wd u1553 g ex) 0 0 := by
    intro n3110
    induction n3110 with
    | zero => intro u1553 fr1554 fc1555 bm1556 hI3113 hm3112; exact absurd hm3112 (Nat.not_lt_zero _)
    | succ n3110 ih3111 =>
      intro u1553 fr1554 fc1555 bm1556 hI3113 hm3112
      refine J_aload_n (i := 0) (j := 0) dX11_token_0 rfl rfl ?_
      refine J_callV (As := []) (rest := []) dX11_token_1 (c_M_see (d := 0) (u := u1553) (g := g) (ex := ex)   (by decide) bm1556 (bd_r (fc1555 9 (by decide)) hp1)) hq.n k1421 k1423 k39 wc_162 rfl rfl k97 k1424 np_X11_see (Nat.le_trans (by decide) hd) (by decide) (Nat.le_refl _) (Nat.le_refl _) wlen rfl (Nat.le_of_ble_eq_true rfl) (fun r_ h_ p3114 => ?_)
      obtain ⟨rfl, rfl⟩ := p3114
      refine J_ci (v := (mse u (u1553 162 8) (u 162 9))) (mse_c (fr1554 163 (by decide)) rfl (fc1555 9 (by decide))) ?_
      refine J_bipush (v := 10) dX11_token_4 (by decide) ?_
      refine J_icmp_eq (tgt := 18) dX11_token_6 (by decide) (fun c3115 => ?_) (fun c3115 => ?_)
      · refine J_aload_n (i := 0) (j := 0) dX11_token_18 rfl rfl ?_
        refine J_dup dX11_token_19 rfl ?_
        refine J_get (C := RX11) (T := TX11) (Z := 43) (ci := 11) (f := 8) dX11_token_20 inG11 rfl (by decide) k1272 wc_162 rfl ?_
        refine J_iconst (v := 1) dX11_token_23 (by decide) ?_
        refine J_iadd dX11_token_24 ?_
        obtain ⟨u3118, e3119⟩ : ∃ z, z = ms u1553 162 8 ((u1553 162 8) + 1) := ⟨_, rfl⟩
        refine J_put (C := RX11) (T := TX11) (Z := 43) (ci := 11) (f := 8) (ty0 := tyX11) dX11_token_25 inG11 rfl tyX11_ok nmX11 (by decide) k1272 rfl rfl wc_162 (Nat.le_of_ble_eq_true rfl) (fun _ _ => ⟨rfl, rfl⟩) (ws e3119 wk_162 rfl) ?_
        refine J_goto (tgt := 0) dX11_token_28 (by decide) ?_
        refine J_lv [0] rfl ?_
        exact ih3111 u3118 (fun c k0_ => ((ms_c e3119 k0_).trans (fr1554 c k0_))) (fun j k8_ => ((ms_i e3119 k8_).trans (fc1555 j k8_))) (bd_r (ms_e e3119) (bd_w (l := 0) (h := 600) (bd_add (l := 1) (h := 600) (bd_lt_hi bm1556 (mse_lt (bd_r c3115 (bd_c (v := 10) (lo := 10) (hi := 10) (by decide))) (by decide)) hp1) (bd_c (v := 1) (lo := 1) (hi := 1) (by decide)) (by decide)) (by decide))) (Int32.le_trans (Int32.le_of_lt (lt_s1 (bd_lt_hi bm1556 (mse_lt (bd_r c3115 (bd_c (v := 10) (lo := 10) (hi := 10) (by decide))) (by decide)) hp1) (by decide) hI3113)) (Int32.le_of_eq (ms_e e3119).symm)) (mu_up 1 bm1556 (ms_e e3119) (by decide) (bd_w (l := 1) (h := 600) (bd_r (ms_e e3119) (bd_add (l := 1) (h := 600) (bd_lt_hi bm1556 (mse_lt (bd_r c3115 (bd_c (v := 10) (lo := 10) (hi := 10) (by decide))) (by decide)) hp1) (bd_c (v := 1) (lo := 1) (hi := 1) (by decide)) (by decide))) (by decide)) hm3112)
      · refine J_aload_n (i := 0) (j := 0) dX11_token_9 rfl rfl ?_
        refine J_callV (As := []) (rest := []) dX11_token_10 (c_M_see (d := 0) (u := u1553) (g := g) (ex := ex)   (by decide) bm1556 (bd_r (fc1555 9 (by decide)) hp1)) hq.n k1421 k1423 k39 wc_162 rfl rfl k97 k1424 np_X11_see (Nat.le_trans (by decide) hd) (by decide) (Nat.le_refl _) (Nat.le_refl _) wlen rfl (Nat.le_of_ble_eq_true rfl) (fun r_ h_ p3120 => ?_)
        obtain ⟨rfl, rfl⟩ := p3120
        refine J_ci (v := (mse u (u1553 162 8) (u 162 9))) (mse_c (fr1554 163 (by decide)) rfl (fc1555 9 (by decide))) ?_
        refine J_bipush (v := 32) dX11_token_13 (by decide) ?_
        refine J_icmp_ne (tgt := 31) dX11_token_15 (by decide) (fun c3121 => ?_) (fun c3121 => ?_)
        · refine J_aload_n (i := 0) (j := 0) dX11_token_31 rfl rfl ?_
          refine J_aload_n (i := 0) (j := 0) dX11_token_32 rfl rfl ?_
          refine J_get (C := RX11) (T := TX11) (Z := 43) (ci := 11) (f := 8) dX11_token_33 inG11 rfl (by decide) k1272 wc_162 rfl ?_
          obtain ⟨u3122, e3123⟩ : ∃ z, z = ms u1553 162 10 (u1553 162 8) := ⟨_, rfl⟩
          refine J_put (C := RX11) (T := TX11) (Z := 43) (ci := 11) (f := 10) (ty0 := tyX11) dX11_token_36 inG11 rfl tyX11_ok nmX11 (by decide) k1274 rfl rfl wc_162 (Nat.le_of_ble_eq_true rfl) (fun _ _ => ⟨rfl, rfl⟩) (ws e3123 wk_162 rfl) ?_
          refine J_aload_n (i := 0) (j := 0) dX11_token_39 rfl rfl ?_
          refine J_callV (As := []) (rest := []) dX11_token_40 (c_M_see (d := 0) (u := u3122) (g := g) (ex := ex)   (by decide) (bd_r (ms_i e3123 (by decide)) bm1556) (bd_r ((ms_i e3123 (by decide)).trans (fc1555 9 (by decide))) hp1)) hq.n k1421 k1423 k39 wc_162 rfl rfl k97 k1424 np_X11_see (Nat.le_trans (by decide) hd) (by decide) (Nat.le_refl _) (Nat.le_refl _) wlen rfl (Nat.le_of_ble_eq_true rfl) (fun r_ h_ p3124 => ?_)
          obtain ⟨rfl, rfl⟩ := p3124
          refine J_ci (v := (mse u (u1553 162 8) (u 162 9))) (mse_c ((ms_c e3123 (by decide)).trans (fr1554 163 (by decide))) (ms_i e3123 (by decide)) ((ms_i e3123 (by decide)).trans (fc1555 9 (by decide)))) ?_
          refine J_istore_n (i := 1) (lw := [(1, .int (mse u (u1553 162 8) (u 162 9))), (0, .ref 162)]) dX11_token_43 rfl (by decide) rfl ?_
          refine J_aload_n (i := 0) (j := 1) dX11_token_44 rfl rfl ?_
          refine J_lconst (v := 0) dX11_token_45 (by decide) ?_
          obtain ⟨g3125, e3126⟩ : ∃ z, z = ml g 162 13 0 := ⟨_, rfl⟩
          refine J_put (C := RX11) (T := TX11) (Z := 43) (ci := 11) (f := 13) (ty0 := tyX11) dX11_token_46 inG11 rfl tyX11_ok nmX11 (by decide) k1277 rfl rfl wc_162 (Nat.le_of_ble_eq_true rfl) (fun _ _ => ⟨rfl, rfl⟩) (wsl e3126 wk_162 rfl) ?_
          refine J_iconst (v := 0) dX11_token_49 (by decide) ?_
          refine J_istore_n (i := 2) (lw := [(2, .int 0), (1, .int (mse u (u1553 162 8) (u 162 9))), (0, .ref 162)]) dX11_token_50 rfl (by decide) rfl ?_
          refine J_iload_n (i := 1) (j := 1) dX11_token_51 rfl rfl ?_
          refine J_if_ge (tgt := 63) dX11_token_52 (by decide) (fun c3127 => ?_) (fun c3127 => ?_)
          · refine J_iload_n (i := 1) (j := 1) dX11_token_63 rfl rfl ?_
            refine J_bipush (v := 97) dX11_token_64 (by decide) ?_
            refine J_bipush (v := 122) dX11_token_66 (by decide) ?_
            refine J_callS (As := [.int (mse u (u1553 162 8) (u 162 9)), .int 97, .int 122]) (rest := []) dX11_token_68 (c_M_inE (d := 0) (u := u3122) (g := g3125) (ex := ex) (v := (mse u (u1553 162 8) (u 162 9))) (low := 97) (high := 122)  (by decide) ) hq.n k1406 k1407 k97 k1408 np_X11_in (Nat.le_trans (by decide) hd) (by decide) (Nat.le_refl _) (Nat.le_refl _) wlen rfl (Nat.le_of_ble_eq_true rfl) (fun r_ h_ p3128 => ?_)
            obtain ⟨t3129, rfl, rfl, h3130, h3131, h3132⟩ := p3128
            refine J_ifB_eq (tgt := 147) dX11_token_71 (by decide) (fun c3133 => ?_) (fun c3133 => ?_)
            · refine J_iload_n (i := 1) (j := 1) dX11_token_147 rfl rfl ?_
              refine J_bipush (v := 48) dX11_token_148 (by decide) ?_
              refine J_bipush (v := 57) dX11_token_150 (by decide) ?_
              refine J_callS (As := [.int (mse u (u1553 162 8) (u 162 9)), .int 48, .int 57]) (rest := []) dX11_token_152 (c_M_inE (d := 0) (u := u3122) (g := g3125) (ex := ex) (v := (mse u (u1553 162 8) (u 162 9))) (low := 48) (high := 57)  (by decide) ) hq.n k1406 k1407 k97 k1408 np_X11_in (Nat.le_trans (by decide) hd) (by decide) (Nat.le_refl _) (Nat.le_refl _) wlen rfl (Nat.le_of_ble_eq_true rfl) (fun r_ h_ p3134 => ?_)
              obtain ⟨t3135, rfl, rfl, h3136, h3137, h3138⟩ := p3134
              refine J_ifB_eq (tgt := 241) dX11_token_155 (by decide) (fun c3139 => ?_) (fun c3139 => ?_)
              · refine J_aload_n (i := 0) (j := 2) dX11_token_241 rfl rfl ?_
                refine J_dup dX11_token_242 rfl ?_
                refine J_get (C := RX11) (T := TX11) (Z := 43) (ci := 11) (f := 8) dX11_token_243 inG11 rfl (by decide) k1272 wc_162 rfl ?_
                refine J_ci (v := u1553 162 8) (ms_i e3123 (by decide)) ?_
                refine J_iconst (v := 1) dX11_token_246 (by decide) ?_
                refine J_iadd dX11_token_247 ?_
                obtain ⟨u3140, e3141⟩ : ∃ z, z = ms u3122 162 8 ((u1553 162 8) + 1) := ⟨_, rfl⟩
                refine J_put (C := RX11) (T := TX11) (Z := 43) (ci := 11) (f := 8) (ty0 := tyX11) dX11_token_248 inG11 rfl tyX11_ok nmX11 (by decide) k1272 rfl rfl wc_162 (Nat.le_of_ble_eq_true rfl) (fun _ _ => ⟨rfl, rfl⟩) (ws e3141 wk_162 rfl) ?_
                refine J_aload_n (i := 0) (j := 2) dX11_token_251 rfl rfl ?_
                refine J_iload_n (i := 1) (j := 1) dX11_token_252 rfl rfl ?_
                refine J_bipush (v := 59) dX11_token_253 (by decide) ?_
                refine J_icmp_ne (tgt := 262) dX11_token_255 (by decide) (fun c3142 => ?_) (fun c3142 => ?_)
                · refine J_iconst (v := 1) dX11_token_262 (by decide) ?_
                  obtain ⟨u3143, e3144⟩ : ∃ z, z = ms u3140 162 11 1 := ⟨_, rfl⟩
                  refine J_put (C := RX11) (T := TX11) (Z := 43) (ci := 11) (f := 11) (ty0 := tyX11) dX11_token_263 inG11 rfl tyX11_ok nmX11 (by decide) k1275 rfl rfl wc_162 (Nat.le_of_ble_eq_true rfl) (fun _ _ => ⟨rfl, rfl⟩) (ws e3144 wk_162 rfl) ?_
                  exact J_vret hq dX11_token_266 rfl wlen (Nat.le_refl _) (Nat.le_refl _) ⟨u3143, g3125, rfl, rfl, (bd_r ((ms_i e3144 (by decide)).trans (ms_e e3141)) (bd_w (l := 0) (h := 600) (bd_add (l := 1) (h := 600) (bd_lt_hi bm1556 (mse_lt (bd_le_lo (mse_b (mse u (u1553 162 8) (u 162 9))) c3127 (bd_c (v := 0) (lo := 0) (hi := 0) (by decide))) (by decide)) hp1) (bd_c (v := 1) (lo := 1) (hi := 1) (by decide)) (by decide)) (by decide))), (bd_r ((ms_i e3144 (by decide)).trans ((ms_i e3141 (by decide)).trans (ms_e e3123))) (bd_w (l := 0) (h := 600) (bd_lt_hi bm1556 (mse_lt (bd_le_lo (mse_b (mse u (u1553 162 8) (u 162 9))) c3127 (bd_c (v := 0) (lo := 0) (hi := 0) (by decide))) (by decide)) hp1) (by decide))), (bd_r (ms_e e3144) (bd_w (l := 0) (h := 4) (bd_c (v := 1) (lo := 1) (hi := 1) (by decide)) (by decide))), (bd_r ((ms_i e3144 (by decide)).trans ((ms_i e3141 (by decide)).trans ((ms_i e3123 (by decide)).trans (fc1555 12 (by decide))))) hp2), (gv_r rfl ((ms_i e3144 (by decide)).trans (ms_e e3141)) (ms_e e3144) (gv_go hI3113 (lt_s1 (bd_lt_hi bm1556 (mse_lt (bd_le_lo (mse_b (mse u (u1553 162 8) (u 162 9))) c3127 (bd_c (v := 0) (lo := 0) (hi := 0) (by decide))) (by decide)) hp1) (by decide) (Int32.le_refl _)))), (fun c k0_ => ((ms_c e3144 k0_).trans ((ms_c e3141 k0_).trans ((ms_c e3123 k0_).trans (fr1554 c k0_))))), (fun j k8_ k10_ k11_ k12_ => ((ms_i e3144 k11_).trans ((ms_i e3141 k8_).trans ((ms_i e3123 k10_).trans (fc1555 j k8_)))))⟩
                · refine J_iconst (v := 4) dX11_token_258 (by decide) ?_
                  refine J_goto (tgt := 263) dX11_token_259 (by decide) ?_
                  obtain ⟨u3145, e3146⟩ : ∃ z, z = ms u3140 162 11 4 := ⟨_, rfl⟩
                  refine J_put (C := RX11) (T := TX11) (Z := 43) (ci := 11) (f := 11) (ty0 := tyX11) dX11_token_263 inG11 rfl tyX11_ok nmX11 (by decide) k1275 rfl rfl wc_162 (Nat.le_of_ble_eq_true rfl) (fun _ _ => ⟨rfl, rfl⟩) (ws e3146 wk_162 rfl) ?_
                  exact J_vret hq dX11_token_266 rfl wlen (Nat.le_refl _) (Nat.le_refl _) ⟨u3145, g3125, rfl, rfl, (bd_r ((ms_i e3146 (by decide)).trans (ms_e e3141)) (bd_w (l := 0) (h := 600) (bd_add (l := 1) (h := 600) (bd_lt_hi bm1556 (mse_lt (bd_le_lo (mse_b (mse u (u1553 162 8) (u 162 9))) c3127 (bd_c (v := 0) (lo := 0) (hi := 0) (by decide))) (by decide)) hp1) (bd_c (v := 1) (lo := 1) (hi := 1) (by decide)) (by decide)) (by decide))), (bd_r ((ms_i e3146 (by decide)).trans ((ms_i e3141 (by decide)).trans (ms_e e3123))) (bd_w (l := 0) (h := 600) (bd_lt_hi bm1556 (mse_lt (bd_le_lo (mse_b (mse u (u1553 162 8) (u 162 9))) c3127 (bd_c (v := 0) (lo := 0) (hi := 0) (by decide))) (by decide)) hp1) (by decide))), (bd_r (ms_e e3146) (bd_w (l := 0) (h := 4) (bd_c (v := 4) (lo := 4) (hi := 4) (by decide)) (by decide))), (bd_r ((ms_i e3146 (by decide)).trans ((ms_i e3141 (by decide)).trans ((ms_i e3123 (by decide)).trans (fc1555 12 (by decide))))) hp2), (gv_r rfl ((ms_i e3146 (by decide)).trans (ms_e e3141)) (ms_e e3146) (gv_go hI3113 (lt_s1 (bd_lt_hi bm1556 (mse_lt (bd_le_lo (mse_b (mse u (u1553 162 8) (u 162 9))) c3127 (bd_c (v := 0) (lo := 0) (hi := 0) (by decide))) (by decide)) hp1) (by decide) (Int32.le_refl _)))), (fun c k0_ => ((ms_c e3146 k0_).trans ((ms_c e3141 k0_).trans ((ms_c e3123 k0_).trans (fr1554 c k0_))))), (fun j k8_ k10_ k11_ k12_ => ((ms_i e3146 k11_).trans ((ms_i e3141 k8_).trans ((ms_i e3123 k10_).trans (fc1555 j k8_)))))⟩
              · refine J_aload_n (i := 0) (j := 2) dX11_token_158 rfl rfl ?_
                refine J_iconst (v := 0) dX11_token_159 (by decide) ?_
                obtain ⟨u3147, e3148⟩ : ∃ z, z = ms u3122 162 12 0 := ⟨_, rfl⟩
                refine J_put (C := RX11) (T := TX11) (Z := 43) (ci := 11) (f := 12) (ty0 := tyX11) dX11_token_160 inG11 rfl tyX11_ok nmX11 (by decide) k1276 rfl rfl wc_162 (Nat.le_of_ble_eq_true rfl) (fun _ _ => ⟨rfl, rfl⟩) (ws e3148 wk_162 rfl) ?_
                refine J_aload_n (i := 0) (j := 2) dX11_token_163 rfl rfl ?_
                refine J_callV (As := []) (rest := []) dX11_token_164 (c_M_see (d := 0) (u := u3147) (g := g3125) (ex := ex)   (by decide) (bd_r ((ms_i e3148 (by decide)).trans (ms_i e3123 (by decide))) bm1556) (bd_r ((ms_i e3148 (by decide)).trans ((ms_i e3123 (by decide)).trans (fc1555 9 (by decide)))) hp1)) hq.n k1421 k1423 k39 wc_162 rfl rfl k97 k1424 np_X11_see (Nat.le_trans (by decide) hd) (by decide) (Nat.le_refl _) (Nat.le_refl _) wlen rfl (Nat.le_of_ble_eq_true rfl) (fun r_ h_ p3149 => ?_)
                obtain ⟨rfl, rfl⟩ := p3149
                refine J_ci (v := (mse u (u1553 162 8) (u 162 9))) (mse_c ((ms_c e3148 (by decide)).trans ((ms_c e3123 (by decide)).trans (fr1554 163 (by decide)))) ((ms_i e3148 (by decide)).trans (ms_i e3123 (by decide))) ((ms_i e3148 (by decide)).trans ((ms_i e3123 (by decide)).trans (fc1555 9 (by decide))))) ?_
                refine J_bipush (v := 48) dX11_token_167 (by decide) ?_
                refine J_bipush (v := 57) dX11_token_169 (by decide) ?_
                refine J_callS (As := [.int (mse u (u1553 162 8) (u 162 9)), .int 48, .int 57]) (rest := []) dX11_token_171 (c_M_inE (d := 0) (u := u3147) (g := g3125) (ex := ex) (v := (mse u (u1553 162 8) (u 162 9))) (low := 48) (high := 57)  (by decide) ) hq.n k1406 k1407 k97 k1408 np_X11_in (Nat.le_trans (by decide) hd) (by decide) (Nat.le_refl _) (Nat.le_refl _) wlen rfl (Nat.le_of_ble_eq_true rfl) (fun r_ h_ p3150 => ?_)
                obtain ⟨t3151, rfl, rfl, h3152, h3153, h3154⟩ := p3150
                refine J_ifB_eq (tgt := 224) dX11_token_174 (by decide) (fun c3155 => ?_) (fun c3155 => ?_)
                · exact absurd ((h3154.mpr ⟨c_le (bd_le_hi (bd_le_lo (bd_le_lo (mse_b (mse u (u1553 162 8) (u 162 9))) c3127 (bd_c (v := 0) (lo := 0) (hi := 0) (by decide))) (h3136 c3139) (bd_c (v := 48) (lo := 48) (hi := 48) (by decide))) (h3137 c3139) (bd_c (v := 57) (lo := 57) (hi := 57) (by decide))) (by decide), le_cc (bd_le_hi (bd_le_lo (bd_le_lo (mse_b (mse u (u1553 162 8) (u 162 9))) c3127 (bd_c (v := 0) (lo := 0) (hi := 0) (by decide))) (h3136 c3139) (bd_c (v := 48) (lo := 48) (hi := 48) (by decide))) (h3137 c3139) (bd_c (v := 57) (lo := 57) (hi := 57) (by decide))) (by decide)⟩).symm.trans c3155) (by decide)
                · refine J_aload_n (i := 0) (j := 2) dX11_token_177 rfl rfl ?_
                  refine J_iload_n (i := 2) (j := 0) dX11_token_178 rfl rfl ?_
                  refine J_iconst (v := 3) dX11_token_179 (by decide) ?_
                  refine J_icmp_ge (tgt := 201) dX11_token_180 (by decide) (fun q => absurd q (by decide)) (fun _ => ?_)
                  refine J_bipush (v := 10) dX11_token_183 (by decide) ?_
                  refine J_aload_n (i := 0) (j := 2) dX11_token_185 rfl rfl ?_
                  refine J_get (C := RX11) (T := TX11) (Z := 43) (ci := 11) (f := 12) dX11_token_186 inG11 rfl (by decide) k1276 wc_162 rfl ?_
                  refine J_ci (v := 0) (ms_e e3148) ?_
                  refine J_imul dX11_token_189 ?_
                  refine J_ci (v := 0) (by decide) ?_
                  refine J_aload_n (i := 0) (j := 2) dX11_token_190 rfl rfl ?_
                  refine J_callV (As := []) (rest := [.int 0, .ref 162]) dX11_token_191 (c_M_see (d := 0) (u := u3147) (g := g3125) (ex := ex)   (by decide) (bd_r ((ms_i e3148 (by decide)).trans (ms_i e3123 (by decide))) bm1556) (bd_r ((ms_i e3148 (by decide)).trans ((ms_i e3123 (by decide)).trans (fc1555 9 (by decide)))) hp1)) hq.n k1421 k1423 k39 wc_162 rfl rfl k97 k1424 np_X11_see (Nat.le_trans (by decide) hd) (by decide) (Nat.le_refl _) (Nat.le_refl _) wlen rfl (Nat.le_of_ble_eq_true rfl) (fun r_ h_ p3444 => ?_)
                  obtain ⟨rfl, rfl⟩ := p3444
                  refine J_ci (v := (mse u (u1553 162 8) (u 162 9))) (mse_c ((ms_c e3148 (by decide)).trans ((ms_c e3123 (by decide)).trans (fr1554 163 (by decide)))) ((ms_i e3148 (by decide)).trans (ms_i e3123 (by decide))) ((ms_i e3148 (by decide)).trans ((ms_i e3123 (by decide)).trans (fc1555 9 (by decide))))) ?_
                  refine J_iadd dX11_token_194 ?_
                  refine J_bipush (v := 48) dX11_token_195 (by decide) ?_
                  refine J_isub dX11_token_197 ?_
                  refine J_goto (tgt := 205) dX11_token_198 (by decide) ?_
                  obtain ⟨u3445, e3446⟩ : ∃ z, z = ms u3147 162 12 (((0 : Int32) + (mse u (u1553 162 8) (u 162 9))) - 48) := ⟨_, rfl⟩
                  refine J_put (C := RX11) (T := TX11) (Z := 43) (ci := 11) (f := 12) (ty0 := tyX11) dX11_token_205 inG11 rfl tyX11_ok nmX11 (by decide) k1276 rfl rfl wc_162 (Nat.le_of_ble_eq_true rfl) (fun _ _ => ⟨rfl, rfl⟩) (ws e3446 wk_162 rfl) ?_
                  refine J_aload_n (i := 0) (j := 2) dX11_token_208 rfl rfl ?_
                  refine J_dup dX11_token_209 rfl ?_
                  refine J_get (C := RX11) (T := TX11) (Z := 43) (ci := 11) (f := 8) dX11_token_210 inG11 rfl (by decide) k1272 wc_162 rfl ?_
                  refine J_ci (v := u1553 162 8) ((ms_i e3446 (by decide)).trans ((ms_i e3148 (by decide)).trans (ms_i e3123 (by decide)))) ?_
                  refine J_iconst (v := 1) dX11_token_213 (by decide) ?_
                  refine J_iadd dX11_token_214 ?_
                  obtain ⟨u3447, e3448⟩ : ∃ z, z = ms u3445 162 8 ((u1553 162 8) + 1) := ⟨_, rfl⟩
                  refine J_put (C := RX11) (T := TX11) (Z := 43) (ci := 11) (f := 8) (ty0 := tyX11) dX11_token_215 inG11 rfl tyX11_ok nmX11 (by decide) k1272 rfl rfl wc_162 (Nat.le_of_ble_eq_true rfl) (fun _ _ => ⟨rfl, rfl⟩) (ws e3448 wk_162 rfl) ?_
                  refine J_iinc (i := 2) (j := 0) (v := 1) (lw := [(2, .int 1), (1, .int (mse u (u1553 162 8) (u 162 9))), (0, .ref 162)]) dX11_token_218 rfl (by decide) (by decide) rfl ?_
                  refine J_goto (tgt := 163) dX11_token_221 (by decide) ?_
                  have lp3876 : ∀ (n3877 : Nat) (w3838 : Int32) (u3839 : Nat → Nat → Int32), (∀ c, c ≠ 162 → u3839 c = u3447 c) → (∀ j, j ≠ 8 → j ≠ 12 → u3839 162 j = u3447 162 j) → Bd 1 600 (u3839 162 8) → Bd 0 9999 (u3839 162 12) → ((u1553 162 8) < (u3839 162 8) ∧ VI w3838 (u3839 162 12) ∧ w3838 ≤ (u3839 162 8)) → (600 - (u3839 162 8).toInt).toNat < n3877 → J x yX11_token cX11_token 3 none d 0 0 (Wd u g ex).length 163 [(0, .ref 162), (2, .int w3838)] [] (Wd u3839 g3125 ex) 0 0 := by
                    intro n3877
                    induction n3877 with
                    | zero => intro w3838 u3839 fr3840 fc3841 bm3842 bm3843 hI3880 hm3879; exact absurd hm3879 (Nat.not_lt_zero _)
                    | succ n3877 ih3878 =>
                      intro w3838 u3839 fr3840 fc3841 bm3842 bm3843 hI3880 hm3879
                      refine J_aload_n (i := 0) (j := 0) dX11_token_163 rfl rfl ?_
                      refine J_callV (As := []) (rest := []) dX11_token_164 (c_M_see (d := 0) (u := u3839) (g := g3125) (ex := ex)   (by decide) (bd_w (l := 0) (h := 600) bm3842 (by decide)) (bd_r ((fc3841 9 (by decide) (by decide)).trans ((ms_i e3448 (by decide)).trans ((ms_i e3446 (by decide)).trans ((ms_i e3148 (by decide)).trans ((ms_i e3123 (by decide)).trans (fc1555 9 (by decide))))))) (bd_w (l := 0) (h := 600) (bd_lt_lo hp1 (mse_lt (bd_le_hi (bd_le_lo (bd_le_lo (mse_b (mse u (u1553 162 8) (u 162 9))) c3127 (bd_c (v := 0) (lo := 0) (hi := 0) (by decide))) (h3136 c3139) (bd_c (v := 48) (lo := 48) (hi := 48) (by decide))) (h3137 c3139) (bd_c (v := 57) (lo := 57) (hi := 57) (by decide))) (by decide)) bm1556) (by decide)))) hq.n k1421 k1423 k39 wc_162 rfl rfl k97 k1424 np_X11_see (Nat.le_trans (by decide) hd) (by decide) (Nat.le_refl _) (Nat.le_refl _) wlen rfl (Nat.le_of_ble_eq_true rfl) (fun r_ h_ p3881 => ?_)
                      obtain ⟨rfl, rfl⟩ := p3881
                      refine J_ci (v := (mse u (u3839 162 8) (u 162 9))) (mse_c ((fr3840 163 (by decide)).trans ((ms_c e3448 (by decide)).trans ((ms_c e3446 (by decide)).trans ((ms_c e3148 (by decide)).trans ((ms_c e3123 (by decide)).trans (fr1554 163 (by decide))))))) rfl ((fc3841 9 (by decide) (by decide)).trans ((ms_i e3448 (by decide)).trans ((ms_i e3446 (by decide)).trans ((ms_i e3148 (by decide)).trans ((ms_i e3123 (by decide)).trans (fc1555 9 (by decide)))))))) ?_
                      refine J_bipush (v := 48) dX11_token_167 (by decide) ?_
                      refine J_bipush (v := 57) dX11_token_169 (by decide) ?_
                      refine J_callS (As := [.int (mse u (u3839 162 8) (u 162 9)), .int 48, .int 57]) (rest := []) dX11_token_171 (c_M_inE (d := 0) (u := u3839) (g := g3125) (ex := ex) (v := (mse u (u3839 162 8) (u 162 9))) (low := 48) (high := 57)  (by decide) ) hq.n k1406 k1407 k97 k1408 np_X11_in (Nat.le_trans (by decide) hd) (by decide) (Nat.le_refl _) (Nat.le_refl _) wlen rfl (Nat.le_of_ble_eq_true rfl) (fun r_ h_ p3882 => ?_)
                      obtain ⟨t3883, rfl, rfl, h3884, h3885, h3886⟩ := p3882
                      refine J_ifB_eq (tgt := 224) dX11_token_174 (by decide) (fun c3887 => ?_) (fun c3887 => ?_)
                      · refine J_aload_n (i := 0) (j := 0) dX11_token_224 rfl rfl ?_
                        refine J_iload_n (i := 2) (j := 1) dX11_token_225 rfl rfl ?_
                        refine J_iconst (v := 3) dX11_token_226 (by decide) ?_
                        refine J_icmp_le (tgt := 234) dX11_token_227 (by decide) (fun c3898 => ?_) (fun c3898 => ?_)
                        · refine J_iconst (v := 3) dX11_token_234 (by decide) ?_
                          obtain ⟨u3899, e3900⟩ : ∃ z, z = ms u3839 162 11 3 := ⟨_, rfl⟩
                          refine J_put (C := RX11) (T := TX11) (Z := 43) (ci := 11) (f := 11) (ty0 := tyX11) dX11_token_235 inG11 rfl tyX11_ok nmX11 (by decide) k1275 rfl rfl wc_162 (Nat.le_of_ble_eq_true rfl) (fun _ _ => ⟨rfl, rfl⟩) (ws e3900 wk_162 rfl) ?_
                          refine J_goto (tgt := 266) dX11_token_238 (by decide) ?_
                          exact J_vret hq dX11_token_266 rfl wlen (Nat.le_refl _) (Nat.le_refl _) ⟨u3899, g3125, rfl, rfl, (bd_r (ms_i e3900 (by decide)) (bd_w (l := 0) (h := 600) bm3842 (by decide))), (bd_r ((ms_i e3900 (by decide)).trans ((fc3841 10 (by decide) (by decide)).trans ((ms_i e3448 (by decide)).trans ((ms_i e3446 (by decide)).trans ((ms_i e3148 (by decide)).trans (ms_e e3123)))))) (bd_w (l := 0) (h := 600) (bd_lt_hi bm1556 (mse_lt (bd_le_hi (bd_le_lo (bd_le_lo (mse_b (mse u (u1553 162 8) (u 162 9))) c3127 (bd_c (v := 0) (lo := 0) (hi := 0) (by decide))) (h3136 c3139) (bd_c (v := 48) (lo := 48) (hi := 48) (by decide))) (h3137 c3139) (bd_c (v := 57) (lo := 57) (hi := 57) (by decide))) (by decide)) hp1) (by decide))), (bd_r (ms_e e3900) (bd_w (l := 0) (h := 4) (bd_c (v := 3) (lo := 3) (hi := 3) (by decide)) (by decide))), (bd_r (ms_i e3900 (by decide)) (vi_b (hI3880).2.1)), (gv_r rfl (ms_i e3900 (by decide)) (ms_e e3900) (gv_go hI3113 (hI3880).1)), (fun c k0_ => ((ms_c e3900 k0_).trans ((fr3840 c k0_).trans ((ms_c e3448 k0_).trans ((ms_c e3446 k0_).trans ((ms_c e3148 k0_).trans ((ms_c e3123 k0_).trans (fr1554 c k0_)))))))), (fun j k8_ k10_ k11_ k12_ => ((ms_i e3900 k11_).trans ((fc3841 j k8_ k12_).trans ((ms_i e3448 k8_).trans ((ms_i e3446 k12_).trans ((ms_i e3148 k12_).trans ((ms_i e3123 k10_).trans (fc1555 j k8_))))))))⟩
                        · refine J_iconst (v := 1) dX11_token_230 (by decide) ?_
                          refine J_goto (tgt := 235) dX11_token_231 (by decide) ?_
                          obtain ⟨u3901, e3902⟩ : ∃ z, z = ms u3839 162 11 1 := ⟨_, rfl⟩
                          refine J_put (C := RX11) (T := TX11) (Z := 43) (ci := 11) (f := 11) (ty0 := tyX11) dX11_token_235 inG11 rfl tyX11_ok nmX11 (by decide) k1275 rfl rfl wc_162 (Nat.le_of_ble_eq_true rfl) (fun _ _ => ⟨rfl, rfl⟩) (ws e3902 wk_162 rfl) ?_
                          refine J_goto (tgt := 266) dX11_token_238 (by decide) ?_
                          exact J_vret hq dX11_token_266 rfl wlen (Nat.le_refl _) (Nat.le_refl _) ⟨u3901, g3125, rfl, rfl, (bd_r (ms_i e3902 (by decide)) (bd_w (l := 0) (h := 600) bm3842 (by decide))), (bd_r ((ms_i e3902 (by decide)).trans ((fc3841 10 (by decide) (by decide)).trans ((ms_i e3448 (by decide)).trans ((ms_i e3446 (by decide)).trans ((ms_i e3148 (by decide)).trans (ms_e e3123)))))) (bd_w (l := 0) (h := 600) (bd_lt_hi bm1556 (mse_lt (bd_le_hi (bd_le_lo (bd_le_lo (mse_b (mse u (u1553 162 8) (u 162 9))) c3127 (bd_c (v := 0) (lo := 0) (hi := 0) (by decide))) (h3136 c3139) (bd_c (v := 48) (lo := 48) (hi := 48) (by decide))) (h3137 c3139) (bd_c (v := 57) (lo := 57) (hi := 57) (by decide))) (by decide)) hp1) (by decide))), (bd_r (ms_e e3902) (bd_w (l := 0) (h := 4) (bd_c (v := 1) (lo := 1) (hi := 1) (by decide)) (by decide))), (bd_r (ms_i e3902 (by decide)) (vi_b (hI3880).2.1)), (gv_r rfl (ms_i e3902 (by decide)) (ms_e e3902) (gv_go hI3113 (hI3880).1)), (fun c k0_ => ((ms_c e3902 k0_).trans ((fr3840 c k0_).trans ((ms_c e3448 k0_).trans ((ms_c e3446 k0_).trans ((ms_c e3148 k0_).trans ((ms_c e3123 k0_).trans (fr1554 c k0_)))))))), (fun j k8_ k10_ k11_ k12_ => ((ms_i e3902 k11_).trans ((fc3841 j k8_ k12_).trans ((ms_i e3448 k8_).trans ((ms_i e3446 k12_).trans ((ms_i e3148 k12_).trans ((ms_i e3123 k10_).trans (fc1555 j k8_))))))))⟩
                      · refine J_aload_n (i := 0) (j := 0) dX11_token_177 rfl rfl ?_
                        refine J_iload_n (i := 2) (j := 1) dX11_token_178 rfl rfl ?_
                        refine J_iconst (v := 3) dX11_token_179 (by decide) ?_
                        refine J_icmp_ge (tgt := 201) dX11_token_180 (by decide) (fun c3903 => ?_) (fun c3903 => ?_)
                        · refine J_aload_n (i := 0) (j := 0) dX11_token_201 rfl rfl ?_
                          refine J_get (C := RX11) (T := TX11) (Z := 43) (ci := 11) (f := 12) dX11_token_202 inG11 rfl (by decide) k1276 wc_162 rfl ?_
                          obtain ⟨u3904, e3905⟩ : ∃ z, z = ms u3839 162 12 (u3839 162 12) := ⟨_, rfl⟩
                          refine J_put (C := RX11) (T := TX11) (Z := 43) (ci := 11) (f := 12) (ty0 := tyX11) dX11_token_205 inG11 rfl tyX11_ok nmX11 (by decide) k1276 rfl rfl wc_162 (Nat.le_of_ble_eq_true rfl) (fun _ _ => ⟨rfl, rfl⟩) (ws e3905 wk_162 rfl) ?_
                          refine J_aload_n (i := 0) (j := 0) dX11_token_208 rfl rfl ?_
                          refine J_dup dX11_token_209 rfl ?_
                          refine J_get (C := RX11) (T := TX11) (Z := 43) (ci := 11) (f := 8) dX11_token_210 inG11 rfl (by decide) k1272 wc_162 rfl ?_
                          refine J_ci (v := u3839 162 8) (ms_i e3905 (by decide)) ?_
                          refine J_iconst (v := 1) dX11_token_213 (by decide) ?_
                          refine J_iadd dX11_token_214 ?_
                          obtain ⟨u3906, e3907⟩ : ∃ z, z = ms u3904 162 8 ((u3839 162 8) + 1) := ⟨_, rfl⟩
                          refine J_put (C := RX11) (T := TX11) (Z := 43) (ci := 11) (f := 8) (ty0 := tyX11) dX11_token_215 inG11 rfl tyX11_ok nmX11 (by decide) k1272 rfl rfl wc_162 (Nat.le_of_ble_eq_true rfl) (fun _ _ => ⟨rfl, rfl⟩) (ws e3907 wk_162 rfl) ?_
                          refine J_iinc (i := 2) (j := 1) (v := (w3838 + 1)) (lw := [(2, .int (w3838 + 1)), (0, .ref 162)]) dX11_token_218 rfl rfl (by decide) rfl ?_
                          refine J_goto (tgt := 163) dX11_token_221 (by decide) ?_
                          refine J_lv [1, 0] rfl ?_
                          exact ih3878 (w3838 + 1) u3906 (fun c k0_ => ((ms_c e3907 k0_).trans ((ms_c e3905 k0_).trans (fr3840 c k0_)))) (fun j k8_ k12_ => ((ms_i e3907 k8_).trans ((ms_i e3905 k12_).trans (fc3841 j k8_ k12_)))) (bd_r (ms_e e3907) (bd_w (l := 1) (h := 600) (bd_add (l := 2) (h := 600) (bd_lt_hi bm3842 (mse_lt (bd_le_hi (bd_le_lo (mse_b (mse u (u3839 162 8) (u 162 9))) (h3884 c3887) (bd_c (v := 48) (lo := 48) (hi := 48) (by decide))) (h3885 c3887) (bd_c (v := 57) (lo := 57) (hi := 57) (by decide))) (by decide)) (bd_lt_lo hp1 (mse_lt (bd_le_hi (bd_le_lo (bd_le_lo (mse_b (mse u (u1553 162 8) (u 162 9))) c3127 (bd_c (v := 0) (lo := 0) (hi := 0) (by decide))) (h3136 c3139) (bd_c (v := 48) (lo := 48) (hi := 48) (by decide))) (h3137 c3139) (bd_c (v := 57) (lo := 57) (hi := 57) (by decide))) (by decide)) bm1556)) (bd_c (v := 1) (lo := 1) (hi := 1) (by decide)) (by decide)) (by decide))) (bd_r ((ms_i e3907 (by decide)).trans (ms_e e3905)) (bd_w (l := 0) (h := 9999) (vi_b (hI3880).2.1) (by decide))) ⟨(lt_eq (lt_s1 (bd_lt_hi bm3842 (mse_lt (bd_le_hi (bd_le_lo (mse_b (mse u (u3839 162 8) (u 162 9))) (h3884 c3887) (bd_c (v := 48) (lo := 48) (hi := 48) (by decide))) (h3885 c3887) (bd_c (v := 57) (lo := 57) (hi := 57) (by decide))) (by decide)) (bd_lt_lo hp1 (mse_lt (bd_le_hi (bd_le_lo (bd_le_lo (mse_b (mse u (u1553 162 8) (u 162 9))) c3127 (bd_c (v := 0) (lo := 0) (hi := 0) (by decide))) (h3136 c3139) (bd_c (v := 48) (lo := 48) (hi := 48) (by decide))) (h3137 c3139) (bd_c (v := 57) (lo := 57) (hi := 57) (by decide))) (by decide)) bm1556)) (by decide) (Int32.le_of_lt (hI3880).1)) (ms_e e3907).symm), (vi_r ((ms_i e3907 (by decide)).trans (ms_e e3905)) (vi_k (hI3880).2.1 (vi_n (hI3880).2.1 (hI3880).2.2 (bd_w (l := 0) (h := 600) (bd_lt_hi bm3842 (mse_lt (bd_le_hi (bd_le_lo (mse_b (mse u (u3839 162 8) (u 162 9))) (h3884 c3887) (bd_c (v := 48) (lo := 48) (hi := 48) (by decide))) (h3885 c3887) (bd_c (v := 57) (lo := 57) (hi := 57) (by decide))) (by decide)) (bd_lt_lo hp1 (mse_lt (bd_le_hi (bd_le_lo (bd_le_lo (mse_b (mse u (u1553 162 8) (u 162 9))) c3127 (bd_c (v := 0) (lo := 0) (hi := 0) (by decide))) (h3136 c3139) (bd_c (v := 48) (lo := 48) (hi := 48) (by decide))) (h3137 c3139) (bd_c (v := 57) (lo := 57) (hi := 57) (by decide))) (by decide)) bm1556)) (by decide))) c3903)), (le_eq (le_s1 (vi_n (hI3880).2.1 (hI3880).2.2 (bd_w (l := 0) (h := 600) (bd_lt_hi bm3842 (mse_lt (bd_le_hi (bd_le_lo (mse_b (mse u (u3839 162 8) (u 162 9))) (h3884 c3887) (bd_c (v := 48) (lo := 48) (hi := 48) (by decide))) (h3885 c3887) (bd_c (v := 57) (lo := 57) (hi := 57) (by decide))) (by decide)) (bd_lt_lo hp1 (mse_lt (bd_le_hi (bd_le_lo (bd_le_lo (mse_b (mse u (u1553 162 8) (u 162 9))) c3127 (bd_c (v := 0) (lo := 0) (hi := 0) (by decide))) (h3136 c3139) (bd_c (v := 48) (lo := 48) (hi := 48) (by decide))) (h3137 c3139) (bd_c (v := 57) (lo := 57) (hi := 57) (by decide))) (by decide)) bm1556)) (by decide))) (bd_lt_hi bm3842 (mse_lt (bd_le_hi (bd_le_lo (mse_b (mse u (u3839 162 8) (u 162 9))) (h3884 c3887) (bd_c (v := 48) (lo := 48) (hi := 48) (by decide))) (h3885 c3887) (bd_c (v := 57) (lo := 57) (hi := 57) (by decide))) (by decide)) (bd_lt_lo hp1 (mse_lt (bd_le_hi (bd_le_lo (bd_le_lo (mse_b (mse u (u1553 162 8) (u 162 9))) c3127 (bd_c (v := 0) (lo := 0) (hi := 0) (by decide))) (h3136 c3139) (bd_c (v := 48) (lo := 48) (hi := 48) (by decide))) (h3137 c3139) (bd_c (v := 57) (lo := 57) (hi := 57) (by decide))) (by decide)) bm1556)) (by decide) (hI3880).2.2) (ms_e e3907).symm)⟩ (mu_up 1 bm3842 (ms_e e3907) (by decide) (bd_w (l := 2) (h := 600) (bd_r (ms_e e3907) (bd_add (l := 2) (h := 600) (bd_lt_hi bm3842 (mse_lt (bd_le_hi (bd_le_lo (mse_b (mse u (u3839 162 8) (u 162 9))) (h3884 c3887) (bd_c (v := 48) (lo := 48) (hi := 48) (by decide))) (h3885 c3887) (bd_c (v := 57) (lo := 57) (hi := 57) (by decide))) (by decide)) (bd_lt_lo hp1 (mse_lt (bd_le_hi (bd_le_lo (bd_le_lo (mse_b (mse u (u1553 162 8) (u 162 9))) c3127 (bd_c (v := 0) (lo := 0) (hi := 0) (by decide))) (h3136 c3139) (bd_c (v := 48) (lo := 48) (hi := 48) (by decide))) (h3137 c3139) (bd_c (v := 57) (lo := 57) (hi := 57) (by decide))) (by decide)) bm1556)) (bd_c (v := 1) (lo := 1) (hi := 1) (by decide)) (by decide))) (by decide)) hm3879)
                        · refine J_bipush (v := 10) dX11_token_183 (by decide) ?_
                          refine J_aload_n (i := 0) (j := 0) dX11_token_185 rfl rfl ?_
                          refine J_get (C := RX11) (T := TX11) (Z := 43) (ci := 11) (f := 12) dX11_token_186 inG11 rfl (by decide) k1276 wc_162 rfl ?_
                          refine J_imul dX11_token_189 ?_
                          refine J_aload_n (i := 0) (j := 0) dX11_token_190 rfl rfl ?_
                          refine J_callV (As := []) (rest := [.int ((10 : Int32) * (u3839 162 12)), .ref 162]) dX11_token_191 (c_M_see (d := 0) (u := u3839) (g := g3125) (ex := ex)   (by decide) (bd_w (l := 0) (h := 600) bm3842 (by decide)) (bd_r ((fc3841 9 (by decide) (by decide)).trans ((ms_i e3448 (by decide)).trans ((ms_i e3446 (by decide)).trans ((ms_i e3148 (by decide)).trans ((ms_i e3123 (by decide)).trans (fc1555 9 (by decide))))))) (bd_w (l := 0) (h := 600) (bd_lt_lo hp1 (mse_lt (bd_le_hi (bd_le_lo (bd_le_lo (mse_b (mse u (u1553 162 8) (u 162 9))) c3127 (bd_c (v := 0) (lo := 0) (hi := 0) (by decide))) (h3136 c3139) (bd_c (v := 48) (lo := 48) (hi := 48) (by decide))) (h3137 c3139) (bd_c (v := 57) (lo := 57) (hi := 57) (by decide))) (by decide)) bm1556) (by decide)))) hq.n k1421 k1423 k39 wc_162 rfl rfl k97 k1424 np_X11_see (Nat.le_trans (by decide) hd) (by decide) (Nat.le_refl _) (Nat.le_refl _) wlen rfl (Nat.le_of_ble_eq_true rfl) (fun r_ h_ p3908 => ?_)
                          obtain ⟨rfl, rfl⟩ := p3908
                          refine J_ci (v := (mse u (u3839 162 8) (u 162 9))) (mse_c ((fr3840 163 (by decide)).trans ((ms_c e3448 (by decide)).trans ((ms_c e3446 (by decide)).trans ((ms_c e3148 (by decide)).trans ((ms_c e3123 (by decide)).trans (fr1554 163 (by decide))))))) rfl ((fc3841 9 (by decide) (by decide)).trans ((ms_i e3448 (by decide)).trans ((ms_i e3446 (by decide)).trans ((ms_i e3148 (by decide)).trans ((ms_i e3123 (by decide)).trans (fc1555 9 (by decide)))))))) ?_
                          refine J_iadd dX11_token_194 ?_
                          refine J_bipush (v := 48) dX11_token_195 (by decide) ?_
                          refine J_isub dX11_token_197 ?_
                          refine J_goto (tgt := 205) dX11_token_198 (by decide) ?_
                          obtain ⟨u3909, e3910⟩ : ∃ z, z = ms u3839 162 12 ((((10 : Int32) * (u3839 162 12)) + (mse u (u3839 162 8) (u 162 9))) - 48) := ⟨_, rfl⟩
                          refine J_put (C := RX11) (T := TX11) (Z := 43) (ci := 11) (f := 12) (ty0 := tyX11) dX11_token_205 inG11 rfl tyX11_ok nmX11 (by decide) k1276 rfl rfl wc_162 (Nat.le_of_ble_eq_true rfl) (fun _ _ => ⟨rfl, rfl⟩) (ws e3910 wk_162 rfl) ?_
                          refine J_aload_n (i := 0) (j := 0) dX11_token_208 rfl rfl ?_
                          refine J_dup dX11_token_209 rfl ?_
                          refine J_get (C := RX11) (T := TX11) (Z := 43) (ci := 11) (f := 8) dX11_token_210 inG11 rfl (by decide) k1272 wc_162 rfl ?_
                          refine J_ci (v := u3839 162 8) (ms_i e3910 (by decide)) ?_
                          refine J_iconst (v := 1) dX11_token_213 (by decide) ?_
                          refine J_iadd dX11_token_214 ?_
                          obtain ⟨u3911, e3912⟩ : ∃ z, z = ms u3909 162 8 ((u3839 162 8) + 1) := ⟨_, rfl⟩
                          refine J_put (C := RX11) (T := TX11) (Z := 43) (ci := 11) (f := 8) (ty0 := tyX11) dX11_token_215 inG11 rfl tyX11_ok nmX11 (by decide) k1272 rfl rfl wc_162 (Nat.le_of_ble_eq_true rfl) (fun _ _ => ⟨rfl, rfl⟩) (ws e3912 wk_162 rfl) ?_
                          refine J_iinc (i := 2) (j := 1) (v := (w3838 + 1)) (lw := [(2, .int (w3838 + 1)), (0, .ref 162)]) dX11_token_218 rfl rfl (by decide) rfl ?_
                          refine J_goto (tgt := 163) dX11_token_221 (by decide) ?_
                          refine J_lv [1, 0] rfl ?_
                          exact ih3878 (w3838 + 1) u3911 (fun c k0_ => ((ms_c e3912 k0_).trans ((ms_c e3910 k0_).trans (fr3840 c k0_)))) (fun j k8_ k12_ => ((ms_i e3912 k8_).trans ((ms_i e3910 k12_).trans (fc3841 j k8_ k12_)))) (bd_r (ms_e e3912) (bd_w (l := 1) (h := 600) (bd_add (l := 2) (h := 600) (bd_lt_hi bm3842 (mse_lt (bd_le_hi (bd_le_lo (mse_b (mse u (u3839 162 8) (u 162 9))) (h3884 c3887) (bd_c (v := 48) (lo := 48) (hi := 48) (by decide))) (h3885 c3887) (bd_c (v := 57) (lo := 57) (hi := 57) (by decide))) (by decide)) (bd_lt_lo hp1 (mse_lt (bd_le_hi (bd_le_lo (bd_le_lo (mse_b (mse u (u1553 162 8) (u 162 9))) c3127 (bd_c (v := 0) (lo := 0) (hi := 0) (by decide))) (h3136 c3139) (bd_c (v := 48) (lo := 48) (hi := 48) (by decide))) (h3137 c3139) (bd_c (v := 57) (lo := 57) (hi := 57) (by decide))) (by decide)) bm1556)) (bd_c (v := 1) (lo := 1) (hi := 1) (by decide)) (by decide)) (by decide))) (bd_r ((ms_i e3912 (by decide)).trans (ms_e e3910)) (bd_sub (l := 0) (h := 9999) (bd_add (l := 48) (h := 10047) (bd_mul (l := 0) (h := 9990) (bd_c (v := 10) (lo := 10) (hi := 10) (by decide)) (vi_b (hI3880).2.1) (by decide)) (bd_le_hi (bd_le_lo (mse_b (mse u (u3839 162 8) (u 162 9))) (h3884 c3887) (bd_c (v := 48) (lo := 48) (hi := 48) (by decide))) (h3885 c3887) (bd_c (v := 57) (lo := 57) (hi := 57) (by decide))) (by decide)) (bd_c (v := 48) (lo := 48) (hi := 48) (by decide)) (by decide))) ⟨(lt_eq (lt_s1 (bd_lt_hi bm3842 (mse_lt (bd_le_hi (bd_le_lo (mse_b (mse u (u3839 162 8) (u 162 9))) (h3884 c3887) (bd_c (v := 48) (lo := 48) (hi := 48) (by decide))) (h3885 c3887) (bd_c (v := 57) (lo := 57) (hi := 57) (by decide))) (by decide)) (bd_lt_lo hp1 (mse_lt (bd_le_hi (bd_le_lo (bd_le_lo (mse_b (mse u (u1553 162 8) (u 162 9))) c3127 (bd_c (v := 0) (lo := 0) (hi := 0) (by decide))) (h3136 c3139) (bd_c (v := 48) (lo := 48) (hi := 48) (by decide))) (h3137 c3139) (bd_c (v := 57) (lo := 57) (hi := 57) (by decide))) (by decide)) bm1556)) (by decide) (Int32.le_of_lt (hI3880).1)) (ms_e e3912).symm), (vi_r ((ms_i e3912 (by decide)).trans (ms_e e3910)) (vi_s (hI3880).2.1 (vi_n (hI3880).2.1 (hI3880).2.2 (bd_w (l := 0) (h := 600) (bd_lt_hi bm3842 (mse_lt (bd_le_hi (bd_le_lo (mse_b (mse u (u3839 162 8) (u 162 9))) (h3884 c3887) (bd_c (v := 48) (lo := 48) (hi := 48) (by decide))) (h3885 c3887) (bd_c (v := 57) (lo := 57) (hi := 57) (by decide))) (by decide)) (bd_lt_lo hp1 (mse_lt (bd_le_hi (bd_le_lo (bd_le_lo (mse_b (mse u (u1553 162 8) (u 162 9))) c3127 (bd_c (v := 0) (lo := 0) (hi := 0) (by decide))) (h3136 c3139) (bd_c (v := 48) (lo := 48) (hi := 48) (by decide))) (h3137 c3139) (bd_c (v := 57) (lo := 57) (hi := 57) (by decide))) (by decide)) bm1556)) (by decide))) (i_nle c3903) (bd_le_hi (bd_le_lo (mse_b (mse u (u3839 162 8) (u 162 9))) (h3884 c3887) (bd_c (v := 48) (lo := 48) (hi := 48) (by decide))) (h3885 c3887) (bd_c (v := 57) (lo := 57) (hi := 57) (by decide))))), (le_eq (le_s1 (vi_n (hI3880).2.1 (hI3880).2.2 (bd_w (l := 0) (h := 600) (bd_lt_hi bm3842 (mse_lt (bd_le_hi (bd_le_lo (mse_b (mse u (u3839 162 8) (u 162 9))) (h3884 c3887) (bd_c (v := 48) (lo := 48) (hi := 48) (by decide))) (h3885 c3887) (bd_c (v := 57) (lo := 57) (hi := 57) (by decide))) (by decide)) (bd_lt_lo hp1 (mse_lt (bd_le_hi (bd_le_lo (bd_le_lo (mse_b (mse u (u1553 162 8) (u 162 9))) c3127 (bd_c (v := 0) (lo := 0) (hi := 0) (by decide))) (h3136 c3139) (bd_c (v := 48) (lo := 48) (hi := 48) (by decide))) (h3137 c3139) (bd_c (v := 57) (lo := 57) (hi := 57) (by decide))) (by decide)) bm1556)) (by decide))) (bd_lt_hi bm3842 (mse_lt (bd_le_hi (bd_le_lo (mse_b (mse u (u3839 162 8) (u 162 9))) (h3884 c3887) (bd_c (v := 48) (lo := 48) (hi := 48) (by decide))) (h3885 c3887) (bd_c (v := 57) (lo := 57) (hi := 57) (by decide))) (by decide)) (bd_lt_lo hp1 (mse_lt (bd_le_hi (bd_le_lo (bd_le_lo (mse_b (mse u (u1553 162 8) (u 162 9))) c3127 (bd_c (v := 0) (lo := 0) (hi := 0) (by decide))) (h3136 c3139) (bd_c (v := 48) (lo := 48) (hi := 48) (by decide))) (h3137 c3139) (bd_c (v := 57) (lo := 57) (hi := 57) (by decide))) (by decide)) bm1556)) (by decide) (hI3880).2.2) (ms_e e3912).symm)⟩ (mu_up 1 bm3842 (ms_e e3912) (by decide) (bd_w (l := 2) (h := 600) (bd_r (ms_e e3912) (bd_add (l := 2) (h := 600) (bd_lt_hi bm3842 (mse_lt (bd_le_hi (bd_le_lo (mse_b (mse u (u3839 162 8) (u 162 9))) (h3884 c3887) (bd_c (v := 48) (lo := 48) (hi := 48) (by decide))) (h3885 c3887) (bd_c (v := 57) (lo := 57) (hi := 57) (by decide))) (by decide)) (bd_lt_lo hp1 (mse_lt (bd_le_hi (bd_le_lo (bd_le_lo (mse_b (mse u (u1553 162 8) (u 162 9))) c3127 (bd_c (v := 0) (lo := 0) (hi := 0) (by decide))) (h3136 c3139) (bd_c (v := 48) (lo := 48) (hi := 48) (by decide))) (h3137 c3139) (bd_c (v := 57) (lo := 57) (hi := 57) (by decide))) (by decide)) bm1556)) (bd_c (v := 1) (lo := 1) (hi := 1) (by decide)) (by decide))) (by decide)) hm3879)
                  refine J_lv [2, 0] rfl ?_
                  exact lp3876 _ (1 : Int32) u3447 (fun c k0_ => rfl) (fun j k8_ k12_ => rfl) (bd_r (ms_e e3448) (bd_add (l := 1) (h := 600) (bd_lt_hi bm1556 (mse_lt (bd_le_hi (bd_le_lo (bd_le_lo (mse_b (mse u (u1553 162 8) (u 162 9))) c3127 (bd_c (v := 0) (lo := 0) (hi := 0) (by decide))) (h3136 c3139) (bd_c (v := 48) (lo := 48) (hi := 48) (by decide))) (h3137 c3139) (bd_c (v := 57) (lo := 57) (hi := 57) (by decide))) (by decide)) hp1) (bd_c (v := 1) (lo := 1) (hi := 1) (by decide)) (by decide))) (bd_r ((ms_i e3448 (by decide)).trans (ms_e e3446)) (bd_w (l := 0) (h := 9999) (bd_sub (l := 0) (h := 9) (bd_add (l := 48) (h := 57) (bd_c (v := 0) (lo := 0) (hi := 0) (by decide)) (bd_le_hi (bd_le_lo (bd_le_lo (mse_b (mse u (u1553 162 8) (u 162 9))) c3127 (bd_c (v := 0) (lo := 0) (hi := 0) (by decide))) (h3136 c3139) (bd_c (v := 48) (lo := 48) (hi := 48) (by decide))) (h3137 c3139) (bd_c (v := 57) (lo := 57) (hi := 57) (by decide))) (by decide)) (bd_c (v := 48) (lo := 48) (hi := 48) (by decide)) (by decide)) (by decide))) ⟨(lt_eq (lt_s1 (bd_lt_hi bm1556 (mse_lt (bd_le_hi (bd_le_lo (bd_le_lo (mse_b (mse u (u1553 162 8) (u 162 9))) c3127 (bd_c (v := 0) (lo := 0) (hi := 0) (by decide))) (h3136 c3139) (bd_c (v := 48) (lo := 48) (hi := 48) (by decide))) (h3137 c3139) (bd_c (v := 57) (lo := 57) (hi := 57) (by decide))) (by decide)) hp1) (by decide) (Int32.le_refl _)) (ms_e e3448).symm), (vi_r ((ms_i e3448 (by decide)).trans (ms_e e3446)) (vi_1 (bd_le_hi (bd_le_lo (bd_le_lo (mse_b (mse u (u1553 162 8) (u 162 9))) c3127 (bd_c (v := 0) (lo := 0) (hi := 0) (by decide))) (h3136 c3139) (bd_c (v := 48) (lo := 48) (hi := 48) (by decide))) (h3137 c3139) (bd_c (v := 57) (lo := 57) (hi := 57) (by decide))))), (le_eq (one_le (bd_lt_hi bm1556 (mse_lt (bd_le_hi (bd_le_lo (bd_le_lo (mse_b (mse u (u1553 162 8) (u 162 9))) c3127 (bd_c (v := 0) (lo := 0) (hi := 0) (by decide))) (h3136 c3139) (bd_c (v := 48) (lo := 48) (hi := 48) (by decide))) (h3137 c3139) (bd_c (v := 57) (lo := 57) (hi := 57) (by decide))) (by decide)) hp1) (by decide)) (ms_e e3448).symm)⟩ (Nat.lt_succ_self _)
            · refine J_aload_n (i := 0) (j := 2) dX11_token_74 rfl rfl ?_
              refine J_callV (As := []) (rest := []) dX11_token_75 (c_M_see (d := 0) (u := u3122) (g := g3125) (ex := ex)   (by decide) (bd_r (ms_i e3123 (by decide)) bm1556) (bd_r ((ms_i e3123 (by decide)).trans (fc1555 9 (by decide))) hp1)) hq.n k1421 k1423 k39 wc_162 rfl rfl k97 k1424 np_X11_see (Nat.le_trans (by decide) hd) (by decide) (Nat.le_refl _) (Nat.le_refl _) wlen rfl (Nat.le_of_ble_eq_true rfl) (fun r_ h_ p3913 => ?_)
              obtain ⟨rfl, rfl⟩ := p3913
              refine J_ci (v := (mse u (u1553 162 8) (u 162 9))) (mse_c ((ms_c e3123 (by decide)).trans (fr1554 163 (by decide))) (ms_i e3123 (by decide)) ((ms_i e3123 (by decide)).trans (fc1555 9 (by decide)))) ?_
              refine J_bipush (v := 97) dX11_token_78 (by decide) ?_
              refine J_bipush (v := 122) dX11_token_80 (by decide) ?_
              refine J_callS (As := [.int (mse u (u1553 162 8) (u 162 9)), .int 97, .int 122]) (rest := []) dX11_token_82 (c_M_inE (d := 0) (u := u3122) (g := g3125) (ex := ex) (v := (mse u (u1553 162 8) (u 162 9))) (low := 97) (high := 122)  (by decide) ) hq.n k1406 k1407 k97 k1408 np_X11_in (Nat.le_trans (by decide) hd) (by decide) (Nat.le_refl _) (Nat.le_refl _) wlen rfl (Nat.le_of_ble_eq_true rfl) (fun r_ h_ p3914 => ?_)
              obtain ⟨t3915, rfl, rfl, h3916, h3917, h3918⟩ := p3914
              refine J_ifB_eq (tgt := 121) dX11_token_85 (by decide) (fun c3919 => ?_) (fun c3919 => ?_)
              · exact absurd ((h3918.mpr ⟨c_le (bd_le_hi (bd_le_lo (bd_le_lo (mse_b (mse u (u1553 162 8) (u 162 9))) c3127 (bd_c (v := 0) (lo := 0) (hi := 0) (by decide))) (h3130 c3133) (bd_c (v := 97) (lo := 97) (hi := 97) (by decide))) (h3131 c3133) (bd_c (v := 122) (lo := 122) (hi := 122) (by decide))) (by decide), le_cc (bd_le_hi (bd_le_lo (bd_le_lo (mse_b (mse u (u1553 162 8) (u 162 9))) c3127 (bd_c (v := 0) (lo := 0) (hi := 0) (by decide))) (h3130 c3133) (bd_c (v := 97) (lo := 97) (hi := 97) (by decide))) (h3131 c3133) (bd_c (v := 122) (lo := 122) (hi := 122) (by decide))) (by decide)⟩).symm.trans c3919) (by decide)
              · refine J_aload_n (i := 0) (j := 2) dX11_token_88 rfl rfl ?_
                refine J_aload_n (i := 0) (j := 2) dX11_token_89 rfl rfl ?_
                refine J_get (C := RX11) (T := TX11) (Z := 43) (ci := 11) (f := 13) dX11_token_90 inG11 rfl (by decide) k1277 wc_162 rfl ?_
                refine J_topl (fun l4186 _ => ?_)
                refine J_bipush (v := 8) dX11_token_93 (by decide) ?_
                refine J_lshl dX11_token_95 rfl ?_
                refine J_topl (fun l4187 _ => ?_)
                refine J_aload_n (i := 0) (j := 2) dX11_token_96 rfl rfl ?_
                refine J_callV (As := []) (rest := [.long l4187, .ref 162]) dX11_token_97 (c_M_see (d := 0) (u := u3122) (g := g3125) (ex := ex)   (by decide) (bd_r (ms_i e3123 (by decide)) bm1556) (bd_r ((ms_i e3123 (by decide)).trans (fc1555 9 (by decide))) hp1)) hq.n k1421 k1423 k39 wc_162 rfl rfl k97 k1424 np_X11_see (Nat.le_trans (by decide) hd) (by decide) (Nat.le_refl _) (Nat.le_refl _) wlen rfl (Nat.le_of_ble_eq_true rfl) (fun r_ h_ p4188 => ?_)
                obtain ⟨rfl, rfl⟩ := p4188
                refine J_ci (v := (mse u (u1553 162 8) (u 162 9))) (mse_c ((ms_c e3123 (by decide)).trans (fr1554 163 (by decide))) (ms_i e3123 (by decide)) ((ms_i e3123 (by decide)).trans (fc1555 9 (by decide)))) ?_
                refine J_i2l dX11_token_100 rfl ?_
                refine J_topl (fun l4189 _ => ?_)
                refine J_lor dX11_token_101 ?_
                refine J_topl (fun l4190 _ => ?_)
                obtain ⟨g4191, e4192⟩ : ∃ z, z = ml g3125 162 13 l4190 := ⟨_, rfl⟩
                refine J_put (C := RX11) (T := TX11) (Z := 43) (ci := 11) (f := 13) (ty0 := tyX11) dX11_token_102 inG11 rfl tyX11_ok nmX11 (by decide) k1277 rfl rfl wc_162 (Nat.le_of_ble_eq_true rfl) (fun _ _ => ⟨rfl, rfl⟩) (wsl e4192 wk_162 rfl) ?_
                refine J_aload_n (i := 0) (j := 2) dX11_token_105 rfl rfl ?_
                refine J_dup dX11_token_106 rfl ?_
                refine J_get (C := RX11) (T := TX11) (Z := 43) (ci := 11) (f := 8) dX11_token_107 inG11 rfl (by decide) k1272 wc_162 rfl ?_
                refine J_ci (v := u1553 162 8) (ms_i e3123 (by decide)) ?_
                refine J_iconst (v := 1) dX11_token_110 (by decide) ?_
                refine J_iadd dX11_token_111 ?_
                obtain ⟨u4193, e4194⟩ : ∃ z, z = ms u3122 162 8 ((u1553 162 8) + 1) := ⟨_, rfl⟩
                refine J_put (C := RX11) (T := TX11) (Z := 43) (ci := 11) (f := 8) (ty0 := tyX11) dX11_token_112 inG11 rfl tyX11_ok nmX11 (by decide) k1272 rfl rfl wc_162 (Nat.le_of_ble_eq_true rfl) (fun _ _ => ⟨rfl, rfl⟩) (ws e4194 wk_162 rfl) ?_
                refine J_iinc (i := 2) (j := 0) (v := 1) (lw := [(2, .int 1), (1, .int (mse u (u1553 162 8) (u 162 9))), (0, .ref 162)]) dX11_token_115 rfl (by decide) (by decide) rfl ?_
                refine J_goto (tgt := 74) dX11_token_118 (by decide) ?_
                have lp4623 : ∀ (n4624 : Nat) (w4583 : Int32) (u4584 : Nat → Nat → Int32) (g4588 : Nat → Nat → Int64), (∀ c, c ≠ 162 → u4584 c = u4193 c) → (∀ j, j ≠ 8 → u4584 162 j = u4193 162 j) → Bd 1 600 (u4584 162 8) → (u1553 162 8) < (u4584 162 8) → (600 - (u4584 162 8).toInt).toNat < n4624 → J x yX11_token cX11_token 3 none d 0 0 (Wd u g ex).length 74 [(0, .ref 162), (2, .int w4583)] [] (Wd u4584 g4588 ex) 0 0 := by
                  intro n4624
                  induction n4624 with
                  | zero => intro w4583 u4584 g4588 fr4585 fc4586 bm4587 hI4627 hm4626; exact absurd hm4626 (Nat.not_lt_zero _)
                  | succ n4624 ih4625 =>
                    intro w4583 u4584 g4588 fr4585 fc4586 bm4587 hI4627 hm4626
                    refine J_aload_n (i := 0) (j := 0) dX11_token_74 rfl rfl ?_
                    refine J_callV (As := []) (rest := []) dX11_token_75 (c_M_see (d := 0) (u := u4584) (g := g4588) (ex := ex)   (by decide) (bd_w (l := 0) (h := 600) bm4587 (by decide)) (bd_r ((fc4586 9 (by decide)).trans ((ms_i e4194 (by decide)).trans ((ms_i e3123 (by decide)).trans (fc1555 9 (by decide))))) (bd_w (l := 0) (h := 600) (bd_lt_lo hp1 (mse_lt (bd_le_hi (bd_le_lo (bd_le_lo (mse_b (mse u (u1553 162 8) (u 162 9))) c3127 (bd_c (v := 0) (lo := 0) (hi := 0) (by decide))) (h3130 c3133) (bd_c (v := 97) (lo := 97) (hi := 97) (by decide))) (h3131 c3133) (bd_c (v := 122) (lo := 122) (hi := 122) (by decide))) (by decide)) bm1556) (by decide)))) hq.n k1421 k1423 k39 wc_162 rfl rfl k97 k1424 np_X11_see (Nat.le_trans (by decide) hd) (by decide) (Nat.le_refl _) (Nat.le_refl _) wlen rfl (Nat.le_of_ble_eq_true rfl) (fun r_ h_ p4628 => ?_)
                    obtain ⟨rfl, rfl⟩ := p4628
                    refine J_ci (v := (mse u (u4584 162 8) (u 162 9))) (mse_c ((fr4585 163 (by decide)).trans ((ms_c e4194 (by decide)).trans ((ms_c e3123 (by decide)).trans (fr1554 163 (by decide))))) rfl ((fc4586 9 (by decide)).trans ((ms_i e4194 (by decide)).trans ((ms_i e3123 (by decide)).trans (fc1555 9 (by decide)))))) ?_
                    refine J_bipush (v := 97) dX11_token_78 (by decide) ?_
                    refine J_bipush (v := 122) dX11_token_80 (by decide) ?_
                    refine J_callS (As := [.int (mse u (u4584 162 8) (u 162 9)), .int 97, .int 122]) (rest := []) dX11_token_82 (c_M_inE (d := 0) (u := u4584) (g := g4588) (ex := ex) (v := (mse u (u4584 162 8) (u 162 9))) (low := 97) (high := 122)  (by decide) ) hq.n k1406 k1407 k97 k1408 np_X11_in (Nat.le_trans (by decide) hd) (by decide) (Nat.le_refl _) (Nat.le_refl _) wlen rfl (Nat.le_of_ble_eq_true rfl) (fun r_ h_ p4629 => ?_)
                    obtain ⟨t4630, rfl, rfl, h4631, h4632, h4633⟩ := p4629
                    refine J_ifB_eq (tgt := 121) dX11_token_85 (by decide) (fun c4634 => ?_) (fun c4634 => ?_)
                    · refine J_aload_n (i := 0) (j := 0) dX11_token_121 rfl rfl ?_
                      refine J_iload_n (i := 2) (j := 1) dX11_token_122 rfl rfl ?_
                      refine J_bipush (v := 8) dX11_token_123 (by decide) ?_
                      have jn4647 : ∀ (w4646 : Int64), J x yX11_token cX11_token 3 none d 0 0 (Wd u g ex).length 136 [(0, .ref 162)] [.long w4646, .ref 162] (Wd u4584 g4588 ex) 0 0 := by
                        intro w4646
                        obtain ⟨g4648, e4649⟩ : ∃ z, z = ml g4588 162 13 w4646 := ⟨_, rfl⟩
                        refine J_put (C := RX11) (T := TX11) (Z := 43) (ci := 11) (f := 13) (ty0 := tyX11) dX11_token_136 inG11 rfl tyX11_ok nmX11 (by decide) k1277 rfl rfl wc_162 (Nat.le_of_ble_eq_true rfl) (fun _ _ => ⟨rfl, rfl⟩) (wsl e4649 wk_162 rfl) ?_
                        refine J_aload_n (i := 0) (j := 0) dX11_token_139 rfl rfl ?_
                        refine J_iconst (v := 2) dX11_token_140 (by decide) ?_
                        obtain ⟨u4650, e4651⟩ : ∃ z, z = ms u4584 162 11 2 := ⟨_, rfl⟩
                        refine J_put (C := RX11) (T := TX11) (Z := 43) (ci := 11) (f := 11) (ty0 := tyX11) dX11_token_141 inG11 rfl tyX11_ok nmX11 (by decide) k1275 rfl rfl wc_162 (Nat.le_of_ble_eq_true rfl) (fun _ _ => ⟨rfl, rfl⟩) (ws e4651 wk_162 rfl) ?_
                        refine J_goto (tgt := 266) dX11_token_144 (by decide) ?_
                        exact J_vret hq dX11_token_266 rfl wlen (Nat.le_refl _) (Nat.le_refl _) ⟨u4650, g4648, rfl, rfl, (bd_r (ms_i e4651 (by decide)) (bd_w (l := 0) (h := 600) bm4587 (by decide))), (bd_r ((ms_i e4651 (by decide)).trans ((fc4586 10 (by decide)).trans ((ms_i e4194 (by decide)).trans (ms_e e3123)))) (bd_w (l := 0) (h := 600) (bd_lt_hi bm1556 (mse_lt (bd_le_hi (bd_le_lo (bd_le_lo (mse_b (mse u (u1553 162 8) (u 162 9))) c3127 (bd_c (v := 0) (lo := 0) (hi := 0) (by decide))) (h3130 c3133) (bd_c (v := 97) (lo := 97) (hi := 97) (by decide))) (h3131 c3133) (bd_c (v := 122) (lo := 122) (hi := 122) (by decide))) (by decide)) hp1) (by decide))), (bd_r (ms_e e4651) (bd_w (l := 0) (h := 4) (bd_c (v := 2) (lo := 2) (hi := 2) (by decide)) (by decide))), (bd_r ((ms_i e4651 (by decide)).trans ((fc4586 12 (by decide)).trans ((ms_i e4194 (by decide)).trans ((ms_i e3123 (by decide)).trans (fc1555 12 (by decide)))))) hp2), (gv_r rfl (ms_i e4651 (by decide)) (ms_e e4651) (gv_go hI3113 hI4627)), (fun c k0_ => ((ms_c e4651 k0_).trans ((fr4585 c k0_).trans ((ms_c e4194 k0_).trans ((ms_c e3123 k0_).trans (fr1554 c k0_)))))), (fun j k8_ k10_ k11_ k12_ => ((ms_i e4651 k11_).trans ((fc4586 j k8_).trans ((ms_i e4194 k8_).trans ((ms_i e3123 k10_).trans (fc1555 j k8_))))))⟩
                      refine J_icmp_le (tgt := 132) dX11_token_125 (by decide) (fun c4644 => ?_) (fun c4644 => ?_)
                      · refine J_aload_n (i := 0) (j := 0) dX11_token_132 rfl rfl ?_
                        refine J_get (C := RX11) (T := TX11) (Z := 43) (ci := 11) (f := 13) dX11_token_133 inG11 rfl (by decide) k1277 wc_162 rfl ?_
                        refine J_topl (fun l4652 _ => ?_)
                        refine J_lv [0] rfl ?_
                        exact jn4647 l4652 
                      · refine J_lconst (v := 0) dX11_token_128 (by decide) ?_
                        refine J_goto (tgt := 136) dX11_token_129 (by decide) ?_
                        refine J_lv [0] rfl ?_
                        exact jn4647 (0 : Int64) 
                    · refine J_aload_n (i := 0) (j := 0) dX11_token_88 rfl rfl ?_
                      refine J_aload_n (i := 0) (j := 0) dX11_token_89 rfl rfl ?_
                      refine J_get (C := RX11) (T := TX11) (Z := 43) (ci := 11) (f := 13) dX11_token_90 inG11 rfl (by decide) k1277 wc_162 rfl ?_
                      refine J_topl (fun l4653 _ => ?_)
                      refine J_bipush (v := 8) dX11_token_93 (by decide) ?_
                      refine J_lshl dX11_token_95 rfl ?_
                      refine J_topl (fun l4654 _ => ?_)
                      refine J_aload_n (i := 0) (j := 0) dX11_token_96 rfl rfl ?_
                      refine J_callV (As := []) (rest := [.long l4654, .ref 162]) dX11_token_97 (c_M_see (d := 0) (u := u4584) (g := g4588) (ex := ex)   (by decide) (bd_w (l := 0) (h := 600) bm4587 (by decide)) (bd_r ((fc4586 9 (by decide)).trans ((ms_i e4194 (by decide)).trans ((ms_i e3123 (by decide)).trans (fc1555 9 (by decide))))) (bd_w (l := 0) (h := 600) (bd_lt_lo hp1 (mse_lt (bd_le_hi (bd_le_lo (bd_le_lo (mse_b (mse u (u1553 162 8) (u 162 9))) c3127 (bd_c (v := 0) (lo := 0) (hi := 0) (by decide))) (h3130 c3133) (bd_c (v := 97) (lo := 97) (hi := 97) (by decide))) (h3131 c3133) (bd_c (v := 122) (lo := 122) (hi := 122) (by decide))) (by decide)) bm1556) (by decide)))) hq.n k1421 k1423 k39 wc_162 rfl rfl k97 k1424 np_X11_see (Nat.le_trans (by decide) hd) (by decide) (Nat.le_refl _) (Nat.le_refl _) wlen rfl (Nat.le_of_ble_eq_true rfl) (fun r_ h_ p4655 => ?_)
                      obtain ⟨rfl, rfl⟩ := p4655
                      refine J_ci (v := (mse u (u4584 162 8) (u 162 9))) (mse_c ((fr4585 163 (by decide)).trans ((ms_c e4194 (by decide)).trans ((ms_c e3123 (by decide)).trans (fr1554 163 (by decide))))) rfl ((fc4586 9 (by decide)).trans ((ms_i e4194 (by decide)).trans ((ms_i e3123 (by decide)).trans (fc1555 9 (by decide)))))) ?_
                      refine J_i2l dX11_token_100 rfl ?_
                      refine J_topl (fun l4656 _ => ?_)
                      refine J_lor dX11_token_101 ?_
                      refine J_topl (fun l4657 _ => ?_)
                      obtain ⟨g4658, e4659⟩ : ∃ z, z = ml g4588 162 13 l4657 := ⟨_, rfl⟩
                      refine J_put (C := RX11) (T := TX11) (Z := 43) (ci := 11) (f := 13) (ty0 := tyX11) dX11_token_102 inG11 rfl tyX11_ok nmX11 (by decide) k1277 rfl rfl wc_162 (Nat.le_of_ble_eq_true rfl) (fun _ _ => ⟨rfl, rfl⟩) (wsl e4659 wk_162 rfl) ?_
                      refine J_aload_n (i := 0) (j := 0) dX11_token_105 rfl rfl ?_
                      refine J_dup dX11_token_106 rfl ?_
                      refine J_get (C := RX11) (T := TX11) (Z := 43) (ci := 11) (f := 8) dX11_token_107 inG11 rfl (by decide) k1272 wc_162 rfl ?_
                      refine J_iconst (v := 1) dX11_token_110 (by decide) ?_
                      refine J_iadd dX11_token_111 ?_
                      obtain ⟨u4660, e4661⟩ : ∃ z, z = ms u4584 162 8 ((u4584 162 8) + 1) := ⟨_, rfl⟩
                      refine J_put (C := RX11) (T := TX11) (Z := 43) (ci := 11) (f := 8) (ty0 := tyX11) dX11_token_112 inG11 rfl tyX11_ok nmX11 (by decide) k1272 rfl rfl wc_162 (Nat.le_of_ble_eq_true rfl) (fun _ _ => ⟨rfl, rfl⟩) (ws e4661 wk_162 rfl) ?_
                      refine J_iinc (i := 2) (j := 1) (v := (w4583 + 1)) (lw := [(2, .int (w4583 + 1)), (0, .ref 162)]) dX11_token_115 rfl rfl (by decide) rfl ?_
                      refine J_goto (tgt := 74) dX11_token_118 (by decide) ?_
                      refine J_lv [1, 0] rfl ?_
                      exact ih4625 (w4583 + 1) u4660 g4658 (fun c k0_ => ((ms_c e4661 k0_).trans (fr4585 c k0_))) (fun j k8_ => ((ms_i e4661 k8_).trans (fc4586 j k8_))) (bd_r (ms_e e4661) (bd_w (l := 1) (h := 600) (bd_add (l := 2) (h := 600) (bd_lt_hi bm4587 (mse_lt (bd_le_hi (bd_le_lo (mse_b (mse u (u4584 162 8) (u 162 9))) (h4631 c4634) (bd_c (v := 97) (lo := 97) (hi := 97) (by decide))) (h4632 c4634) (bd_c (v := 122) (lo := 122) (hi := 122) (by decide))) (by decide)) (bd_lt_lo hp1 (mse_lt (bd_le_hi (bd_le_lo (bd_le_lo (mse_b (mse u (u1553 162 8) (u 162 9))) c3127 (bd_c (v := 0) (lo := 0) (hi := 0) (by decide))) (h3130 c3133) (bd_c (v := 97) (lo := 97) (hi := 97) (by decide))) (h3131 c3133) (bd_c (v := 122) (lo := 122) (hi := 122) (by decide))) (by decide)) bm1556)) (bd_c (v := 1) (lo := 1) (hi := 1) (by decide)) (by decide)) (by decide))) (lt_eq (lt_s1 (bd_lt_hi bm4587 (mse_lt (bd_le_hi (bd_le_lo (mse_b (mse u (u4584 162 8) (u 162 9))) (h4631 c4634) (bd_c (v := 97) (lo := 97) (hi := 97) (by decide))) (h4632 c4634) (bd_c (v := 122) (lo := 122) (hi := 122) (by decide))) (by decide)) (bd_lt_lo hp1 (mse_lt (bd_le_hi (bd_le_lo (bd_le_lo (mse_b (mse u (u1553 162 8) (u 162 9))) c3127 (bd_c (v := 0) (lo := 0) (hi := 0) (by decide))) (h3130 c3133) (bd_c (v := 97) (lo := 97) (hi := 97) (by decide))) (h3131 c3133) (bd_c (v := 122) (lo := 122) (hi := 122) (by decide))) (by decide)) bm1556)) (by decide) (Int32.le_of_lt hI4627)) (ms_e e4661).symm) (mu_up 1 bm4587 (ms_e e4661) (by decide) (bd_w (l := 2) (h := 600) (bd_r (ms_e e4661) (bd_add (l := 2) (h := 600) (bd_lt_hi bm4587 (mse_lt (bd_le_hi (bd_le_lo (mse_b (mse u (u4584 162 8) (u 162 9))) (h4631 c4634) (bd_c (v := 97) (lo := 97) (hi := 97) (by decide))) (h4632 c4634) (bd_c (v := 122) (lo := 122) (hi := 122) (by decide))) (by decide)) (bd_lt_lo hp1 (mse_lt (bd_le_hi (bd_le_lo (bd_le_lo (mse_b (mse u (u1553 162 8) (u 162 9))) c3127 (bd_c (v := 0) (lo := 0) (hi := 0) (by decide))) (h3130 c3133) (bd_c (v := 97) (lo := 97) (hi := 97) (by decide))) (h3131 c3133) (bd_c (v := 122) (lo := 122) (hi := 122) (by decide))) (by decide)) bm1556)) (bd_c (v := 1) (lo := 1) (hi := 1) (by decide)) (by decide))) (by decide)) hm4626)
                refine J_lv [2, 0] rfl ?_
                exact lp4623 _ (1 : Int32) u4193 g4191 (fun c k0_ => rfl) (fun j k8_ => rfl) (bd_r (ms_e e4194) (bd_add (l := 1) (h := 600) (bd_lt_hi bm1556 (mse_lt (bd_le_hi (bd_le_lo (bd_le_lo (mse_b (mse u (u1553 162 8) (u 162 9))) c3127 (bd_c (v := 0) (lo := 0) (hi := 0) (by decide))) (h3130 c3133) (bd_c (v := 97) (lo := 97) (hi := 97) (by decide))) (h3131 c3133) (bd_c (v := 122) (lo := 122) (hi := 122) (by decide))) (by decide)) hp1) (bd_c (v := 1) (lo := 1) (hi := 1) (by decide)) (by decide))) (lt_eq (lt_s1 (bd_lt_hi bm1556 (mse_lt (bd_le_hi (bd_le_lo (bd_le_lo (mse_b (mse u (u1553 162 8) (u 162 9))) c3127 (bd_c (v := 0) (lo := 0) (hi := 0) (by decide))) (h3130 c3133) (bd_c (v := 97) (lo := 97) (hi := 97) (by decide))) (h3131 c3133) (bd_c (v := 122) (lo := 122) (hi := 122) (by decide))) (by decide)) hp1) (by decide) (Int32.le_refl _)) (ms_e e4194).symm) (Nat.lt_succ_self _)
          · refine J_aload_n (i := 0) (j := 2) dX11_token_55 rfl rfl ?_
            refine J_iconst (v := 0) dX11_token_56 (by decide) ?_
            obtain ⟨u4662, e4663⟩ : ∃ z, z = ms u3122 162 11 0 := ⟨_, rfl⟩
            refine J_put (C := RX11) (T := TX11) (Z := 43) (ci := 11) (f := 11) (ty0 := tyX11) dX11_token_57 inG11 rfl tyX11_ok nmX11 (by decide) k1275 rfl rfl wc_162 (Nat.le_of_ble_eq_true rfl) (fun _ _ => ⟨rfl, rfl⟩) (ws e4663 wk_162 rfl) ?_
            refine J_goto (tgt := 266) dX11_token_60 (by decide) ?_
            exact J_vret hq dX11_token_266 rfl wlen (Nat.le_refl _) (Nat.le_refl _) ⟨u4662, g3125, rfl, rfl, (bd_r ((ms_i e4663 (by decide)).trans (ms_i e3123 (by decide))) bm1556), (bd_r ((ms_i e4663 (by decide)).trans (ms_e e3123)) bm1556), (bd_r (ms_e e4663) (bd_w (l := 0) (h := 4) (bd_c (v := 0) (lo := 0) (hi := 0) (by decide)) (by decide))), (bd_r ((ms_i e4663 (by decide)).trans ((ms_i e3123 (by decide)).trans (fc1555 12 (by decide)))) hp2), (gv_r rfl ((ms_i e4663 (by decide)).trans (ms_i e3123 (by decide))) (ms_e e4663) (gv_end hI3113 rfl)), (fun c k0_ => ((ms_c e4663 k0_).trans ((ms_c e3123 k0_).trans (fr1554 c k0_)))), (fun j k8_ k10_ k11_ k12_ => ((ms_i e4663 k11_).trans ((ms_i e3123 k10_).trans (fc1555 j k8_))))⟩
        · refine J_aload_n (i := 0) (j := 0) dX11_token_18 rfl rfl ?_
          refine J_dup dX11_token_19 rfl ?_
          refine J_get (C := RX11) (T := TX11) (Z := 43) (ci := 11) (f := 8) dX11_token_20 inG11 rfl (by decide) k1272 wc_162 rfl ?_
          refine J_iconst (v := 1) dX11_token_23 (by decide) ?_
          refine J_iadd dX11_token_24 ?_
          obtain ⟨u4664, e4665⟩ : ∃ z, z = ms u1553 162 8 ((u1553 162 8) + 1) := ⟨_, rfl⟩
          refine J_put (C := RX11) (T := TX11) (Z := 43) (ci := 11) (f := 8) (ty0 := tyX11) dX11_token_25 inG11 rfl tyX11_ok nmX11 (by decide) k1272 rfl rfl wc_162 (Nat.le_of_ble_eq_true rfl) (fun _ _ => ⟨rfl, rfl⟩) (ws e4665 wk_162 rfl) ?_
          refine J_goto (tgt := 0) dX11_token_28 (by decide) ?_
          refine J_lv [0] rfl ?_
          exact ih3111 u4664 (fun c k0_ => ((ms_c e4665 k0_).trans (fr1554 c k0_))) (fun j k8_ => ((ms_i e4665 k8_).trans (fc1555 j k8_))) (bd_r (ms_e e4665) (bd_w (l := 0) (h := 600) (bd_add (l := 1) (h := 600) (bd_lt_hi bm1556 (mse_lt (bd_r c3121 (bd_c (v := 32) (lo := 32) (hi := 32) (by decide))) (by decide)) hp1) (bd_c (v := 1) (lo := 1) (hi := 1) (by decide)) (by decide)) (by decide))) (Int32.le_trans (Int32.le_of_lt (lt_s1 (bd_lt_hi bm1556 (mse_lt (bd_r c3121 (bd_c (v := 32) (lo := 32) (hi := 32) (by decide))) (by decide)) hp1) (by decide) hI3113)) (Int32.le_of_eq (ms_e e4665).symm)) (mu_up 1 bm1556 (ms_e e4665) (by decide) (bd_w (l := 1) (h := 600) (bd_r (ms_e e4665) (bd_add (l := 1) (h := 600) (bd_lt_hi bm1556 (mse_lt (bd_r c3121 (bd_c (v := 32) (lo := 32) (hi := 32) (by decide))) (by decide)) hp1) (bd_c (v := 1) (lo := 1) (hi := 1) (by decide)) (by decide))) (by decide)) hm3112)
  refine J_lv [0] rfl ?_
  exact lp3109 _ u (fun c k0_ => rfl) (fun j k8_ => rfl) hp0 (Int32.le_refl _) (Nat.lt_succ_self _)
