theorem k1272 : Cond.fieldLink RX11 86 "PondStairModel" "ahead" "I" ∈ gt := gt_t5 (i := 226) rfl rfl
theorem k1273 : Cond.fieldLink RX11 89 "PondStairModel" "length" "I" ∈ gt := gt_t5 (i := 227) rfl rfl
theorem k1421 : Cond.methodLink RX11 92 yX11_see ∈ gt := gt_t6 (i := 135) rfl rfl
theorem k1423 : Cond.instanceMethod yX11_see ∈ gt := gt_t6 (i := 137) rfl rfl
theorem k39 : Cond.selects RX11 yX11_see yX11_see ∈ gt := gt_in 39 (by decide +kernel) (by decide +kernel)
theorem k1424 : Cond.code yX11_see cX11_see 1 (some .int) ∈ gt := gt_t6 (i := 138) rfl rfl
theorem np_X11_see : yX11_see.cls ≠ "java/lang/invoke/MethodHandle" ∧ yX11_see.cls ≠ "java/lang/invoke/VarHandle" ∧ (parseMethodDescriptor yX11_see.desc).map (fun d => d.parameters.length) = some 0 := by decide +kernel
theorem k1274 : Cond.fieldLink RX11 96 "PondStairModel" "begins" "I" ∈ gt := gt_t5 (i := 228) rfl rfl
theorem k1277 : Cond.fieldLink RX11 99 "PondStairModel" "word" "J" ∈ gt := gt_t5 (i := 231) rfl rfl
theorem k1275 : Cond.fieldLink RX11 103 "PondStairModel" "sort" "I" ∈ gt := gt_t5 (i := 229) rfl rfl
theorem k1276 : Cond.fieldLink RX11 106 "PondStairModel" "value" "I" ∈ gt := gt_t5 (i := 230) rfl rfl
theorem dX11_see_0 : decode cX11_see 0 = .ok (.aload_n 0, 1) := dc_42 rfl
theorem dX11_see_1 : decode cX11_see 1 = .ok (.getfield 86, 3) := dc_180 rfl rfl rfl rfl
theorem dX11_see_4 : decode cX11_see 4 = .ok (.aload_n 0, 1) := dc_42 rfl
theorem dX11_see_5 : decode cX11_see 5 = .ok (.getfield 89, 3) := dc_180 rfl rfl rfl rfl
theorem dX11_see_8 : decode cX11_see 8 = .ok (.if_icmp .ge 19, 3) := dc_162 rfl rfl rfl (sg_p rfl rfl)
theorem dX11_see_11 : decode cX11_see 11 = .ok (.aload_n 0, 1) := dc_42 rfl
theorem dX11_see_12 : decode cX11_see 12 = .ok (.getfield 7, 3) := dc_180 rfl rfl rfl rfl
theorem dX11_see_15 : decode cX11_see 15 = .ok (.aload_n 0, 1) := dc_42 rfl
theorem dX11_see_16 : decode cX11_see 16 = .ok (.getfield 86, 3) := dc_180 rfl rfl rfl rfl
theorem dX11_see_19 : decode cX11_see 19 = .ok (.baload, 1) := dc_51 rfl
theorem dX11_see_20 : decode cX11_see 20 = .ok (.sipush 255, 3) := dc_17 rfl rfl rfl (sg_p rfl rfl)
theorem dX11_see_23 : decode cX11_see 23 = .ok (.iand, 1) := dc_126 rfl
theorem dX11_see_24 : decode cX11_see 24 = .ok (.goto 4, 3) := dc_167 rfl rfl rfl (sg_p rfl rfl)
theorem dX11_see_27 : decode cX11_see 27 = .ok (.iconst (-1), 1) := dc_2 rfl
theorem dX11_see_28 : decode cX11_see 28 = .ok (.ireturn, 1) := dc_172 rfl
theorem dX11_token_0 : decode cX11_token 0 = .ok (.aload_n 0, 1) := dc_42 rfl
theorem dX11_token_1 : decode cX11_token 1 = .ok (.invokevirtual 92, 3) := dc_182 rfl rfl rfl rfl
theorem dX11_token_4 : decode cX11_token 4 = .ok (.bipush 10, 2) := dc_16 rfl rfl (by decide)
theorem dX11_token_6 : decode cX11_token 6 = .ok (.if_icmp .eq 12, 3) := dc_159 rfl rfl rfl (sg_p rfl rfl)
theorem dX11_token_9 : decode cX11_token 9 = .ok (.aload_n 0, 1) := dc_42 rfl
theorem dX11_token_10 : decode cX11_token 10 = .ok (.invokevirtual 92, 3) := dc_182 rfl rfl rfl rfl
theorem dX11_token_13 : decode cX11_token 13 = .ok (.bipush 32, 2) := dc_16 rfl rfl (by decide)
theorem dX11_token_15 : decode cX11_token 15 = .ok (.if_icmp .ne 16, 3) := dc_160 rfl rfl rfl (sg_p rfl rfl)
theorem dX11_token_18 : decode cX11_token 18 = .ok (.aload_n 0, 1) := dc_42 rfl
theorem dX11_token_19 : decode cX11_token 19 = .ok (.dup, 1) := dc_89 rfl
theorem dX11_token_20 : decode cX11_token 20 = .ok (.getfield 86, 3) := dc_180 rfl rfl rfl rfl
theorem dX11_token_23 : decode cX11_token 23 = .ok (.iconst 1, 1) := dc_4 rfl
theorem dX11_token_24 : decode cX11_token 24 = .ok (.iadd, 1) := dc_96 rfl
theorem dX11_token_25 : decode cX11_token 25 = .ok (.putfield 86, 3) := dc_181 rfl rfl rfl rfl
theorem dX11_token_28 : decode cX11_token 28 = .ok (.goto (-28), 3) := dc_167 rfl rfl rfl (sg_n (k := 28) rfl rfl rfl)
theorem dX11_token_31 : decode cX11_token 31 = .ok (.aload_n 0, 1) := dc_42 rfl
theorem dX11_token_32 : decode cX11_token 32 = .ok (.aload_n 0, 1) := dc_42 rfl
theorem dX11_token_33 : decode cX11_token 33 = .ok (.getfield 86, 3) := dc_180 rfl rfl rfl rfl
theorem dX11_token_36 : decode cX11_token 36 = .ok (.putfield 96, 3) := dc_181 rfl rfl rfl rfl
theorem dX11_token_39 : decode cX11_token 39 = .ok (.aload_n 0, 1) := dc_42 rfl
theorem dX11_token_40 : decode cX11_token 40 = .ok (.invokevirtual 92, 3) := dc_182 rfl rfl rfl rfl
theorem dX11_token_43 : decode cX11_token 43 = .ok (.istore_n 1, 1) := dc_60 rfl
theorem dX11_token_44 : decode cX11_token 44 = .ok (.aload_n 0, 1) := dc_42 rfl
theorem dX11_token_45 : decode cX11_token 45 = .ok (.lconst 0, 1) := dc_9 rfl
theorem dX11_token_46 : decode cX11_token 46 = .ok (.putfield 99, 3) := dc_181 rfl rfl rfl rfl
theorem dX11_token_49 : decode cX11_token 49 = .ok (.iconst 0, 1) := dc_3 rfl
theorem dX11_token_50 : decode cX11_token 50 = .ok (.istore_n 2, 1) := dc_61 rfl
theorem dX11_token_51 : decode cX11_token 51 = .ok (.iload_n 1, 1) := dc_27 rfl
theorem dX11_token_52 : decode cX11_token 52 = .ok (.ifCond .ge 11, 3) := dc_156 rfl rfl rfl (sg_p rfl rfl)
theorem dX11_token_55 : decode cX11_token 55 = .ok (.aload_n 0, 1) := dc_42 rfl
theorem dX11_token_56 : decode cX11_token 56 = .ok (.iconst 0, 1) := dc_3 rfl
theorem dX11_token_57 : decode cX11_token 57 = .ok (.putfield 103, 3) := dc_181 rfl rfl rfl rfl
theorem dX11_token_60 : decode cX11_token 60 = .ok (.goto 206, 3) := dc_167 rfl rfl rfl (sg_p rfl rfl)
theorem dX11_token_63 : decode cX11_token 63 = .ok (.iload_n 1, 1) := dc_27 rfl
theorem dX11_token_64 : decode cX11_token 64 = .ok (.bipush 97, 2) := dc_16 rfl rfl (by decide)
theorem dX11_token_66 : decode cX11_token 66 = .ok (.bipush 122, 2) := dc_16 rfl rfl (by decide)
theorem dX11_token_68 : decode cX11_token 68 = .ok (.invokestatic 78, 3) := dc_184 rfl rfl rfl rfl
theorem dX11_token_71 : decode cX11_token 71 = .ok (.ifCond .eq 76, 3) := dc_153 rfl rfl rfl (sg_p rfl rfl)
theorem dX11_token_74 : decode cX11_token 74 = .ok (.aload_n 0, 1) := dc_42 rfl
theorem dX11_token_75 : decode cX11_token 75 = .ok (.invokevirtual 92, 3) := dc_182 rfl rfl rfl rfl
theorem dX11_token_78 : decode cX11_token 78 = .ok (.bipush 97, 2) := dc_16 rfl rfl (by decide)
theorem dX11_token_80 : decode cX11_token 80 = .ok (.bipush 122, 2) := dc_16 rfl rfl (by decide)
theorem dX11_token_82 : decode cX11_token 82 = .ok (.invokestatic 78, 3) := dc_184 rfl rfl rfl rfl
theorem dX11_token_85 : decode cX11_token 85 = .ok (.ifCond .eq 36, 3) := dc_153 rfl rfl rfl (sg_p rfl rfl)
theorem dX11_token_88 : decode cX11_token 88 = .ok (.aload_n 0, 1) := dc_42 rfl
theorem dX11_token_89 : decode cX11_token 89 = .ok (.aload_n 0, 1) := dc_42 rfl
theorem dX11_token_90 : decode cX11_token 90 = .ok (.getfield 99, 3) := dc_180 rfl rfl rfl rfl
theorem dX11_token_93 : decode cX11_token 93 = .ok (.bipush 8, 2) := dc_16 rfl rfl (by decide)
theorem dX11_token_95 : decode cX11_token 95 = .ok (.lshl, 1) := dc_121 rfl
theorem dX11_token_96 : decode cX11_token 96 = .ok (.aload_n 0, 1) := dc_42 rfl
theorem dX11_token_97 : decode cX11_token 97 = .ok (.invokevirtual 92, 3) := dc_182 rfl rfl rfl rfl
theorem dX11_token_100 : decode cX11_token 100 = .ok (.i2l, 1) := dc_133 rfl
theorem dX11_token_101 : decode cX11_token 101 = .ok (.lor, 1) := dc_129 rfl
theorem dX11_token_102 : decode cX11_token 102 = .ok (.putfield 99, 3) := dc_181 rfl rfl rfl rfl
theorem dX11_token_105 : decode cX11_token 105 = .ok (.aload_n 0, 1) := dc_42 rfl
theorem dX11_token_106 : decode cX11_token 106 = .ok (.dup, 1) := dc_89 rfl
theorem dX11_token_107 : decode cX11_token 107 = .ok (.getfield 86, 3) := dc_180 rfl rfl rfl rfl
theorem dX11_token_110 : decode cX11_token 110 = .ok (.iconst 1, 1) := dc_4 rfl
theorem dX11_token_111 : decode cX11_token 111 = .ok (.iadd, 1) := dc_96 rfl
theorem dX11_token_112 : decode cX11_token 112 = .ok (.putfield 86, 3) := dc_181 rfl rfl rfl rfl
theorem dX11_token_115 : decode cX11_token 115 = .ok (.iinc 2 1, 3) := dc_132 rfl rfl rfl rfl (by decide)
theorem dX11_token_118 : decode cX11_token 118 = .ok (.goto (-44), 3) := dc_167 rfl rfl rfl (sg_n (k := 44) rfl rfl rfl)
theorem dX11_token_121 : decode cX11_token 121 = .ok (.aload_n 0, 1) := dc_42 rfl
theorem dX11_token_122 : decode cX11_token 122 = .ok (.iload_n 2, 1) := dc_28 rfl
theorem dX11_token_123 : decode cX11_token 123 = .ok (.bipush 8, 2) := dc_16 rfl rfl (by decide)
theorem dX11_token_125 : decode cX11_token 125 = .ok (.if_icmp .le 7, 3) := dc_164 rfl rfl rfl (sg_p rfl rfl)
theorem dX11_token_128 : decode cX11_token 128 = .ok (.lconst 0, 1) := dc_9 rfl
theorem dX11_token_129 : decode cX11_token 129 = .ok (.goto 7, 3) := dc_167 rfl rfl rfl (sg_p rfl rfl)
theorem dX11_token_132 : decode cX11_token 132 = .ok (.aload_n 0, 1) := dc_42 rfl
theorem dX11_token_133 : decode cX11_token 133 = .ok (.getfield 99, 3) := dc_180 rfl rfl rfl rfl
theorem dX11_token_136 : decode cX11_token 136 = .ok (.putfield 99, 3) := dc_181 rfl rfl rfl rfl
theorem dX11_token_139 : decode cX11_token 139 = .ok (.aload_n 0, 1) := dc_42 rfl
theorem dX11_token_140 : decode cX11_token 140 = .ok (.iconst 2, 1) := dc_5 rfl
theorem dX11_token_141 : decode cX11_token 141 = .ok (.putfield 103, 3) := dc_181 rfl rfl rfl rfl
theorem dX11_token_144 : decode cX11_token 144 = .ok (.goto 122, 3) := dc_167 rfl rfl rfl (sg_p rfl rfl)
theorem dX11_token_147 : decode cX11_token 147 = .ok (.iload_n 1, 1) := dc_27 rfl
theorem dX11_token_148 : decode cX11_token 148 = .ok (.bipush 48, 2) := dc_16 rfl rfl (by decide)
theorem dX11_token_150 : decode cX11_token 150 = .ok (.bipush 57, 2) := dc_16 rfl rfl (by decide)
theorem dX11_token_152 : decode cX11_token 152 = .ok (.invokestatic 78, 3) := dc_184 rfl rfl rfl rfl
theorem dX11_token_155 : decode cX11_token 155 = .ok (.ifCond .eq 86, 3) := dc_153 rfl rfl rfl (sg_p rfl rfl)
theorem dX11_token_158 : decode cX11_token 158 = .ok (.aload_n 0, 1) := dc_42 rfl
theorem dX11_token_159 : decode cX11_token 159 = .ok (.iconst 0, 1) := dc_3 rfl
theorem dX11_token_160 : decode cX11_token 160 = .ok (.putfield 106, 3) := dc_181 rfl rfl rfl rfl
theorem dX11_token_163 : decode cX11_token 163 = .ok (.aload_n 0, 1) := dc_42 rfl
theorem dX11_token_164 : decode cX11_token 164 = .ok (.invokevirtual 92, 3) := dc_182 rfl rfl rfl rfl
theorem dX11_token_167 : decode cX11_token 167 = .ok (.bipush 48, 2) := dc_16 rfl rfl (by decide)
theorem dX11_token_169 : decode cX11_token 169 = .ok (.bipush 57, 2) := dc_16 rfl rfl (by decide)
theorem dX11_token_171 : decode cX11_token 171 = .ok (.invokestatic 78, 3) := dc_184 rfl rfl rfl rfl
theorem dX11_token_174 : decode cX11_token 174 = .ok (.ifCond .eq 50, 3) := dc_153 rfl rfl rfl (sg_p rfl rfl)
theorem dX11_token_177 : decode cX11_token 177 = .ok (.aload_n 0, 1) := dc_42 rfl
theorem dX11_token_178 : decode cX11_token 178 = .ok (.iload_n 2, 1) := dc_28 rfl
theorem dX11_token_179 : decode cX11_token 179 = .ok (.iconst 3, 1) := dc_6 rfl
theorem dX11_token_180 : decode cX11_token 180 = .ok (.if_icmp .ge 21, 3) := dc_162 rfl rfl rfl (sg_p rfl rfl)
theorem dX11_token_183 : decode cX11_token 183 = .ok (.bipush 10, 2) := dc_16 rfl rfl (by decide)
theorem dX11_token_185 : decode cX11_token 185 = .ok (.aload_n 0, 1) := dc_42 rfl
theorem dX11_token_186 : decode cX11_token 186 = .ok (.getfield 106, 3) := dc_180 rfl rfl rfl rfl
theorem dX11_token_189 : decode cX11_token 189 = .ok (.imul, 1) := dc_104 rfl
theorem dX11_token_190 : decode cX11_token 190 = .ok (.aload_n 0, 1) := dc_42 rfl
theorem dX11_token_191 : decode cX11_token 191 = .ok (.invokevirtual 92, 3) := dc_182 rfl rfl rfl rfl
theorem dX11_token_194 : decode cX11_token 194 = .ok (.iadd, 1) := dc_96 rfl
theorem dX11_token_195 : decode cX11_token 195 = .ok (.bipush 48, 2) := dc_16 rfl rfl (by decide)
theorem dX11_token_197 : decode cX11_token 197 = .ok (.isub, 1) := dc_100 rfl
theorem dX11_token_198 : decode cX11_token 198 = .ok (.goto 7, 3) := dc_167 rfl rfl rfl (sg_p rfl rfl)
theorem dX11_token_201 : decode cX11_token 201 = .ok (.aload_n 0, 1) := dc_42 rfl
theorem dX11_token_202 : decode cX11_token 202 = .ok (.getfield 106, 3) := dc_180 rfl rfl rfl rfl
theorem dX11_token_205 : decode cX11_token 205 = .ok (.putfield 106, 3) := dc_181 rfl rfl rfl rfl
theorem dX11_token_208 : decode cX11_token 208 = .ok (.aload_n 0, 1) := dc_42 rfl
theorem dX11_token_209 : decode cX11_token 209 = .ok (.dup, 1) := dc_89 rfl
theorem dX11_token_210 : decode cX11_token 210 = .ok (.getfield 86, 3) := dc_180 rfl rfl rfl rfl
theorem dX11_token_213 : decode cX11_token 213 = .ok (.iconst 1, 1) := dc_4 rfl
theorem dX11_token_214 : decode cX11_token 214 = .ok (.iadd, 1) := dc_96 rfl
theorem dX11_token_215 : decode cX11_token 215 = .ok (.putfield 86, 3) := dc_181 rfl rfl rfl rfl
theorem dX11_token_218 : decode cX11_token 218 = .ok (.iinc 2 1, 3) := dc_132 rfl rfl rfl rfl (by decide)
theorem dX11_token_221 : decode cX11_token 221 = .ok (.goto (-58), 3) := dc_167 rfl rfl rfl (sg_n (k := 58) rfl rfl rfl)
theorem dX11_token_224 : decode cX11_token 224 = .ok (.aload_n 0, 1) := dc_42 rfl
theorem dX11_token_225 : decode cX11_token 225 = .ok (.iload_n 2, 1) := dc_28 rfl
theorem dX11_token_226 : decode cX11_token 226 = .ok (.iconst 3, 1) := dc_6 rfl
theorem dX11_token_227 : decode cX11_token 227 = .ok (.if_icmp .le 7, 3) := dc_164 rfl rfl rfl (sg_p rfl rfl)
theorem dX11_token_230 : decode cX11_token 230 = .ok (.iconst 1, 1) := dc_4 rfl
theorem dX11_token_231 : decode cX11_token 231 = .ok (.goto 4, 3) := dc_167 rfl rfl rfl (sg_p rfl rfl)
theorem dX11_token_234 : decode cX11_token 234 = .ok (.iconst 3, 1) := dc_6 rfl
theorem dX11_token_235 : decode cX11_token 235 = .ok (.putfield 103, 3) := dc_181 rfl rfl rfl rfl
theorem dX11_token_238 : decode cX11_token 238 = .ok (.goto 28, 3) := dc_167 rfl rfl rfl (sg_p rfl rfl)
theorem dX11_token_241 : decode cX11_token 241 = .ok (.aload_n 0, 1) := dc_42 rfl
theorem dX11_token_242 : decode cX11_token 242 = .ok (.dup, 1) := dc_89 rfl
theorem dX11_token_243 : decode cX11_token 243 = .ok (.getfield 86, 3) := dc_180 rfl rfl rfl rfl
theorem dX11_token_246 : decode cX11_token 246 = .ok (.iconst 1, 1) := dc_4 rfl
theorem dX11_token_247 : decode cX11_token 247 = .ok (.iadd, 1) := dc_96 rfl
theorem dX11_token_248 : decode cX11_token 248 = .ok (.putfield 86, 3) := dc_181 rfl rfl rfl rfl
theorem dX11_token_251 : decode cX11_token 251 = .ok (.aload_n 0, 1) := dc_42 rfl
theorem dX11_token_252 : decode cX11_token 252 = .ok (.iload_n 1, 1) := dc_27 rfl
theorem dX11_token_253 : decode cX11_token 253 = .ok (.bipush 59, 2) := dc_16 rfl rfl (by decide)
theorem dX11_token_255 : decode cX11_token 255 = .ok (.if_icmp .ne 7, 3) := dc_160 rfl rfl rfl (sg_p rfl rfl)
theorem dX11_token_258 : decode cX11_token 258 = .ok (.iconst 4, 1) := dc_7 rfl
theorem dX11_token_259 : decode cX11_token 259 = .ok (.goto 4, 3) := dc_167 rfl rfl rfl (sg_p rfl rfl)
theorem dX11_token_262 : decode cX11_token 262 = .ok (.iconst 1, 1) := dc_4 rfl
theorem dX11_token_263 : decode cX11_token 263 = .ok (.putfield 103, 3) := dc_181 rfl rfl rfl rfl
theorem dX11_token_266 : decode cX11_token 266 = .ok (.return_, 1) := dc_177 rfl
set_option maxHeartbeats 4000000 in
set_option maxRecDepth 100000 in
theorem c_M_see {d : Nat} {u : Nat → Nat → Int32} {g : Nat → Nat → Int64} {ex : List MC}  (hd : 0 ≤ d) (hp0 : Bd 0 600 (u 162 8)) (hp1 : Bd 0 600 (u 162 9)) : CT con0 d 0 0 yX11_see cX11_see 1 (some .int) [.ref 162] (Wd u g ex) (fun r h2 => r = some (.int (mse u (u 162 8) (u 162 9))) ∧ h2 = Wd u g ex) := by
  refine CT_of (by decide) (Nat.le_of_ble_eq_true rfl) (fun x hq => ?_)
  show J x yX11_see cX11_see 1 (some .int) d 0 0 (Wd u g ex).length 0 [(0, .ref 162)] [] (Wd u g ex) 0 0
  refine J_aload_n (i := 0) (j := 0) dX11_see_0 rfl rfl ?_
  refine J_get (C := RX11) (T := TX11) (Z := 43) (ci := 11) (f := 8) dX11_see_1 inG11 rfl (by decide) k1272 wc_162 rfl ?_
  refine J_aload_n (i := 0) (j := 0) dX11_see_4 rfl rfl ?_
  refine J_get (C := RX11) (T := TX11) (Z := 43) (ci := 11) (f := 9) dX11_see_5 inG11 rfl (by decide) k1273 wc_162 rfl ?_
  refine J_icmp_ge (tgt := 27) dX11_see_8 (by decide) (fun c1 => ?_) (fun c1 => ?_)
  · refine J_iconst (v := (-1)) dX11_see_27 (by decide) ?_
    exact J_iret hq dX11_see_28 rfl wlen (Nat.le_refl _) (Nat.le_refl _) ⟨(congrArg (fun z => some (Value.int z)) (mse_2 c1)), rfl⟩
  · refine J_aload_n (i := 0) (j := 0) dX11_see_11 rfl rfl ?_
    refine J_get (C := RX11) (T := TX11) (Z := 43) (ci := 11) (f := 1) dX11_see_12 inG11 rfl (by decide) k1265 wc_162 rfl ?_
    refine J_aload_n (i := 0) (j := 0) dX11_see_15 rfl rfl ?_
    refine J_get (C := RX11) (T := TX11) (Z := 43) (ci := 11) (f := 8) dX11_see_16 inG11 rfl (by decide) k1272 wc_162 rfl ?_
    refine J_bald dX11_see_19 wc_163 (vin (bd_lt_hi hp0 (i_nle c1) hp1) (by decide)) ?_
    refine J_topi (fun v2 qv2 => ?_)
    refine J_sipush (v := 255) dX11_see_20 (by decide) ?_
    refine J_iand dX11_see_23 ?_
    refine J_goto (tgt := 28) dX11_see_24 (by decide) ?_
    exact J_iret hq dX11_see_28 rfl wlen (Nat.le_refl _) (Nat.le_refl _) ⟨(congrArg (fun z => some (Value.int z)) (mse_1 (i_nle c1) qv2)), rfl⟩
