theorem k1413 : Cond.methodLink RX11 202 yX11_readText ∈ gt := gt_t6 (i := 127) rfl rfl
theorem k1415 : Cond.instanceMethod yX11_readText ∈ gt := gt_t6 (i := 129) rfl rfl
theorem k37 : Cond.selects RX11 yX11_readText yX11_readText ∈ gt := gt_in 37 (by decide +kernel) (by decide +kernel)
theorem k1416 : Cond.code yX11_readText cX11_readText 4 (some .boolean) ∈ gt := gt_t6 (i := 130) rfl rfl
theorem np_X11_readText : yX11_readText.cls ≠ "java/lang/invoke/MethodHandle" ∧ yX11_readText.cls ≠ "java/lang/invoke/VarHandle" ∧ (parseMethodDescriptor yX11_readText.desc).map (fun d => d.parameters.length) = some 1 := by decide +kernel
theorem dX11_text_0 : decode cX11_text 0 = .ok (.aload_n 0, 1) := dc_42 rfl
theorem dX11_text_1 : decode cX11_text 1 = .ok (.iconst 0, 1) := dc_3 rfl
theorem dX11_text_2 : decode cX11_text 2 = .ok (.putfield 70, 3) := dc_181 rfl rfl rfl rfl
theorem dX11_text_5 : decode cX11_text 5 = .ok (.aload_n 0, 1) := dc_42 rfl
theorem dX11_text_6 : decode cX11_text 6 = .ok (.aload_n 0, 1) := dc_42 rfl
theorem dX11_text_7 : decode cX11_text 7 = .ok (.getfield 13, 3) := dc_180 rfl rfl rfl rfl
theorem dX11_text_10 : decode cX11_text 10 = .ok (.iconst 0, 1) := dc_3 rfl
theorem dX11_text_11 : decode cX11_text 11 = .ok (.iaload, 1) := dc_46 rfl
theorem dX11_text_12 : decode cX11_text 12 = .ok (.putfield 89, 3) := dc_181 rfl rfl rfl rfl
theorem dX11_text_15 : decode cX11_text 15 = .ok (.aload_n 0, 1) := dc_42 rfl
theorem dX11_text_16 : decode cX11_text 16 = .ok (.getfield 13, 3) := dc_180 rfl rfl rfl rfl
theorem dX11_text_19 : decode cX11_text 19 = .ok (.iconst 0, 1) := dc_3 rfl
theorem dX11_text_20 : decode cX11_text 20 = .ok (.iconst 0, 1) := dc_3 rfl
theorem dX11_text_21 : decode cX11_text 21 = .ok (.iastore, 1) := dc_79 rfl
theorem dX11_text_22 : decode cX11_text 22 = .ok (.aload_n 0, 1) := dc_42 rfl
theorem dX11_text_23 : decode cX11_text 23 = .ok (.getfield 17, 3) := dc_180 rfl rfl rfl rfl
theorem dX11_text_26 : decode cX11_text 26 = .ok (.iconst 0, 1) := dc_3 rfl
theorem dX11_text_27 : decode cX11_text 27 = .ok (.iconst 0, 1) := dc_3 rfl
theorem dX11_text_28 : decode cX11_text 28 = .ok (.iastore, 1) := dc_79 rfl
theorem dX11_text_29 : decode cX11_text 29 = .ok (.aload_n 0, 1) := dc_42 rfl
theorem dX11_text_30 : decode cX11_text 30 = .ok (.getfield 20, 3) := dc_180 rfl rfl rfl rfl
theorem dX11_text_33 : decode cX11_text 33 = .ok (.iconst 0, 1) := dc_3 rfl
theorem dX11_text_34 : decode cX11_text 34 = .ok (.iconst (-1), 1) := dc_2 rfl
theorem dX11_text_35 : decode cX11_text 35 = .ok (.iastore, 1) := dc_79 rfl
theorem dX11_text_36 : decode cX11_text 36 = .ok (.iload_n 1, 1) := dc_27 rfl
theorem dX11_text_37 : decode cX11_text 37 = .ok (.iconst 0, 1) := dc_3 rfl
theorem dX11_text_38 : decode cX11_text 38 = .ok (.iconst 1, 1) := dc_4 rfl
theorem dX11_text_39 : decode cX11_text 39 = .ok (.invokestatic 78, 3) := dc_184 rfl rfl rfl rfl
theorem dX11_text_42 : decode cX11_text 42 = .ok (.ifCond .eq 45, 3) := dc_153 rfl rfl rfl (sg_p rfl rfl)
theorem dX11_text_45 : decode cX11_text 45 = .ok (.iload_n 2, 1) := dc_28 rfl
theorem dX11_text_46 : decode cX11_text 46 = .ok (.iconst (-1), 1) := dc_2 rfl
theorem dX11_text_47 : decode cX11_text 47 = .ok (.if_icmp .ne 24, 3) := dc_160 rfl rfl rfl (sg_p rfl rfl)
theorem dX11_text_50 : decode cX11_text 50 = .ok (.aload_n 0, 1) := dc_42 rfl
theorem dX11_text_51 : decode cX11_text 51 = .ok (.getfield 23, 3) := dc_180 rfl rfl rfl rfl
theorem dX11_text_54 : decode cX11_text 54 = .ok (.iload_n 1, 1) := dc_27 rfl
theorem dX11_text_55 : decode cX11_text 55 = .ok (.iaload, 1) := dc_46 rfl
theorem dX11_text_56 : decode cX11_text 56 = .ok (.iload_n 1, 1) := dc_27 rfl
theorem dX11_text_57 : decode cX11_text 57 = .ok (.ifCond .ne 7, 3) := dc_154 rfl rfl rfl (sg_p rfl rfl)
theorem dX11_text_60 : decode cX11_text 60 = .ok (.iconst 2, 1) := dc_5 rfl
theorem dX11_text_61 : decode cX11_text 61 = .ok (.goto 4, 3) := dc_167 rfl rfl rfl (sg_p rfl rfl)
theorem dX11_text_64 : decode cX11_text 64 = .ok (.iconst 3, 1) := dc_6 rfl
theorem dX11_text_65 : decode cX11_text 65 = .ok (.if_icmp .ne 25, 3) := dc_160 rfl rfl rfl (sg_p rfl rfl)
theorem dX11_text_68 : decode cX11_text 68 = .ok (.goto 19, 3) := dc_167 rfl rfl rfl (sg_p rfl rfl)
theorem dX11_text_71 : decode cX11_text 71 = .ok (.iload_n 2, 1) := dc_28 rfl
theorem dX11_text_72 : decode cX11_text 72 = .ok (.iconst 0, 1) := dc_3 rfl
theorem dX11_text_73 : decode cX11_text 73 = .ok (.aload_n 0, 1) := dc_42 rfl
theorem dX11_text_74 : decode cX11_text 74 = .ok (.getfield 23, 3) := dc_180 rfl rfl rfl rfl
theorem dX11_text_77 : decode cX11_text 77 = .ok (.iload_n 1, 1) := dc_27 rfl
theorem dX11_text_78 : decode cX11_text 78 = .ok (.iaload, 1) := dc_46 rfl
theorem dX11_text_79 : decode cX11_text 79 = .ok (.iconst 1, 1) := dc_4 rfl
theorem dX11_text_80 : decode cX11_text 80 = .ok (.isub, 1) := dc_100 rfl
theorem dX11_text_81 : decode cX11_text 81 = .ok (.invokestatic 78, 3) := dc_184 rfl rfl rfl rfl
theorem dX11_text_84 : decode cX11_text 84 = .ok (.ifCond .ne 6, 3) := dc_154 rfl rfl rfl (sg_p rfl rfl)
theorem dX11_text_87 : decode cX11_text 87 = .ok (.bipush (-2), 2) := dc_16 rfl rfl (by decide)
theorem dX11_text_89 : decode cX11_text 89 = .ok (.ireturn, 1) := dc_172 rfl
theorem dX11_text_90 : decode cX11_text 90 = .ok (.aload_n 0, 1) := dc_42 rfl
theorem dX11_text_91 : decode cX11_text 91 = .ok (.iload_n 1, 1) := dc_27 rfl
theorem dX11_text_92 : decode cX11_text 92 = .ok (.invokevirtual 202, 3) := dc_182 rfl rfl rfl rfl
theorem dX11_text_95 : decode cX11_text 95 = .ok (.ifCond .ne 5, 3) := dc_154 rfl rfl rfl (sg_p rfl rfl)
theorem dX11_text_98 : decode cX11_text 98 = .ok (.iconst (-1), 1) := dc_2 rfl
theorem dX11_text_99 : decode cX11_text 99 = .ok (.ireturn, 1) := dc_172 rfl
theorem dX11_text_100 : decode cX11_text 100 = .ok (.iload_n 2, 1) := dc_28 rfl
theorem dX11_text_101 : decode cX11_text 101 = .ok (.iconst (-1), 1) := dc_2 rfl
theorem dX11_text_102 : decode cX11_text 102 = .ok (.if_icmp .ne 12, 3) := dc_160 rfl rfl rfl (sg_p rfl rfl)
theorem dX11_text_105 : decode cX11_text 105 = .ok (.aload_n 0, 1) := dc_42 rfl
theorem dX11_text_106 : decode cX11_text 106 = .ok (.getfield 23, 3) := dc_180 rfl rfl rfl rfl
theorem dX11_text_109 : decode cX11_text 109 = .ok (.iload_n 1, 1) := dc_27 rfl
theorem dX11_text_110 : decode cX11_text 110 = .ok (.iaload, 1) := dc_46 rfl
theorem dX11_text_111 : decode cX11_text 111 = .ok (.goto 4, 3) := dc_167 rfl rfl rfl (sg_p rfl rfl)
theorem dX11_text_114 : decode cX11_text 114 = .ok (.iload_n 2, 1) := dc_28 rfl
theorem dX11_text_115 : decode cX11_text 115 = .ok (.istore_n 3, 1) := dc_62 rfl
theorem dX11_text_116 : decode cX11_text 116 = .ok (.aload_n 0, 1) := dc_42 rfl
theorem dX11_text_117 : decode cX11_text 117 = .ok (.getfield 23, 3) := dc_180 rfl rfl rfl rfl
theorem dX11_text_120 : decode cX11_text 120 = .ok (.iload_n 1, 1) := dc_27 rfl
theorem dX11_text_121 : decode cX11_text 121 = .ok (.dup2, 1) := dc_92 rfl
theorem dX11_text_122 : decode cX11_text 122 = .ok (.iaload, 1) := dc_46 rfl
theorem dX11_text_123 : decode cX11_text 123 = .ok (.iload_n 2, 1) := dc_28 rfl
theorem dX11_text_124 : decode cX11_text 124 = .ok (.iconst (-1), 1) := dc_2 rfl
theorem dX11_text_125 : decode cX11_text 125 = .ok (.if_icmp .ne 7, 3) := dc_160 rfl rfl rfl (sg_p rfl rfl)
theorem dX11_text_128 : decode cX11_text 128 = .ok (.iconst 1, 1) := dc_4 rfl
theorem dX11_text_129 : decode cX11_text 129 = .ok (.goto 4, 3) := dc_167 rfl rfl rfl (sg_p rfl rfl)
theorem dX11_text_132 : decode cX11_text 132 = .ok (.iconst 0, 1) := dc_3 rfl
theorem dX11_text_133 : decode cX11_text 133 = .ok (.iadd, 1) := dc_96 rfl
theorem dX11_text_134 : decode cX11_text 134 = .ok (.iastore, 1) := dc_79 rfl
theorem dX11_text_135 : decode cX11_text 135 = .ok (.iconst 0, 1) := dc_3 rfl
theorem dX11_text_136 : decode cX11_text 136 = .ok (.istore 4, 2) := dc_54 rfl rfl rfl
theorem dX11_text_138 : decode cX11_text 138 = .ok (.iload 4, 2) := dc_21 rfl rfl rfl
theorem dX11_text_140 : decode cX11_text 140 = .ok (.sipush 157, 3) := dc_17 rfl rfl rfl (sg_p rfl rfl)
theorem dX11_text_143 : decode cX11_text 143 = .ok (.if_icmp .ge 33, 3) := dc_162 rfl rfl rfl (sg_p rfl rfl)
theorem dX11_text_146 : decode cX11_text 146 = .ok (.iload_n 1, 1) := dc_27 rfl
theorem dX11_text_147 : decode cX11_text 147 = .ok (.ifCond .ne 29, 3) := dc_154 rfl rfl rfl (sg_p rfl rfl)
theorem dX11_text_150 : decode cX11_text 150 = .ok (.aload_n 0, 1) := dc_42 rfl
theorem dX11_text_151 : decode cX11_text 151 = .ok (.getfield 26, 3) := dc_180 rfl rfl rfl rfl
theorem dX11_text_154 : decode cX11_text 154 = .ok (.sipush 157, 3) := dc_17 rfl rfl rfl (sg_p rfl rfl)
theorem dX11_text_157 : decode cX11_text 157 = .ok (.iload_n 3, 1) := dc_29 rfl
theorem dX11_text_158 : decode cX11_text 158 = .ok (.imul, 1) := dc_104 rfl
theorem dX11_text_159 : decode cX11_text 159 = .ok (.iload 4, 2) := dc_21 rfl rfl rfl
theorem dX11_text_161 : decode cX11_text 161 = .ok (.iadd, 1) := dc_96 rfl
theorem dX11_text_162 : decode cX11_text 162 = .ok (.aload_n 0, 1) := dc_42 rfl
theorem dX11_text_163 : decode cX11_text 163 = .ok (.getfield 32, 3) := dc_180 rfl rfl rfl rfl
theorem dX11_text_166 : decode cX11_text 166 = .ok (.iload 4, 2) := dc_21 rfl rfl rfl
theorem dX11_text_168 : decode cX11_text 168 = .ok (.iaload, 1) := dc_46 rfl
theorem dX11_text_169 : decode cX11_text 169 = .ok (.iastore, 1) := dc_79 rfl
theorem dX11_text_170 : decode cX11_text 170 = .ok (.iinc 4 1, 3) := dc_132 rfl rfl rfl rfl (by decide)
theorem dX11_text_173 : decode cX11_text 173 = .ok (.goto (-35), 3) := dc_167 rfl rfl rfl (sg_n (k := 35) rfl rfl rfl)
theorem dX11_text_176 : decode cX11_text 176 = .ok (.iconst 0, 1) := dc_3 rfl
theorem dX11_text_177 : decode cX11_text 177 = .ok (.istore 4, 2) := dc_54 rfl rfl rfl
theorem dX11_text_179 : decode cX11_text 179 = .ok (.iload 4, 2) := dc_21 rfl rfl rfl
theorem dX11_text_181 : decode cX11_text 181 = .ok (.bipush 37, 2) := dc_16 rfl rfl (by decide)
theorem dX11_text_183 : decode cX11_text 183 = .ok (.if_icmp .ge 33, 3) := dc_162 rfl rfl rfl (sg_p rfl rfl)
theorem dX11_text_186 : decode cX11_text 186 = .ok (.iload_n 1, 1) := dc_27 rfl
theorem dX11_text_187 : decode cX11_text 187 = .ok (.iconst 1, 1) := dc_4 rfl
theorem dX11_text_188 : decode cX11_text 188 = .ok (.if_icmp .ne 28, 3) := dc_160 rfl rfl rfl (sg_p rfl rfl)
theorem dX11_text_191 : decode cX11_text 191 = .ok (.aload_n 0, 1) := dc_42 rfl
theorem dX11_text_192 : decode cX11_text 192 = .ok (.getfield 29, 3) := dc_180 rfl rfl rfl rfl
theorem dX11_text_195 : decode cX11_text 195 = .ok (.bipush 37, 2) := dc_16 rfl rfl (by decide)
theorem dX11_text_197 : decode cX11_text 197 = .ok (.iload_n 3, 1) := dc_29 rfl
theorem dX11_text_198 : decode cX11_text 198 = .ok (.imul, 1) := dc_104 rfl
theorem dX11_text_199 : decode cX11_text 199 = .ok (.iload 4, 2) := dc_21 rfl rfl rfl
theorem dX11_text_201 : decode cX11_text 201 = .ok (.iadd, 1) := dc_96 rfl
theorem dX11_text_202 : decode cX11_text 202 = .ok (.aload_n 0, 1) := dc_42 rfl
theorem dX11_text_203 : decode cX11_text 203 = .ok (.getfield 32, 3) := dc_180 rfl rfl rfl rfl
theorem dX11_text_206 : decode cX11_text 206 = .ok (.iload 4, 2) := dc_21 rfl rfl rfl
theorem dX11_text_208 : decode cX11_text 208 = .ok (.iaload, 1) := dc_46 rfl
theorem dX11_text_209 : decode cX11_text 209 = .ok (.iastore, 1) := dc_79 rfl
theorem dX11_text_210 : decode cX11_text 210 = .ok (.iinc 4 1, 3) := dc_132 rfl rfl rfl rfl (by decide)
theorem dX11_text_213 : decode cX11_text 213 = .ok (.goto (-34), 3) := dc_167 rfl rfl rfl (sg_n (k := 34) rfl rfl rfl)
theorem dX11_text_216 : decode cX11_text 216 = .ok (.iload_n 3, 1) := dc_29 rfl
theorem dX11_text_217 : decode cX11_text 217 = .ok (.ireturn, 1) := dc_172 rfl
theorem hk2 {v : Int32} (b : Bd 0 1 v) : v.toInt.toNat < 2 := by have := b.1; have := b.2; omega
