theorem k1289 : Cond.fieldLink RX11 222 "PondStairModel" "lost" "I" ∈ gt := gt_6_0 (i := 3) rfl rfl
theorem k1288 : Cond.fieldLink RX11 219 "PondStairModel" "days" "I" ∈ gt := gt_6_0 (i := 2) rfl rfl
theorem k1495 : Cond.methodLink RX11 205 yX11_isHill ∈ gt := gt_6_8 (i := 17) rfl rfl
theorem k1497 : Cond.instanceMethod yX11_isHill ∈ gt := gt_6_8 (i := 19) rfl rfl
theorem k51 : Cond.selects RX11 yX11_isHill yX11_isHill ∈ gt := gs_4 (i := 3) rfl rfl
theorem k1498 : Cond.code yX11_isHill cX11_isHill 2 (some .boolean) ∈ gt := gt_6_8 (i := 20) rfl rfl
theorem np_X11_isHill : yX11_isHill.cls ≠ "java/lang/invoke/MethodHandle" ∧ yX11_isHill.cls ≠ "java/lang/invoke/VarHandle" ∧ (parseMethodDescriptor yX11_isHill.desc).map (fun d => d.parameters.length) = some 1 := ⟨cq_RX11.1, cq_RX11.2, pd_10⟩
theorem k1287 : Cond.fieldLink RX11 228 "PondStairModel" "done" "I" ∈ gt := gt_6_0 (i := 1) rfl rfl
theorem k1507 : Cond.methodLink RX11 225 yX11_isPlan ∈ gt := gt_6_9 (i := 5) rfl rfl
theorem k1509 : Cond.instanceMethod yX11_isPlan ∈ gt := gt_6_9 (i := 7) rfl rfl
theorem k53 : Cond.selects RX11 yX11_isPlan yX11_isPlan ∈ gt := gs_4 (i := 5) rfl rfl
theorem k1510 : Cond.code yX11_isPlan cX11_isPlan 2 (some .boolean) ∈ gt := gt_6_9 (i := 8) rfl rfl
theorem np_X11_isPlan : yX11_isPlan.cls ≠ "java/lang/invoke/MethodHandle" ∧ yX11_isPlan.cls ≠ "java/lang/invoke/VarHandle" ∧ (parseMethodDescriptor yX11_isPlan.desc).map (fun d => d.parameters.length) = some 1 := ⟨cq_RX11.1, cq_RX11.2, pd_10⟩
theorem k1511 : Cond.methodLink RX11 237 yX11_does ∈ gt := gt_6_9 (i := 9) rfl rfl
theorem k1513 : Cond.instanceMethod yX11_does ∈ gt := gt_6_9 (i := 11) rfl rfl
theorem k54 : Cond.selects RX11 yX11_does yX11_does ∈ gt := gs_4 (i := 6) rfl rfl
theorem k1514 : Cond.code yX11_does cX11_does 4 (some .boolean) ∈ gt := gt_6_9 (i := 12) rfl rfl
theorem np_X11_does : yX11_does.cls ≠ "java/lang/invoke/MethodHandle" ∧ yX11_does.cls ≠ "java/lang/invoke/VarHandle" ∧ (parseMethodDescriptor yX11_does.desc).map (fun d => d.parameters.length) = some 3 := ⟨cq_RX11.1, cq_RX11.2, pd_18⟩
theorem dX11_does_0 : decode cX11_does 0 = .ok (.iload_n 2, 1) := dqn_28 (k := 287) qh_cX11_does rfl rfl
theorem dX11_does_1 : decode cX11_does 1 = .ok (.aload_n 0, 1) := dqn_42 (k := 286) qh_cX11_does rfl rfl
theorem dX11_does_2 : decode cX11_does 2 = .ok (.getfield 208, 3) := dqn_180 (k := 283) qh_cX11_does rfl rfl rfl
theorem dX11_does_5 : decode cX11_does 5 = .ok (.if_icmp .ge 14, 3) := dqn_162 (k := 280) (u := 14) qh_cX11_does rfl rfl rfl (sg_p rfl rfl)
theorem dX11_does_8 : decode cX11_does 8 = .ok (.aload_n 0, 1) := dqn_42 (k := 279) qh_cX11_does rfl rfl
theorem dX11_does_9 : decode cX11_does 9 = .ok (.iload_n 2, 1) := dqn_28 (k := 278) qh_cX11_does rfl rfl
theorem dX11_does_10 : decode cX11_does 10 = .ok (.bipush 15, 2) := dqn_16 (k := 276) (u := 15) qh_cX11_does rfl rfl rfl (by decide)
theorem dX11_does_12 : decode cX11_does 12 = .ok (.invokevirtual 211, 3) := dqn_182 (k := 273) qh_cX11_does rfl rfl rfl
theorem dX11_does_15 : decode cX11_does 15 = .ok (.iconst 1, 1) := dqn_4 (k := 272) qh_cX11_does rfl rfl
theorem dX11_does_16 : decode cX11_does 16 = .ok (.if_icmp .ne 5, 3) := dqn_160 (k := 269) (u := 5) qh_cX11_does rfl rfl rfl (sg_p rfl rfl)
theorem dX11_does_19 : decode cX11_does 19 = .ok (.iconst 0, 1) := dqn_3 (k := 268) qh_cX11_does rfl rfl
theorem dX11_does_20 : decode cX11_does 20 = .ok (.ireturn, 1) := dqn_172 (k := 267) qh_cX11_does rfl rfl
theorem dX11_does_21 : decode cX11_does 21 = .ok (.iload_n 1, 1) := dqn_27 (k := 266) qh_cX11_does rfl rfl
theorem dX11_does_22 : decode cX11_does 22 = .ok (.tableswitch 212 0 3 #[30, 75, 121, 169], 30) := by decide +kernel
theorem dX11_does_52 : decode cX11_does 52 = .ok (.aload_n 0, 1) := dqn_42 (k := 235) qh_cX11_does rfl rfl
theorem dX11_does_53 : decode cX11_does 53 = .ok (.iload_n 2, 1) := dqn_28 (k := 234) qh_cX11_does rfl rfl
theorem dX11_does_54 : decode cX11_does 54 = .ok (.iconst 4, 1) := dqn_7 (k := 233) qh_cX11_does rfl rfl
theorem dX11_does_55 : decode cX11_does 55 = .ok (.invokevirtual 211, 3) := dqn_182 (k := 230) qh_cX11_does rfl rfl rfl
theorem dX11_does_58 : decode cX11_does 58 = .ok (.iload_n 3, 1) := dqn_29 (k := 229) qh_cX11_does rfl rfl
theorem dX11_does_59 : decode cX11_does 59 = .ok (.if_icmp .ge 5, 3) := dqn_162 (k := 226) (u := 5) qh_cX11_does rfl rfl rfl (sg_p rfl rfl)
theorem dX11_does_62 : decode cX11_does 62 = .ok (.iconst 0, 1) := dqn_3 (k := 225) qh_cX11_does rfl rfl
theorem dX11_does_63 : decode cX11_does 63 = .ok (.ireturn, 1) := dqn_172 (k := 224) qh_cX11_does rfl rfl
theorem dX11_does_64 : decode cX11_does 64 = .ok (.aload_n 0, 1) := dqn_42 (k := 223) qh_cX11_does rfl rfl
theorem dX11_does_65 : decode cX11_does 65 = .ok (.iload_n 2, 1) := dqn_28 (k := 222) qh_cX11_does rfl rfl
theorem dX11_does_66 : decode cX11_does 66 = .ok (.iconst 4, 1) := dqn_7 (k := 221) qh_cX11_does rfl rfl
theorem dX11_does_67 : decode cX11_does 67 = .ok (.aload_n 0, 1) := dqn_42 (k := 220) qh_cX11_does rfl rfl
theorem dX11_does_68 : decode cX11_does 68 = .ok (.iload_n 2, 1) := dqn_28 (k := 219) qh_cX11_does rfl rfl
theorem dX11_does_69 : decode cX11_does 69 = .ok (.iconst 4, 1) := dqn_7 (k := 218) qh_cX11_does rfl rfl
theorem dX11_does_70 : decode cX11_does 70 = .ok (.invokevirtual 211, 3) := dqn_182 (k := 215) qh_cX11_does rfl rfl rfl
theorem dX11_does_73 : decode cX11_does 73 = .ok (.iload_n 3, 1) := dqn_29 (k := 214) qh_cX11_does rfl rfl
theorem dX11_does_74 : decode cX11_does 74 = .ok (.isub, 1) := dqn_100 (k := 213) qh_cX11_does rfl rfl
theorem dX11_does_75 : decode cX11_does 75 = .ok (.invokevirtual 215, 3) := dqn_182 (k := 210) qh_cX11_does rfl rfl rfl
theorem dX11_does_78 : decode cX11_does 78 = .ok (.aload_n 0, 1) := dqn_42 (k := 209) qh_cX11_does rfl rfl
theorem dX11_does_79 : decode cX11_does 79 = .ok (.dup, 1) := dqn_89 (k := 208) qh_cX11_does rfl rfl
theorem dX11_does_80 : decode cX11_does 80 = .ok (.getfield 219, 3) := dqn_180 (k := 205) qh_cX11_does rfl rfl rfl
theorem dX11_does_83 : decode cX11_does 83 = .ok (.iload_n 3, 1) := dqn_29 (k := 204) qh_cX11_does rfl rfl
theorem dX11_does_84 : decode cX11_does 84 = .ok (.aload_n 0, 1) := dqn_42 (k := 203) qh_cX11_does rfl rfl
theorem dX11_does_85 : decode cX11_does 85 = .ok (.getfield 38, 3) := dqn_180 (k := 200) qh_cX11_does rfl rfl rfl
theorem dX11_does_88 : decode cX11_does 88 = .ok (.iconst 2, 1) := dqn_5 (k := 199) qh_cX11_does rfl rfl
theorem dX11_does_89 : decode cX11_does 89 = .ok (.iaload, 1) := dqn_46 (k := 198) qh_cX11_does rfl rfl
theorem dX11_does_90 : decode cX11_does 90 = .ok (.imul, 1) := dqn_104 (k := 197) qh_cX11_does rfl rfl
theorem dX11_does_91 : decode cX11_does 91 = .ok (.iadd, 1) := dqn_96 (k := 196) qh_cX11_does rfl rfl
theorem dX11_does_92 : decode cX11_does 92 = .ok (.putfield 219, 3) := dqn_181 (k := 193) qh_cX11_does rfl rfl rfl
theorem dX11_does_95 : decode cX11_does 95 = .ok (.iconst 1, 1) := dqn_4 (k := 192) qh_cX11_does rfl rfl
theorem dX11_does_96 : decode cX11_does 96 = .ok (.ireturn, 1) := dqn_172 (k := 191) qh_cX11_does rfl rfl
theorem dX11_does_97 : decode cX11_does 97 = .ok (.aload_n 0, 1) := dqn_42 (k := 190) qh_cX11_does rfl rfl
theorem dX11_does_98 : decode cX11_does 98 = .ok (.iload_n 2, 1) := dqn_28 (k := 189) qh_cX11_does rfl rfl
theorem dX11_does_99 : decode cX11_does 99 = .ok (.iconst 1, 1) := dqn_4 (k := 188) qh_cX11_does rfl rfl
theorem dX11_does_100 : decode cX11_does 100 = .ok (.invokevirtual 211, 3) := dqn_182 (k := 185) qh_cX11_does rfl rfl rfl
theorem dX11_does_103 : decode cX11_does 103 = .ok (.iload_n 3, 1) := dqn_29 (k := 184) qh_cX11_does rfl rfl
theorem dX11_does_104 : decode cX11_does 104 = .ok (.if_icmp .ge 5, 3) := dqn_162 (k := 181) (u := 5) qh_cX11_does rfl rfl rfl (sg_p rfl rfl)
theorem dX11_does_107 : decode cX11_does 107 = .ok (.iconst 0, 1) := dqn_3 (k := 180) qh_cX11_does rfl rfl
theorem dX11_does_108 : decode cX11_does 108 = .ok (.ireturn, 1) := dqn_172 (k := 179) qh_cX11_does rfl rfl
theorem dX11_does_109 : decode cX11_does 109 = .ok (.aload_n 0, 1) := dqn_42 (k := 178) qh_cX11_does rfl rfl
theorem dX11_does_110 : decode cX11_does 110 = .ok (.iload_n 2, 1) := dqn_28 (k := 177) qh_cX11_does rfl rfl
theorem dX11_does_111 : decode cX11_does 111 = .ok (.iconst 1, 1) := dqn_4 (k := 176) qh_cX11_does rfl rfl
theorem dX11_does_112 : decode cX11_does 112 = .ok (.aload_n 0, 1) := dqn_42 (k := 175) qh_cX11_does rfl rfl
theorem dX11_does_113 : decode cX11_does 113 = .ok (.iload_n 2, 1) := dqn_28 (k := 174) qh_cX11_does rfl rfl
theorem dX11_does_114 : decode cX11_does 114 = .ok (.iconst 1, 1) := dqn_4 (k := 173) qh_cX11_does rfl rfl
theorem dX11_does_115 : decode cX11_does 115 = .ok (.invokevirtual 211, 3) := dqn_182 (k := 170) qh_cX11_does rfl rfl rfl
theorem dX11_does_118 : decode cX11_does 118 = .ok (.iload_n 3, 1) := dqn_29 (k := 169) qh_cX11_does rfl rfl
theorem dX11_does_119 : decode cX11_does 119 = .ok (.isub, 1) := dqn_100 (k := 168) qh_cX11_does rfl rfl
theorem dX11_does_120 : decode cX11_does 120 = .ok (.invokevirtual 215, 3) := dqn_182 (k := 165) qh_cX11_does rfl rfl rfl
theorem dX11_does_123 : decode cX11_does 123 = .ok (.aload_n 0, 1) := dqn_42 (k := 164) qh_cX11_does rfl rfl
theorem dX11_does_124 : decode cX11_does 124 = .ok (.dup, 1) := dqn_89 (k := 163) qh_cX11_does rfl rfl
theorem dX11_does_125 : decode cX11_does 125 = .ok (.getfield 222, 3) := dqn_180 (k := 160) qh_cX11_does rfl rfl rfl
theorem dX11_does_128 : decode cX11_does 128 = .ok (.iload_n 3, 1) := dqn_29 (k := 159) qh_cX11_does rfl rfl
theorem dX11_does_129 : decode cX11_does 129 = .ok (.aload_n 0, 1) := dqn_42 (k := 158) qh_cX11_does rfl rfl
theorem dX11_does_130 : decode cX11_does 130 = .ok (.iload_n 2, 1) := dqn_28 (k := 157) qh_cX11_does rfl rfl
theorem dX11_does_131 : decode cX11_does 131 = .ok (.bipush 7, 2) := dqn_16 (k := 155) (u := 7) qh_cX11_does rfl rfl rfl (by decide)
theorem dX11_does_133 : decode cX11_does 133 = .ok (.invokevirtual 211, 3) := dqn_182 (k := 152) qh_cX11_does rfl rfl rfl
theorem dX11_does_136 : decode cX11_does 136 = .ok (.imul, 1) := dqn_104 (k := 151) qh_cX11_does rfl rfl
theorem dX11_does_137 : decode cX11_does 137 = .ok (.iadd, 1) := dqn_96 (k := 150) qh_cX11_does rfl rfl
theorem dX11_does_138 : decode cX11_does 138 = .ok (.putfield 222, 3) := dqn_181 (k := 147) qh_cX11_does rfl rfl rfl
theorem dX11_does_141 : decode cX11_does 141 = .ok (.iconst 1, 1) := dqn_4 (k := 146) qh_cX11_does rfl rfl
theorem dX11_does_142 : decode cX11_does 142 = .ok (.ireturn, 1) := dqn_172 (k := 145) qh_cX11_does rfl rfl
theorem dX11_does_143 : decode cX11_does 143 = .ok (.aload_n 0, 1) := dqn_42 (k := 144) qh_cX11_does rfl rfl
theorem dX11_does_144 : decode cX11_does 144 = .ok (.iload_n 2, 1) := dqn_28 (k := 143) qh_cX11_does rfl rfl
theorem dX11_does_145 : decode cX11_does 145 = .ok (.iconst 3, 1) := dqn_6 (k := 142) qh_cX11_does rfl rfl
theorem dX11_does_146 : decode cX11_does 146 = .ok (.invokevirtual 211, 3) := dqn_182 (k := 139) qh_cX11_does rfl rfl rfl
theorem dX11_does_149 : decode cX11_does 149 = .ok (.iload_n 3, 1) := dqn_29 (k := 138) qh_cX11_does rfl rfl
theorem dX11_does_150 : decode cX11_does 150 = .ok (.iadd, 1) := dqn_96 (k := 137) qh_cX11_does rfl rfl
theorem dX11_does_151 : decode cX11_does 151 = .ok (.bipush 24, 2) := dqn_16 (k := 135) (u := 24) qh_cX11_does rfl rfl rfl (by decide)
theorem dX11_does_153 : decode cX11_does 153 = .ok (.if_icmp .le 5, 3) := dqn_164 (k := 132) (u := 5) qh_cX11_does rfl rfl rfl (sg_p rfl rfl)
theorem dX11_does_156 : decode cX11_does 156 = .ok (.iconst 0, 1) := dqn_3 (k := 131) qh_cX11_does rfl rfl
theorem dX11_does_157 : decode cX11_does 157 = .ok (.ireturn, 1) := dqn_172 (k := 130) qh_cX11_does rfl rfl
theorem dX11_does_158 : decode cX11_does 158 = .ok (.aload_n 0, 1) := dqn_42 (k := 129) qh_cX11_does rfl rfl
theorem dX11_does_159 : decode cX11_does 159 = .ok (.iload_n 2, 1) := dqn_28 (k := 128) qh_cX11_does rfl rfl
theorem dX11_does_160 : decode cX11_does 160 = .ok (.iconst 3, 1) := dqn_6 (k := 127) qh_cX11_does rfl rfl
theorem dX11_does_161 : decode cX11_does 161 = .ok (.aload_n 0, 1) := dqn_42 (k := 126) qh_cX11_does rfl rfl
theorem dX11_does_162 : decode cX11_does 162 = .ok (.iload_n 2, 1) := dqn_28 (k := 125) qh_cX11_does rfl rfl
theorem dX11_does_163 : decode cX11_does 163 = .ok (.iconst 3, 1) := dqn_6 (k := 124) qh_cX11_does rfl rfl
theorem dX11_does_164 : decode cX11_does 164 = .ok (.invokevirtual 211, 3) := dqn_182 (k := 121) qh_cX11_does rfl rfl rfl
theorem dX11_does_167 : decode cX11_does 167 = .ok (.iload_n 3, 1) := dqn_29 (k := 120) qh_cX11_does rfl rfl
theorem dX11_does_168 : decode cX11_does 168 = .ok (.iadd, 1) := dqn_96 (k := 119) qh_cX11_does rfl rfl
theorem dX11_does_169 : decode cX11_does 169 = .ok (.invokevirtual 215, 3) := dqn_182 (k := 116) qh_cX11_does rfl rfl rfl
theorem dX11_does_172 : decode cX11_does 172 = .ok (.aload_n 0, 1) := dqn_42 (k := 115) qh_cX11_does rfl rfl
theorem dX11_does_173 : decode cX11_does 173 = .ok (.dup, 1) := dqn_89 (k := 114) qh_cX11_does rfl rfl
theorem dX11_does_174 : decode cX11_does 174 = .ok (.getfield 219, 3) := dqn_180 (k := 111) qh_cX11_does rfl rfl rfl
theorem dX11_does_177 : decode cX11_does 177 = .ok (.iload_n 3, 1) := dqn_29 (k := 110) qh_cX11_does rfl rfl
theorem dX11_does_178 : decode cX11_does 178 = .ok (.aload_n 0, 1) := dqn_42 (k := 109) qh_cX11_does rfl rfl
theorem dX11_does_179 : decode cX11_does 179 = .ok (.getfield 38, 3) := dqn_180 (k := 106) qh_cX11_does rfl rfl rfl
theorem dX11_does_182 : decode cX11_does 182 = .ok (.iconst 3, 1) := dqn_6 (k := 105) qh_cX11_does rfl rfl
theorem dX11_does_183 : decode cX11_does 183 = .ok (.iaload, 1) := dqn_46 (k := 104) qh_cX11_does rfl rfl
theorem dX11_does_184 : decode cX11_does 184 = .ok (.imul, 1) := dqn_104 (k := 103) qh_cX11_does rfl rfl
theorem dX11_does_185 : decode cX11_does 185 = .ok (.iadd, 1) := dqn_96 (k := 102) qh_cX11_does rfl rfl
theorem dX11_does_186 : decode cX11_does 186 = .ok (.putfield 219, 3) := dqn_181 (k := 99) qh_cX11_does rfl rfl rfl
theorem dX11_does_189 : decode cX11_does 189 = .ok (.iconst 1, 1) := dqn_4 (k := 98) qh_cX11_does rfl rfl
theorem dX11_does_190 : decode cX11_does 190 = .ok (.ireturn, 1) := dqn_172 (k := 97) qh_cX11_does rfl rfl
theorem dX11_does_191 : decode cX11_does 191 = .ok (.iload_n 3, 1) := dqn_29 (k := 96) qh_cX11_does rfl rfl
theorem dX11_does_192 : decode cX11_does 192 = .ok (.iload_n 2, 1) := dqn_28 (k := 95) qh_cX11_does rfl rfl
theorem dX11_does_193 : decode cX11_does 193 = .ok (.iconst 1, 1) := dqn_4 (k := 94) qh_cX11_does rfl rfl
theorem dX11_does_194 : decode cX11_does 194 = .ok (.iadd, 1) := dqn_96 (k := 93) qh_cX11_does rfl rfl
theorem dX11_does_195 : decode cX11_does 195 = .ok (.aload_n 0, 1) := dqn_42 (k := 92) qh_cX11_does rfl rfl
theorem dX11_does_196 : decode cX11_does 196 = .ok (.getfield 208, 3) := dqn_180 (k := 89) qh_cX11_does rfl rfl rfl
theorem dX11_does_199 : decode cX11_does 199 = .ok (.iconst 1, 1) := dqn_4 (k := 88) qh_cX11_does rfl rfl
theorem dX11_does_200 : decode cX11_does 200 = .ok (.isub, 1) := dqn_100 (k := 87) qh_cX11_does rfl rfl
theorem dX11_does_201 : decode cX11_does 201 = .ok (.invokestatic 78, 3) := dqn_184 (k := 84) qh_cX11_does rfl rfl rfl
theorem dX11_does_204 : decode cX11_does 204 = .ok (.ifCond .ne 5, 3) := dqn_154 (k := 81) (u := 5) qh_cX11_does rfl rfl rfl (sg_p rfl rfl)
theorem dX11_does_207 : decode cX11_does 207 = .ok (.iconst 0, 1) := dqn_3 (k := 80) qh_cX11_does rfl rfl
theorem dX11_does_208 : decode cX11_does 208 = .ok (.ireturn, 1) := dqn_172 (k := 79) qh_cX11_does rfl rfl
theorem dX11_does_209 : decode cX11_does 209 = .ok (.aload_n 0, 1) := dqn_42 (k := 78) qh_cX11_does rfl rfl
theorem dX11_does_210 : decode cX11_does 210 = .ok (.iload_n 2, 1) := dqn_28 (k := 77) qh_cX11_does rfl rfl
theorem dX11_does_211 : decode cX11_does 211 = .ok (.bipush 8, 2) := dqn_16 (k := 75) (u := 8) qh_cX11_does rfl rfl rfl (by decide)
theorem dX11_does_213 : decode cX11_does 213 = .ok (.iload_n 3, 1) := dqn_29 (k := 74) qh_cX11_does rfl rfl
theorem dX11_does_214 : decode cX11_does 214 = .ok (.invokevirtual 215, 3) := dqn_182 (k := 71) qh_cX11_does rfl rfl rfl
theorem dX11_does_217 : decode cX11_does 217 = .ok (.aload_n 0, 1) := dqn_42 (k := 70) qh_cX11_does rfl rfl
theorem dX11_does_218 : decode cX11_does 218 = .ok (.dup, 1) := dqn_89 (k := 69) qh_cX11_does rfl rfl
theorem dX11_does_219 : decode cX11_does 219 = .ok (.getfield 219, 3) := dqn_180 (k := 66) qh_cX11_does rfl rfl rfl
theorem dX11_does_222 : decode cX11_does 222 = .ok (.aload_n 0, 1) := dqn_42 (k := 65) qh_cX11_does rfl rfl
theorem dX11_does_223 : decode cX11_does 223 = .ok (.getfield 38, 3) := dqn_180 (k := 62) qh_cX11_does rfl rfl rfl
theorem dX11_does_226 : decode cX11_does 226 = .ok (.iconst 4, 1) := dqn_7 (k := 61) qh_cX11_does rfl rfl
theorem dX11_does_227 : decode cX11_does 227 = .ok (.iaload, 1) := dqn_46 (k := 60) qh_cX11_does rfl rfl
theorem dX11_does_228 : decode cX11_does 228 = .ok (.iadd, 1) := dqn_96 (k := 59) qh_cX11_does rfl rfl
theorem dX11_does_229 : decode cX11_does 229 = .ok (.putfield 219, 3) := dqn_181 (k := 56) qh_cX11_does rfl rfl rfl
theorem dX11_does_232 : decode cX11_does 232 = .ok (.iconst 1, 1) := dqn_4 (k := 55) qh_cX11_does rfl rfl
theorem dX11_does_233 : decode cX11_does 233 = .ok (.ireturn, 1) := dqn_172 (k := 54) qh_cX11_does rfl rfl
theorem dX11_does_234 : decode cX11_does 234 = .ok (.aload_n 0, 1) := dqn_42 (k := 53) qh_cX11_does rfl rfl
theorem dX11_does_235 : decode cX11_does 235 = .ok (.dup, 1) := dqn_89 (k := 52) qh_cX11_does rfl rfl
theorem dX11_does_236 : decode cX11_does 236 = .ok (.getfield 222, 3) := dqn_180 (k := 49) qh_cX11_does rfl rfl rfl
theorem dX11_does_239 : decode cX11_does 239 = .ok (.aload_n 0, 1) := dqn_42 (k := 48) qh_cX11_does rfl rfl
theorem dX11_does_240 : decode cX11_does 240 = .ok (.iload_n 2, 1) := dqn_28 (k := 47) qh_cX11_does rfl rfl
theorem dX11_does_241 : decode cX11_does 241 = .ok (.iconst 1, 1) := dqn_4 (k := 46) qh_cX11_does rfl rfl
theorem dX11_does_242 : decode cX11_does 242 = .ok (.invokevirtual 211, 3) := dqn_182 (k := 43) qh_cX11_does rfl rfl rfl
theorem dX11_does_245 : decode cX11_does 245 = .ok (.aload_n 0, 1) := dqn_42 (k := 42) qh_cX11_does rfl rfl
theorem dX11_does_246 : decode cX11_does 246 = .ok (.iload_n 2, 1) := dqn_28 (k := 41) qh_cX11_does rfl rfl
theorem dX11_does_247 : decode cX11_does 247 = .ok (.bipush 7, 2) := dqn_16 (k := 39) (u := 7) qh_cX11_does rfl rfl rfl (by decide)
theorem dX11_does_249 : decode cX11_does 249 = .ok (.invokevirtual 211, 3) := dqn_182 (k := 36) qh_cX11_does rfl rfl rfl
theorem dX11_does_252 : decode cX11_does 252 = .ok (.imul, 1) := dqn_104 (k := 35) qh_cX11_does rfl rfl
theorem dX11_does_253 : decode cX11_does 253 = .ok (.iadd, 1) := dqn_96 (k := 34) qh_cX11_does rfl rfl
theorem dX11_does_254 : decode cX11_does 254 = .ok (.putfield 222, 3) := dqn_181 (k := 31) qh_cX11_does rfl rfl rfl
theorem dX11_does_257 : decode cX11_does 257 = .ok (.aload_n 0, 1) := dqn_42 (k := 30) qh_cX11_does rfl rfl
theorem dX11_does_258 : decode cX11_does 258 = .ok (.iload_n 2, 1) := dqn_28 (k := 29) qh_cX11_does rfl rfl
theorem dX11_does_259 : decode cX11_does 259 = .ok (.iconst 1, 1) := dqn_4 (k := 28) qh_cX11_does rfl rfl
theorem dX11_does_260 : decode cX11_does 260 = .ok (.iconst 0, 1) := dqn_3 (k := 27) qh_cX11_does rfl rfl
theorem dX11_does_261 : decode cX11_does 261 = .ok (.invokevirtual 215, 3) := dqn_182 (k := 24) qh_cX11_does rfl rfl rfl
theorem dX11_does_264 : decode cX11_does 264 = .ok (.aload_n 0, 1) := dqn_42 (k := 23) qh_cX11_does rfl rfl
theorem dX11_does_265 : decode cX11_does 265 = .ok (.iload_n 2, 1) := dqn_28 (k := 22) qh_cX11_does rfl rfl
theorem dX11_does_266 : decode cX11_does 266 = .ok (.iconst 0, 1) := dqn_3 (k := 21) qh_cX11_does rfl rfl
theorem dX11_does_267 : decode cX11_does 267 = .ok (.iconst 0, 1) := dqn_3 (k := 20) qh_cX11_does rfl rfl
theorem dX11_does_268 : decode cX11_does 268 = .ok (.invokevirtual 215, 3) := dqn_182 (k := 17) qh_cX11_does rfl rfl rfl
theorem dX11_does_271 : decode cX11_does 271 = .ok (.aload_n 0, 1) := dqn_42 (k := 16) qh_cX11_does rfl rfl
theorem dX11_does_272 : decode cX11_does 272 = .ok (.iload_n 2, 1) := dqn_28 (k := 15) qh_cX11_does rfl rfl
theorem dX11_does_273 : decode cX11_does 273 = .ok (.iconst 4, 1) := dqn_7 (k := 14) qh_cX11_does rfl rfl
theorem dX11_does_274 : decode cX11_does 274 = .ok (.iconst 0, 1) := dqn_3 (k := 13) qh_cX11_does rfl rfl
theorem dX11_does_275 : decode cX11_does 275 = .ok (.invokevirtual 215, 3) := dqn_182 (k := 10) qh_cX11_does rfl rfl rfl
theorem dX11_does_278 : decode cX11_does 278 = .ok (.aload_n 0, 1) := dqn_42 (k := 9) qh_cX11_does rfl rfl
theorem dX11_does_279 : decode cX11_does 279 = .ok (.iload_n 2, 1) := dqn_28 (k := 8) qh_cX11_does rfl rfl
theorem dX11_does_280 : decode cX11_does 280 = .ok (.bipush 15, 2) := dqn_16 (k := 6) (u := 15) qh_cX11_does rfl rfl rfl (by decide)
theorem dX11_does_282 : decode cX11_does 282 = .ok (.iconst 1, 1) := dqn_4 (k := 5) qh_cX11_does rfl rfl
theorem dX11_does_283 : decode cX11_does 283 = .ok (.invokevirtual 215, 3) := dqn_182 (k := 2) qh_cX11_does rfl rfl rfl
theorem dX11_does_286 : decode cX11_does 286 = .ok (.iconst 1, 1) := dqn_4 (k := 1) qh_cX11_does rfl rfl
theorem dX11_does_287 : decode cX11_does 287 = .ok (.ireturn, 1) := dqn_172 (k := 0) qh_cX11_does rfl rfl
theorem dX11_lay_0 : decode cX11_lay 0 = .ok (.aload_n 0, 1) := dqn_42 (k := 189) qh_cX11_lay rfl rfl
theorem dX11_lay_1 : decode cX11_lay 1 = .ok (.iload_n 1, 1) := dqn_27 (k := 188) qh_cX11_lay rfl rfl
theorem dX11_lay_2 : decode cX11_lay 2 = .ok (.invokevirtual 205, 3) := dqn_182 (k := 185) qh_cX11_lay rfl rfl rfl
theorem dX11_lay_5 : decode cX11_lay 5 = .ok (.ifCond .eq 16, 3) := dqn_153 (k := 182) (u := 16) qh_cX11_lay rfl rfl rfl (sg_p rfl rfl)
theorem dX11_lay_8 : decode cX11_lay 8 = .ok (.iload_n 2, 1) := dqn_28 (k := 181) qh_cX11_lay rfl rfl
theorem dX11_lay_9 : decode cX11_lay 9 = .ok (.iconst (-1), 1) := dqn_2 (k := 180) qh_cX11_lay rfl rfl
theorem dX11_lay_10 : decode cX11_lay 10 = .ok (.if_icmp .eq 13, 3) := dqn_159 (k := 177) (u := 13) qh_cX11_lay rfl rfl rfl (sg_p rfl rfl)
theorem dX11_lay_13 : decode cX11_lay 13 = .ok (.aload_n 0, 1) := dqn_42 (k := 176) qh_cX11_lay rfl rfl
theorem dX11_lay_14 : decode cX11_lay 14 = .ok (.iload_n 2, 1) := dqn_28 (k := 175) qh_cX11_lay rfl rfl
theorem dX11_lay_15 : decode cX11_lay 15 = .ok (.invokevirtual 225, 3) := dqn_182 (k := 172) qh_cX11_lay rfl rfl rfl
theorem dX11_lay_18 : decode cX11_lay 18 = .ok (.ifCond .ne 5, 3) := dqn_154 (k := 169) (u := 5) qh_cX11_lay rfl rfl rfl (sg_p rfl rfl)
theorem dX11_lay_21 : decode cX11_lay 21 = .ok (.iconst 0, 1) := dqn_3 (k := 168) qh_cX11_lay rfl rfl
theorem dX11_lay_22 : decode cX11_lay 22 = .ok (.ireturn, 1) := dqn_172 (k := 167) qh_cX11_lay rfl rfl
theorem dX11_lay_23 : decode cX11_lay 23 = .ok (.iconst 0, 1) := dqn_3 (k := 166) qh_cX11_lay rfl rfl
theorem dX11_lay_24 : decode cX11_lay 24 = .ok (.istore_n 3, 1) := dqn_62 (k := 165) qh_cX11_lay rfl rfl
theorem dX11_lay_25 : decode cX11_lay 25 = .ok (.iload_n 3, 1) := dqn_29 (k := 164) qh_cX11_lay rfl rfl
theorem dX11_lay_26 : decode cX11_lay 26 = .ok (.sipush 157, 3) := dqn_17 (k := 161) (u := 157) qh_cX11_lay rfl rfl rfl (sg_p rfl rfl)
theorem dX11_lay_29 : decode cX11_lay 29 = .ok (.if_icmp .ge 27, 3) := dqn_162 (k := 158) (u := 27) qh_cX11_lay rfl rfl rfl (sg_p rfl rfl)
theorem dX11_lay_32 : decode cX11_lay 32 = .ok (.aload_n 0, 1) := dqn_42 (k := 157) qh_cX11_lay rfl rfl
theorem dX11_lay_33 : decode cX11_lay 33 = .ok (.getfield 38, 3) := dqn_180 (k := 154) qh_cX11_lay rfl rfl rfl
theorem dX11_lay_36 : decode cX11_lay 36 = .ok (.iload_n 3, 1) := dqn_29 (k := 153) qh_cX11_lay rfl rfl
theorem dX11_lay_37 : decode cX11_lay 37 = .ok (.aload_n 0, 1) := dqn_42 (k := 152) qh_cX11_lay rfl rfl
theorem dX11_lay_38 : decode cX11_lay 38 = .ok (.getfield 26, 3) := dqn_180 (k := 149) qh_cX11_lay rfl rfl rfl
theorem dX11_lay_41 : decode cX11_lay 41 = .ok (.sipush 157, 3) := dqn_17 (k := 146) (u := 157) qh_cX11_lay rfl rfl rfl (sg_p rfl rfl)
theorem dX11_lay_44 : decode cX11_lay 44 = .ok (.iload_n 1, 1) := dqn_27 (k := 145) qh_cX11_lay rfl rfl
theorem dX11_lay_45 : decode cX11_lay 45 = .ok (.imul, 1) := dqn_104 (k := 144) qh_cX11_lay rfl rfl
theorem dX11_lay_46 : decode cX11_lay 46 = .ok (.iload_n 3, 1) := dqn_29 (k := 143) qh_cX11_lay rfl rfl
theorem dX11_lay_47 : decode cX11_lay 47 = .ok (.iadd, 1) := dqn_96 (k := 142) qh_cX11_lay rfl rfl
theorem dX11_lay_48 : decode cX11_lay 48 = .ok (.iaload, 1) := dqn_46 (k := 141) qh_cX11_lay rfl rfl
theorem dX11_lay_49 : decode cX11_lay 49 = .ok (.iastore, 1) := dqn_79 (k := 140) qh_cX11_lay rfl rfl
theorem dX11_lay_50 : decode cX11_lay 50 = .ok (.iinc 3 1, 3) := dqn_132 (k := 137) (u := 1) qh_cX11_lay rfl rfl rfl rfl (by decide)
theorem dX11_lay_53 : decode cX11_lay 53 = .ok (.goto (-28), 3) := dqn_167 (k := 134) (u := 65508) qh_cX11_lay rfl rfl rfl (sg_n (k := 28) rfl rfl rfl)
theorem dX11_lay_56 : decode cX11_lay 56 = .ok (.aload_n 0, 1) := dqn_42 (k := 133) qh_cX11_lay rfl rfl
theorem dX11_lay_57 : decode cX11_lay 57 = .ok (.aload_n 0, 1) := dqn_42 (k := 132) qh_cX11_lay rfl rfl
theorem dX11_lay_58 : decode cX11_lay 58 = .ok (.getfield 38, 3) := dqn_180 (k := 129) qh_cX11_lay rfl rfl rfl
theorem dX11_lay_61 : decode cX11_lay 61 = .ok (.iconst 0, 1) := dqn_3 (k := 128) qh_cX11_lay rfl rfl
theorem dX11_lay_62 : decode cX11_lay 62 = .ok (.iaload, 1) := dqn_46 (k := 127) qh_cX11_lay rfl rfl
theorem dX11_lay_63 : decode cX11_lay 63 = .ok (.putfield 208, 3) := dqn_181 (k := 124) qh_cX11_lay rfl rfl rfl
theorem dX11_lay_66 : decode cX11_lay 66 = .ok (.aload_n 0, 1) := dqn_42 (k := 123) qh_cX11_lay rfl rfl
theorem dX11_lay_67 : decode cX11_lay 67 = .ok (.iconst 0, 1) := dqn_3 (k := 122) qh_cX11_lay rfl rfl
theorem dX11_lay_68 : decode cX11_lay 68 = .ok (.putfield 228, 3) := dqn_181 (k := 119) qh_cX11_lay rfl rfl rfl
theorem dX11_lay_71 : decode cX11_lay 71 = .ok (.aload_n 0, 1) := dqn_42 (k := 118) qh_cX11_lay rfl rfl
theorem dX11_lay_72 : decode cX11_lay 72 = .ok (.iconst 0, 1) := dqn_3 (k := 117) qh_cX11_lay rfl rfl
theorem dX11_lay_73 : decode cX11_lay 73 = .ok (.putfield 219, 3) := dqn_181 (k := 114) qh_cX11_lay rfl rfl rfl
theorem dX11_lay_76 : decode cX11_lay 76 = .ok (.aload_n 0, 1) := dqn_42 (k := 113) qh_cX11_lay rfl rfl
theorem dX11_lay_77 : decode cX11_lay 77 = .ok (.iconst 0, 1) := dqn_3 (k := 112) qh_cX11_lay rfl rfl
theorem dX11_lay_78 : decode cX11_lay 78 = .ok (.putfield 222, 3) := dqn_181 (k := 109) qh_cX11_lay rfl rfl rfl
theorem dX11_lay_81 : decode cX11_lay 81 = .ok (.aload_n 0, 1) := dqn_42 (k := 108) qh_cX11_lay rfl rfl
theorem dX11_lay_82 : decode cX11_lay 82 = .ok (.iconst (-1), 1) := dqn_2 (k := 107) qh_cX11_lay rfl rfl
theorem dX11_lay_83 : decode cX11_lay 83 = .ok (.putfield 231, 3) := dqn_181 (k := 104) qh_cX11_lay rfl rfl rfl
theorem dX11_lay_86 : decode cX11_lay 86 = .ok (.aload_n 0, 1) := dqn_42 (k := 103) qh_cX11_lay rfl rfl
theorem dX11_lay_87 : decode cX11_lay 87 = .ok (.iconst 0, 1) := dqn_3 (k := 102) qh_cX11_lay rfl rfl
theorem dX11_lay_88 : decode cX11_lay 88 = .ok (.putfield 234, 3) := dqn_181 (k := 99) qh_cX11_lay rfl rfl rfl
theorem dX11_lay_91 : decode cX11_lay 91 = .ok (.iload_n 2, 1) := dqn_28 (k := 98) qh_cX11_lay rfl rfl
theorem dX11_lay_92 : decode cX11_lay 92 = .ok (.iconst (-1), 1) := dqn_2 (k := 97) qh_cX11_lay rfl rfl
theorem dX11_lay_93 : decode cX11_lay 93 = .ok (.if_icmp .eq 7, 3) := dqn_159 (k := 94) (u := 7) qh_cX11_lay rfl rfl rfl (sg_p rfl rfl)
theorem dX11_lay_96 : decode cX11_lay 96 = .ok (.iconst 1, 1) := dqn_4 (k := 93) qh_cX11_lay rfl rfl
theorem dX11_lay_97 : decode cX11_lay 97 = .ok (.goto 4, 3) := dqn_167 (k := 90) (u := 4) qh_cX11_lay rfl rfl rfl (sg_p rfl rfl)
theorem dX11_lay_100 : decode cX11_lay 100 = .ok (.iconst 0, 1) := dqn_3 (k := 89) qh_cX11_lay rfl rfl
theorem dX11_lay_101 : decode cX11_lay 101 = .ok (.istore_n 3, 1) := dqn_62 (k := 88) qh_cX11_lay rfl rfl
theorem dX11_lay_102 : decode cX11_lay 102 = .ok (.iload_n 3, 1) := dqn_29 (k := 87) qh_cX11_lay rfl rfl
theorem dX11_lay_103 : decode cX11_lay 103 = .ok (.ifCond .eq 85, 3) := dqn_153 (k := 84) (u := 85) qh_cX11_lay rfl rfl rfl (sg_p rfl rfl)
theorem dX11_lay_106 : decode cX11_lay 106 = .ok (.aload_n 0, 1) := dqn_42 (k := 83) qh_cX11_lay rfl rfl
theorem dX11_lay_107 : decode cX11_lay 107 = .ok (.getfield 228, 3) := dqn_180 (k := 80) qh_cX11_lay rfl rfl rfl
theorem dX11_lay_110 : decode cX11_lay 110 = .ok (.aload_n 0, 1) := dqn_42 (k := 79) qh_cX11_lay rfl rfl
theorem dX11_lay_111 : decode cX11_lay 111 = .ok (.getfield 29, 3) := dqn_180 (k := 76) qh_cX11_lay rfl rfl rfl
theorem dX11_lay_114 : decode cX11_lay 114 = .ok (.bipush 37, 2) := dqn_16 (k := 74) (u := 37) qh_cX11_lay rfl rfl rfl (by decide)
theorem dX11_lay_116 : decode cX11_lay 116 = .ok (.iload_n 2, 1) := dqn_28 (k := 73) qh_cX11_lay rfl rfl
theorem dX11_lay_117 : decode cX11_lay 117 = .ok (.imul, 1) := dqn_104 (k := 72) qh_cX11_lay rfl rfl
theorem dX11_lay_118 : decode cX11_lay 118 = .ok (.iaload, 1) := dqn_46 (k := 71) qh_cX11_lay rfl rfl
theorem dX11_lay_119 : decode cX11_lay 119 = .ok (.if_icmp .ge 69, 3) := dqn_162 (k := 68) (u := 69) qh_cX11_lay rfl rfl rfl (sg_p rfl rfl)
theorem dX11_lay_122 : decode cX11_lay 122 = .ok (.bipush 37, 2) := dqn_16 (k := 66) (u := 37) qh_cX11_lay rfl rfl rfl (by decide)
theorem dX11_lay_124 : decode cX11_lay 124 = .ok (.iload_n 2, 1) := dqn_28 (k := 65) qh_cX11_lay rfl rfl
theorem dX11_lay_125 : decode cX11_lay 125 = .ok (.imul, 1) := dqn_104 (k := 64) qh_cX11_lay rfl rfl
theorem dX11_lay_126 : decode cX11_lay 126 = .ok (.iconst 1, 1) := dqn_4 (k := 63) qh_cX11_lay rfl rfl
theorem dX11_lay_127 : decode cX11_lay 127 = .ok (.iadd, 1) := dqn_96 (k := 62) qh_cX11_lay rfl rfl
theorem dX11_lay_128 : decode cX11_lay 128 = .ok (.iconst 3, 1) := dqn_6 (k := 61) qh_cX11_lay rfl rfl
theorem dX11_lay_129 : decode cX11_lay 129 = .ok (.aload_n 0, 1) := dqn_42 (k := 60) qh_cX11_lay rfl rfl
theorem dX11_lay_130 : decode cX11_lay 130 = .ok (.getfield 228, 3) := dqn_180 (k := 57) qh_cX11_lay rfl rfl rfl
theorem dX11_lay_133 : decode cX11_lay 133 = .ok (.imul, 1) := dqn_104 (k := 56) qh_cX11_lay rfl rfl
theorem dX11_lay_134 : decode cX11_lay 134 = .ok (.iadd, 1) := dqn_96 (k := 55) qh_cX11_lay rfl rfl
theorem dX11_lay_135 : decode cX11_lay 135 = .ok (.istore 4, 2) := dqn_54 (k := 53) qh_cX11_lay rfl rfl rfl
theorem dX11_lay_137 : decode cX11_lay 137 = .ok (.aload_n 0, 1) := dqn_42 (k := 52) qh_cX11_lay rfl rfl
theorem dX11_lay_138 : decode cX11_lay 138 = .ok (.aload_n 0, 1) := dqn_42 (k := 51) qh_cX11_lay rfl rfl
theorem dX11_lay_139 : decode cX11_lay 139 = .ok (.getfield 29, 3) := dqn_180 (k := 48) qh_cX11_lay rfl rfl rfl
theorem dX11_lay_142 : decode cX11_lay 142 = .ok (.iload 4, 2) := dqn_21 (k := 46) qh_cX11_lay rfl rfl rfl
theorem dX11_lay_144 : decode cX11_lay 144 = .ok (.iaload, 1) := dqn_46 (k := 45) qh_cX11_lay rfl rfl
theorem dX11_lay_145 : decode cX11_lay 145 = .ok (.aload_n 0, 1) := dqn_42 (k := 44) qh_cX11_lay rfl rfl
theorem dX11_lay_146 : decode cX11_lay 146 = .ok (.getfield 29, 3) := dqn_180 (k := 41) qh_cX11_lay rfl rfl rfl
theorem dX11_lay_149 : decode cX11_lay 149 = .ok (.iload 4, 2) := dqn_21 (k := 39) qh_cX11_lay rfl rfl rfl
theorem dX11_lay_151 : decode cX11_lay 151 = .ok (.iconst 1, 1) := dqn_4 (k := 38) qh_cX11_lay rfl rfl
theorem dX11_lay_152 : decode cX11_lay 152 = .ok (.iadd, 1) := dqn_96 (k := 37) qh_cX11_lay rfl rfl
theorem dX11_lay_153 : decode cX11_lay 153 = .ok (.iaload, 1) := dqn_46 (k := 36) qh_cX11_lay rfl rfl
theorem dX11_lay_154 : decode cX11_lay 154 = .ok (.aload_n 0, 1) := dqn_42 (k := 35) qh_cX11_lay rfl rfl
theorem dX11_lay_155 : decode cX11_lay 155 = .ok (.getfield 29, 3) := dqn_180 (k := 32) qh_cX11_lay rfl rfl rfl
theorem dX11_lay_158 : decode cX11_lay 158 = .ok (.iload 4, 2) := dqn_21 (k := 30) qh_cX11_lay rfl rfl rfl
theorem dX11_lay_160 : decode cX11_lay 160 = .ok (.iconst 2, 1) := dqn_5 (k := 29) qh_cX11_lay rfl rfl
theorem dX11_lay_161 : decode cX11_lay 161 = .ok (.iadd, 1) := dqn_96 (k := 28) qh_cX11_lay rfl rfl
theorem dX11_lay_162 : decode cX11_lay 162 = .ok (.iaload, 1) := dqn_46 (k := 27) qh_cX11_lay rfl rfl
theorem dX11_lay_163 : decode cX11_lay 163 = .ok (.invokevirtual 237, 3) := dqn_182 (k := 24) qh_cX11_lay rfl rfl rfl
theorem dX11_lay_166 : decode cX11_lay 166 = .ok (.istore_n 3, 1) := dqn_62 (k := 23) qh_cX11_lay rfl rfl
theorem dX11_lay_167 : decode cX11_lay 167 = .ok (.aload_n 0, 1) := dqn_42 (k := 22) qh_cX11_lay rfl rfl
theorem dX11_lay_168 : decode cX11_lay 168 = .ok (.dup, 1) := dqn_89 (k := 21) qh_cX11_lay rfl rfl
theorem dX11_lay_169 : decode cX11_lay 169 = .ok (.getfield 228, 3) := dqn_180 (k := 18) qh_cX11_lay rfl rfl rfl
theorem dX11_lay_172 : decode cX11_lay 172 = .ok (.iload_n 3, 1) := dqn_29 (k := 17) qh_cX11_lay rfl rfl
theorem dX11_lay_173 : decode cX11_lay 173 = .ok (.ifCond .eq 7, 3) := dqn_153 (k := 14) (u := 7) qh_cX11_lay rfl rfl rfl (sg_p rfl rfl)
theorem dX11_lay_176 : decode cX11_lay 176 = .ok (.iconst 1, 1) := dqn_4 (k := 13) qh_cX11_lay rfl rfl
theorem dX11_lay_177 : decode cX11_lay 177 = .ok (.goto 4, 3) := dqn_167 (k := 10) (u := 4) qh_cX11_lay rfl rfl rfl (sg_p rfl rfl)
theorem dX11_lay_180 : decode cX11_lay 180 = .ok (.iconst 0, 1) := dqn_3 (k := 9) qh_cX11_lay rfl rfl
theorem dX11_lay_181 : decode cX11_lay 181 = .ok (.iadd, 1) := dqn_96 (k := 8) qh_cX11_lay rfl rfl
theorem dX11_lay_182 : decode cX11_lay 182 = .ok (.putfield 228, 3) := dqn_181 (k := 5) qh_cX11_lay rfl rfl rfl
theorem dX11_lay_185 : decode cX11_lay 185 = .ok (.goto (-83), 3) := dqn_167 (k := 2) (u := 65453) qh_cX11_lay rfl rfl rfl (sg_n (k := 83) rfl rfl rfl)
theorem dX11_lay_188 : decode cX11_lay 188 = .ok (.iconst 1, 1) := dqn_4 (k := 1) qh_cX11_lay rfl rfl
theorem dX11_lay_189 : decode cX11_lay 189 = .ok (.ireturn, 1) := dqn_172 (k := 0) qh_cX11_lay rfl rfl
/-! the reference's rows -/
def N0 (u : Nat → Nat → Int32) : Prop := ∀ j, 157 ≤ j → Bd (-1) 999 (u 172 j)
theorem n0_c {u u2 : Nat → Nat → Int32} (e : u2 172 = u 172) (h : N0 u) : N0 u2 := by unfold N0; rw [e]; exact h
theorem n0_s {u u2 : Nat → Nat → Int32} {p c v : Int32} (e : u2 = ms u 172 (13 + 16 * p + c).toNatClampNeg v) (bp : Bd 0 8 p) (bc : Bd 0 15 c) (h : N0 u) : N0 u2 := by
  rw [mix bp bc] at e
  obtain ⟨p1, p2⟩ := bp; obtain ⟨c1, c2⟩ := bc
  intro j hj
  rw [ms_i e (by omega)]
  exact h j hj
theorem n0_k {u u2 : Nat → Nat → Int32} {k v : Int32} {lo hi : Int} (e : u2 = ms u 172 k.toNatClampNeg v) (b : Bd lo hi k) (r : 0 ≤ lo ∧ hi ≤ 156) (h : N0 u) : N0 u2 := by
  have h1 : k.toNatClampNeg = k.toInt.toNat := rfl
  obtain ⟨b1, b2⟩ := b
  intro j hj
  rw [ms_i e (by omega)]
  exact h j hj
def MY (u : Nat → Nat → Int32) : Prop := ∀ j, j < 4 → Bd 0 2 (u 167 (2 * j)) ∧ Bd 0 3 (u 167 (2 * j + 1))
theorem my_c {u u2 : Nat → Nat → Int32} (e : u2 167 = u 167) (h : MY u) : MY u2 := by unfold MY; rw [e]; exact h
def HD (u : Nat → Nat → Int32) : Prop := ∀ s, s < 8 → Bd 0 9 (u 168 (157 * s)) ∧ (∀ p, p < 9 → Bd (-1) 8 (u 168 (157 * s + (21 + 16 * p))) ∧ Bd (-1) 8 (u 168 (157 * s + (22 + 16 * p)))) ∧ Bd 0 4 (u 168 (157 * s + 1))
theorem hd_c {u u2 : Nat → Nat → Int32} (e : u2 168 = u 168) (h : HD u) : HD u2 := by unfold HD; rw [e]; exact h
def HC (u : Nat → Nat → Int32) : Prop := ∀ j : Nat, j < 4 → ∀ h : Nat, h < 2 → ((h : Nat) : Int) < (u 167 (2 * j)).toInt → RCf (fun k => u 168 (157 * (2 * j + h) + k))
theorem hc_c {u u2 : Nat → Nat → Int32} (e1 : u2 167 = u 167) (e2 : u2 168 = u 168) (h : HC u) : HC u2 := by unfold HC; rw [e1, e2]; exact h
def PL (u : Nat → Nat → Int32) : Prop := ∀ s, s < 12 → Bd 0 12 (u 169 (37 * s)) ∧ ∀ i, i < 12 → (u 169 (37 * s + (1 + 3 * i)) = 4 ∨ Bd 0 999 (u 169 (37 * s + (3 + 3 * i)))) ∧ Bd 0 999 (u 169 (37 * s + (2 + 3 * i)))
theorem pl_c {u u2 : Nat → Nat → Int32} (e : u2 169 = u 169) (h : PL u) : PL u2 := by unfold PL; rw [e]; exact h
def CPY (U u : Nat → Nat → Int32) (h k : Int32) : Prop := ∀ j : Nat, (j : Int) < k.toInt → U 172 j = u 168 (157 * h.toInt.toNat + j)
theorem cpy_0 {U u : Nat → Nat → Int32} {h : Int32} : CPY U u h 0 := by
  intro j hj
  have : (0 : Int32).toInt = 0 := rfl
  omega
theorem hix {h k : Int32} (bh : Bd 0 7 h) (bk : Bd 0 156 k) : (157 * h + k).toNatClampNeg = 157 * h.toInt.toNat + k.toInt.toNat := by
  have h2 : (157 * h).toInt = 157 * h.toInt := by
    obtain ⟨p1, p2⟩ := bh
    rw [Int32.toInt_mul, bmod] <;> (have e : (157 : Int32).toInt = 157 := rfl) <;> rw [e] <;> omega
  have h4 : (157 * h + k).toInt = 157 * h.toInt + k.toInt := by
    obtain ⟨p1, p2⟩ := bh; obtain ⟨c1, c2⟩ := bk
    rw [ti_add (by omega) (by omega), h2]
  have h5 : (157 * h + k).toNatClampNeg = (157 * h + k).toInt.toNat := rfl
  obtain ⟨p1, p2⟩ := bh; obtain ⟨c1, c2⟩ := bk
  rw [h5, h4]
  omega
theorem cpy_s {U U2 u : Nat → Nat → Int32} {h k v : Int32} (bh : Bd 0 7 h) (bk : Bd 0 156 k) (e : U2 = ms U 172 k.toNatClampNeg v) (ev : v = u 168 (157 * h + k).toNatClampNeg) (c : CPY U u h k) : CPY U2 u h (k + 1) := by
  intro j hj
  have e1 : (1 : Int32).toInt = 1 := rfl
  have h1 : (k + 1).toInt = k.toInt + 1 := by rw [ti_add (by have := bk.1; have := bk.2; omega) (by have := bk.1; have := bk.2; omega), e1]
  have h2 : k.toNatClampNeg = k.toInt.toNat := rfl
  by_cases q : j = k.toNatClampNeg
  · rw [q, ms_e e, ev, hix bh bk, h2]
  · rw [ms_i e q]
    refine c j ?_
    have := bk.1
    omega
theorem cpy_at {U u : Nat → Nat → Int32} {h k : Int32} (c : CPY U u h k) (bk : Bd 157 157 k) (j : Nat) (hj : j < 157) : U 172 j = u 168 (157 * h.toInt.toNat + j) := c j (by have := bk.1; omega)
theorem lay_dn {U u : Nat → Nat → Int32} {h k : Int32} (c : CPY U u h k) (bk : Bd 157 157 k) (bh : Bd 0 7 h) (hd : HD u) : DN U := by
  intro p hp
  rw [cpy_at c bk _ (by omega), cpy_at c bk _ (by omega)]
  exact (hd h.toInt.toNat (by have := bh.1; have := bh.2; omega)).2.1 p hp
theorem lay_p {U u : Nat → Nat → Int32} {h k : Int32} (c : CPY U u h k) (bk : Bd 157 157 k) (bh : Bd 0 7 h) (hd : HD u) : Bd 0 9 (U 172 0) := by
  rw [cpy_at c bk _ (by omega)]
  exact (hd h.toInt.toNat (by have := bh.1; have := bh.2; omega)).1
theorem lay_ab {U u : Nat → Nat → Int32} {h k : Int32} (c : CPY U u h k) (bk : Bd 157 157 k) (ha : AB u 168 (-1) 999) (h0 : N0 U) : AB U 172 (-1) 999 := by
  intro j
  by_cases hj : j < 157
  · rw [cpy_at c bk j hj]; exact ha _
  · exact h0 j (by omega)
theorem lay_rc {U u : Nat → Nat → Int32} {h k : Int32} (c : CPY U u h k) (bk : Bd 157 157 k) (bh : Bd 0 1 h) (hc : HC u) (hl : h.toInt < (u 167 0).toInt) : RC U := by
  have h1 := hc 0 (by decide) h.toInt.toNat (by have := bh.1; have := bh.2; omega) (by have := bh.1; show ((h.toInt.toNat : Nat) : Int) < (u 167 0).toInt; omega)
  unfold RC RCf
  unfold RCf at h1
  rw [cpy_at c bk 1 (by decide), cpy_at c bk 6 (by decide), cpy_at c bk 8 (by decide), cpy_at c bk 10 (by decide), cpy_at c bk 12 (by decide)]
  rw [show 2 * 0 + h.toInt.toNat = h.toInt.toNat by omega] at h1
  exact h1
theorem plx0 {p : Int32} (bp : Bd 0 11 p) : (37 * p).toNatClampNeg = 37 * p.toInt.toNat := by
  have h2 : (37 * p).toInt = 37 * p.toInt := by
    obtain ⟨p1, p2⟩ := bp
    rw [Int32.toInt_mul, bmod] <;> (have e : (37 : Int32).toInt = 37 := rfl) <;> rw [e] <;> omega
  have h5 : (37 * p).toNatClampNeg = (37 * p).toInt.toNat := rfl
  obtain ⟨p1, p2⟩ := bp
  rw [h5, h2]
  omega
theorem plx1 {p d : Int32} (bp : Bd 0 11 p) (bd : Bd 0 11 d) : (37 * p + 1 + 3 * d).toInt = 37 * p.toInt + 1 + 3 * d.toInt := by
  have h2 : (37 * p).toInt = 37 * p.toInt := by
    obtain ⟨p1, p2⟩ := bp
    rw [Int32.toInt_mul, bmod] <;> (have e : (37 : Int32).toInt = 37 := rfl) <;> rw [e] <;> omega
  have h3 : (3 * d).toInt = 3 * d.toInt := by
    obtain ⟨p1, p2⟩ := bd
    rw [Int32.toInt_mul, bmod] <;> (have e : (3 : Int32).toInt = 3 := rfl) <;> rw [e] <;> omega
  have e1 : (1 : Int32).toInt = 1 := rfl
  obtain ⟨p1, p2⟩ := bp; obtain ⟨d1, d2⟩ := bd
  rw [ti_add, ti_add, h2, h3, e1] <;> (try rw [ti_add]) <;> (try rw [h2]) <;> (try rw [h3]) <;> (try rw [e1]) <;> omega
theorem pl_cnt {u : Nat → Nat → Int32} {p v : Int32} (h : PL u) (bp : Bd 0 11 p) (e : v = u 169 (37 * p).toNatClampNeg) : Bd 0 12 v := by
  rw [e, plx0 bp]
  exact (h p.toInt.toNat (by have := bp.1; have := bp.2; omega)).1
theorem pl_at {u : Nat → Nat → Int32} {p d a b c : Int32} (h : PL u) (bp : Bd 0 11 p) (bd : Bd 0 11 d) (ea : a = u 169 (37 * p + 1 + 3 * d).toNatClampNeg) (eb : b = u 169 (37 * p + 1 + 3 * d + 1).toNatClampNeg) (ec : c = u 169 (37 * p + 1 + 3 * d + 2).toNatClampNeg) : (a = 4 ∨ Bd 0 999 c) ∧ Bd 0 999 b := by
  have h1 := plx1 bp bd
  have e1 : (1 : Int32).toInt = 1 := rfl
  have e2 : (2 : Int32).toInt = 2 := rfl
  have q := (h p.toInt.toNat (by have := bp.1; have := bp.2; omega)).2 d.toInt.toNat (by have := bd.1; have := bd.2; omega)
  obtain ⟨p1, p2⟩ := bp; obtain ⟨d1, d2⟩ := bd
  have x0 : (37 * p + 1 + 3 * d).toNatClampNeg = 37 * p.toInt.toNat + (1 + 3 * d.toInt.toNat) := by
    have : (37 * p + 1 + 3 * d).toNatClampNeg = (37 * p + 1 + 3 * d).toInt.toNat := rfl
    omega
  have x1 : (37 * p + 1 + 3 * d + 1).toNatClampNeg = 37 * p.toInt.toNat + (2 + 3 * d.toInt.toNat) := by
    have h2 : (37 * p + 1 + 3 * d + 1).toInt = (37 * p + 1 + 3 * d).toInt + 1 := by rw [ti_add (by omega) (by omega), e1]
    have : (37 * p + 1 + 3 * d + 1).toNatClampNeg = (37 * p + 1 + 3 * d + 1).toInt.toNat := rfl
    omega
  have x2 : (37 * p + 1 + 3 * d + 2).toNatClampNeg = 37 * p.toInt.toNat + (3 + 3 * d.toInt.toNat) := by
    have h2 : (37 * p + 1 + 3 * d + 2).toInt = (37 * p + 1 + 3 * d).toInt + 2 := by rw [ti_add (by omega) (by omega), e2]
    have : (37 * p + 1 + 3 * d + 2).toNatClampNeg = (37 * p + 1 + 3 * d + 2).toInt.toNat := rfl
    omega
  rw [ea, eb, ec, x0, x1, x2]
  exact q
set_option maxHeartbeats 4000000 in
set_option maxRecDepth 100000 in
theorem c_M_does {d : Nat} {u : Nat → Nat → Int32} {g : Nat → Nat → Int64} {ex : List MC} {what : Int32} {p : Int32} {much : Int32} (hd : 1 ≤ d) (hp0 : Bd 0 9 (u 162 22)) (hp1 : Bd 0 999 p) (hp2 : (what = 4 ∨ Bd 0 999 much)) (hp3 : AB u 172 (-1) 999) (hp4 : (DN u)) (hp5 : (RC u)) (hp6 : (N0 u)) : CT con0 d 0 0 yX11_does cX11_does 4 (some .boolean) [.ref 162, .int what, .int p, .int much] (Wd u g ex) (fun r h2 => ∃ (z : Bool) (u2 : Nat → Nat → Int32), r = some (.int (bI z)) ∧ h2 = Wd u2 g ex ∧ AB u2 172 (-1) 999 ∧ (DN u2) ∧ (RC u2) ∧ (N0 u2) ∧ (∀ c, c ≠ 162 → c ≠ 172 → u2 c = u c) ∧ (∀ j, j ≠ 24 → j ≠ 25 → u2 162 j = u 162 j)) := by
  refine CT_of (by decide) (Nat.le_of_ble_eq_true rfl) (fun x hq => ?_)
  show J x yX11_does cX11_does 4 (some .boolean) d 0 0 (Wd u g ex).length 0 [(0, .ref 162), (1, .int what), (2, .int p), (3, .int much)] [] (Wd u g ex) 0 0
  rcases hp2 with hk | hk
  · refine J_iload_n (i := 2) (j := 2) dX11_does_0 rfl rfl ?_
    refine J_aload_n (i := 0) (j := 0) dX11_does_1 rfl rfl ?_
    refine J_get (C := RX11) (T := TX11) (Z := 43) (ci := 11) (f := 22) dX11_does_2 inG11 rfl (by decide) k1286 wc_162 rfl ?_
    refine J_icmp_ge (tgt := 19) dX11_does_5 (by decide) (fun c1 => ?_) (fun c1 => ?_)
    · refine J_iconst (v := 0) dX11_does_19 (by decide) ?_
      exact J_zret hq dX11_does_20 rfl rfl wlen (Nat.le_refl _) (Nat.le_refl _) ⟨false, u, rfl, rfl, hp3, hp4, hp5, hp6, (fun c k0_ k1_ => rfl), (fun j k24_ k25_ => rfl)⟩
    · refine J_aload_n (i := 0) (j := 0) dX11_does_8 rfl rfl ?_
      refine J_iload_n (i := 2) (j := 2) dX11_does_9 rfl rfl ?_
      refine J_bipush (v := 15) dX11_does_10 (by decide) ?_
      refine J_callV (As := [.int p, .int 15]) (rest := []) dX11_does_12 (c_M_of (d := 0) (u := u) (g := g) (ex := ex) (p := p) (what := 15)  (by decide) (bd_lt_hi hp1 (i_nle c1) hp0) (bd_w (l := 0) (h := 15) (bd_c (v := 15) (lo := 15) (hi := 15) (by decide)) (by decide))) hq.n k1515 k1517 k55 wc_162 rfl rfl k97 k1518 np_X11_of (Nat.le_trans (by decide) hd) (by decide) (Nat.le_refl _) (Nat.le_refl _) wlen rfl (Nat.le_of_ble_eq_true rfl) (fun r_ h_ p2 => ?_)
      obtain ⟨rfl, rfl⟩ := p2
      refine J_iconst (v := 1) dX11_does_15 (by decide) ?_
      refine J_icmp_ne (tgt := 21) dX11_does_16 (by decide) (fun c3 => ?_) (fun c3 => ?_)
      · refine J_iload_n (i := 1) (j := 1) dX11_does_21 rfl rfl ?_
        by_cases c4 : what = 0
        · exact (bd_neq c4 (bd_r hk (bd_c (v := 4) (lo := 4) (hi := 4) (by decide))) (bd_c (v := 0) (lo := 0) (hi := 0) (by decide)) (by decide)).elim
        by_cases c5 : what = 1
        · exact (bd_neq c5 (bd_r hk (bd_c (v := 4) (lo := 4) (hi := 4) (by decide))) (bd_c (v := 1) (lo := 1) (hi := 1) (by decide)) (by decide)).elim
        by_cases c6 : what = 2
        · exact (bd_neq c6 (bd_r hk (bd_c (v := 4) (lo := 4) (hi := 4) (by decide))) (bd_c (v := 2) (lo := 2) (hi := 2) (by decide)) (by decide)).elim
        by_cases c7 : what = 3
        · exact (bd_neq c7 (bd_r hk (bd_c (v := 4) (lo := 4) (hi := 4) (by decide))) (bd_c (v := 3) (lo := 3) (hi := 3) (by decide)) (by decide)).elim
        · refine J_tableOut (tgt := 234) dX11_does_22 (by have e0 := int_ne (k := 0) c4 (by decide); have e1 := int_ne (k := 1) c5 (by decide); have e2 := int_ne (k := 2) c6 (by decide); have e3 := int_ne (k := 3) c7 (by decide); omega) (by decide) ?_
          refine J_aload_n (i := 0) (j := 0) dX11_does_234 rfl rfl ?_
          refine J_dup dX11_does_235 rfl ?_
          refine J_get (C := RX11) (T := TX11) (Z := 43) (ci := 11) (f := 25) dX11_does_236 inG11 rfl (by decide) k1289 wc_162 rfl ?_
          refine J_aload_n (i := 0) (j := 0) dX11_does_239 rfl rfl ?_
          refine J_iload_n (i := 2) (j := 2) dX11_does_240 rfl rfl ?_
          refine J_iconst (v := 1) dX11_does_241 (by decide) ?_
          refine J_callV (As := [.int p, .int 1]) (rest := [.int (u 162 25), .ref 162]) dX11_does_242 (c_M_of (d := 0) (u := u) (g := g) (ex := ex) (p := p) (what := 1)  (by decide) (bd_lt_hi hp1 (i_nle c1) hp0) (bd_w (l := 0) (h := 15) (bd_c (v := 1) (lo := 1) (hi := 1) (by decide)) (by decide))) hq.n k1515 k1517 k55 wc_162 rfl rfl k97 k1518 np_X11_of (Nat.le_trans (by decide) hd) (by decide) (Nat.le_refl _) (Nat.le_refl _) wlen rfl (Nat.le_of_ble_eq_true rfl) (fun r_ h_ p8 => ?_)
          obtain ⟨rfl, rfl⟩ := p8
          refine J_aload_n (i := 0) (j := 0) dX11_does_245 rfl rfl ?_
          refine J_iload_n (i := 2) (j := 2) dX11_does_246 rfl rfl ?_
          refine J_bipush (v := 7) dX11_does_247 (by decide) ?_
          refine J_callV (As := [.int p, .int 7]) (rest := [.int (mof u p (1 : Int32)), .int (u 162 25), .ref 162]) dX11_does_249 (c_M_of (d := 0) (u := u) (g := g) (ex := ex) (p := p) (what := 7)  (by decide) (bd_lt_hi hp1 (i_nle c1) hp0) (bd_w (l := 0) (h := 15) (bd_c (v := 7) (lo := 7) (hi := 7) (by decide)) (by decide))) hq.n k1515 k1517 k55 wc_162 rfl rfl k97 k1518 np_X11_of (Nat.le_trans (by decide) hd) (by decide) (Nat.le_refl _) (Nat.le_refl _) wlen rfl (Nat.le_of_ble_eq_true rfl) (fun r_ h_ p9 => ?_)
          obtain ⟨rfl, rfl⟩ := p9
          refine J_imul dX11_does_252 ?_
          refine J_iadd dX11_does_253 ?_
          obtain ⟨u10, e11⟩ : ∃ z, z = ms u 162 25 ((u 162 25) + ((mof u p (1 : Int32)) * (mof u p (7 : Int32)))) := ⟨_, rfl⟩
          refine J_put (C := RX11) (T := TX11) (Z := 43) (ci := 11) (f := 25) (ty0 := tyX11) dX11_does_254 inG11 rfl tyX11_ok nmX11 (by decide) k1289 rfl rfl wc_162 (Nat.le_of_ble_eq_true rfl) (fun _ _ => ⟨rfl, rfl⟩) (ws e11 wk_162 rfl) ?_
          refine J_aload_n (i := 0) (j := 0) dX11_does_257 rfl rfl ?_
          refine J_iload_n (i := 2) (j := 2) dX11_does_258 rfl rfl ?_
          refine J_iconst (v := 1) dX11_does_259 (by decide) ?_
          refine J_iconst (v := 0) dX11_does_260 (by decide) ?_
          refine J_callV (As := [.int p, .int 1, .int 0]) (rest := []) dX11_does_261 (c_M_set (d := 0) (u := u10) (g := g) (ex := ex) (p := p) (what := 1) (v := 0)  (by decide) (bd_lt_hi hp1 (i_nle c1) hp0) (bd_w (l := 0) (h := 15) (bd_c (v := 1) (lo := 1) (hi := 1) (by decide)) (by decide))) hq.n k1519 k1521 k56 wc_162 rfl rfl k97 k1522 np_X11_set (Nat.le_trans (by decide) hd) (by decide) (Nat.le_refl _) (Nat.le_refl _) wlen rfl (Nat.le_of_ble_eq_true rfl) (fun r_ h_ p12 => ?_)
          obtain ⟨u13, rfl, rfl, h14, fr15⟩ := p12
          refine J_aload_n (i := 0) (j := 0) dX11_does_264 rfl rfl ?_
          refine J_iload_n (i := 2) (j := 2) dX11_does_265 rfl rfl ?_
          refine J_iconst (v := 0) dX11_does_266 (by decide) ?_
          refine J_iconst (v := 0) dX11_does_267 (by decide) ?_
          refine J_callV (As := [.int p, .int 0, .int 0]) (rest := []) dX11_does_268 (c_M_set (d := 0) (u := u13) (g := g) (ex := ex) (p := p) (what := 0) (v := 0)  (by decide) (bd_lt_hi hp1 (i_nle c1) hp0) (bd_w (l := 0) (h := 15) (bd_c (v := 0) (lo := 0) (hi := 0) (by decide)) (by decide))) hq.n k1519 k1521 k56 wc_162 rfl rfl k97 k1522 np_X11_set (Nat.le_trans (by decide) hd) (by decide) (Nat.le_refl _) (Nat.le_refl _) wlen rfl (Nat.le_of_ble_eq_true rfl) (fun r_ h_ p16 => ?_)
          obtain ⟨u17, rfl, rfl, h18, fr19⟩ := p16
          refine J_aload_n (i := 0) (j := 0) dX11_does_271 rfl rfl ?_
          refine J_iload_n (i := 2) (j := 2) dX11_does_272 rfl rfl ?_
          refine J_iconst (v := 4) dX11_does_273 (by decide) ?_
          refine J_iconst (v := 0) dX11_does_274 (by decide) ?_
          refine J_callV (As := [.int p, .int 4, .int 0]) (rest := []) dX11_does_275 (c_M_set (d := 0) (u := u17) (g := g) (ex := ex) (p := p) (what := 4) (v := 0)  (by decide) (bd_lt_hi hp1 (i_nle c1) hp0) (bd_w (l := 0) (h := 15) (bd_c (v := 4) (lo := 4) (hi := 4) (by decide)) (by decide))) hq.n k1519 k1521 k56 wc_162 rfl rfl k97 k1522 np_X11_set (Nat.le_trans (by decide) hd) (by decide) (Nat.le_refl _) (Nat.le_refl _) wlen rfl (Nat.le_of_ble_eq_true rfl) (fun r_ h_ p20 => ?_)
          obtain ⟨u21, rfl, rfl, h22, fr23⟩ := p20
          refine J_aload_n (i := 0) (j := 0) dX11_does_278 rfl rfl ?_
          refine J_iload_n (i := 2) (j := 2) dX11_does_279 rfl rfl ?_
          refine J_bipush (v := 15) dX11_does_280 (by decide) ?_
          refine J_iconst (v := 1) dX11_does_282 (by decide) ?_
          refine J_callV (As := [.int p, .int 15, .int 1]) (rest := []) dX11_does_283 (c_M_set (d := 0) (u := u21) (g := g) (ex := ex) (p := p) (what := 15) (v := 1)  (by decide) (bd_lt_hi hp1 (i_nle c1) hp0) (bd_w (l := 0) (h := 15) (bd_c (v := 15) (lo := 15) (hi := 15) (by decide)) (by decide))) hq.n k1519 k1521 k56 wc_162 rfl rfl k97 k1522 np_X11_set (Nat.le_trans (by decide) hd) (by decide) (Nat.le_refl _) (Nat.le_refl _) wlen rfl (Nat.le_of_ble_eq_true rfl) (fun r_ h_ p24 => ?_)
          obtain ⟨u25, rfl, rfl, h26, fr27⟩ := p24
          refine J_iconst (v := 1) dX11_does_286 (by decide) ?_
          exact J_zret hq dX11_does_287 rfl rfl wlen (Nat.le_refl _) (Nat.le_refl _) ⟨true, u25, rfl, rfl, (ab_s h26 (ab_s h22 (ab_s h18 (ab_s h14 (ab_c (ms_c e11 (Nat.ne_of_beq_eq_false rfl)) hp3) (bd_w (l := (-1)) (h := 999) (bd_c (v := 0) (lo := 0) (hi := 0) (by decide)) (by decide))) (bd_w (l := (-1)) (h := 999) (bd_c (v := 0) (lo := 0) (hi := 0) (by decide)) (by decide))) (bd_w (l := (-1)) (h := 999) (bd_c (v := 0) (lo := 0) (hi := 0) (by decide)) (by decide))) (bd_w (l := (-1)) (h := 999) (bd_c (v := 1) (lo := 1) (hi := 1) (by decide)) (by decide))), (dn_s h26 (bd_lt_hi hp1 (i_nle c1) hp0) (by decide) (dn_s h22 (bd_lt_hi hp1 (i_nle c1) hp0) (by decide) (dn_s h18 (bd_lt_hi hp1 (i_nle c1) hp0) (by decide) (dn_s h14 (bd_lt_hi hp1 (i_nle c1) hp0) (by decide) (dn_c (ms_c e11 (Nat.ne_of_beq_eq_false rfl)) hp4))))), (rc_s h26 (bd_lt_hi hp1 (i_nle c1) hp0) (bd_w (l := 0) (h := 15) (bd_c (v := 15) (lo := 15) (hi := 15) (by decide)) (by decide)) (rc_s h22 (bd_lt_hi hp1 (i_nle c1) hp0) (bd_w (l := 0) (h := 15) (bd_c (v := 4) (lo := 4) (hi := 4) (by decide)) (by decide)) (rc_s h18 (bd_lt_hi hp1 (i_nle c1) hp0) (bd_w (l := 0) (h := 15) (bd_c (v := 0) (lo := 0) (hi := 0) (by decide)) (by decide)) (rc_s h14 (bd_lt_hi hp1 (i_nle c1) hp0) (bd_w (l := 0) (h := 15) (bd_c (v := 1) (lo := 1) (hi := 1) (by decide)) (by decide)) (rc_c (ms_c e11 (Nat.ne_of_beq_eq_false rfl)) hp5))))), (n0_s h26 (bd_lt_hi hp1 (i_nle c1) hp0) (bd_w (l := 0) (h := 15) (bd_c (v := 15) (lo := 15) (hi := 15) (by decide)) (by decide)) (n0_s h22 (bd_lt_hi hp1 (i_nle c1) hp0) (bd_w (l := 0) (h := 15) (bd_c (v := 4) (lo := 4) (hi := 4) (by decide)) (by decide)) (n0_s h18 (bd_lt_hi hp1 (i_nle c1) hp0) (bd_w (l := 0) (h := 15) (bd_c (v := 0) (lo := 0) (hi := 0) (by decide)) (by decide)) (n0_s h14 (bd_lt_hi hp1 (i_nle c1) hp0) (bd_w (l := 0) (h := 15) (bd_c (v := 1) (lo := 1) (hi := 1) (by decide)) (by decide)) (n0_c (ms_c e11 (Nat.ne_of_beq_eq_false rfl)) hp6))))), (fun c k0_ k1_ => ((ms_c h26 k1_).trans ((ms_c h22 k1_).trans ((ms_c h18 k1_).trans ((ms_c h14 k1_).trans (ms_c e11 k0_)))))), (fun j k24_ k25_ => ((congrFun (ms_c h26 (Nat.ne_of_beq_eq_false rfl)) j).trans ((congrFun (ms_c h22 (Nat.ne_of_beq_eq_false rfl)) j).trans ((congrFun (ms_c h18 (Nat.ne_of_beq_eq_false rfl)) j).trans ((congrFun (ms_c h14 (Nat.ne_of_beq_eq_false rfl)) j).trans (ms_i e11 k25_))))))⟩
      · refine J_iconst (v := 0) dX11_does_19 (by decide) ?_
        exact J_zret hq dX11_does_20 rfl rfl wlen (Nat.le_refl _) (Nat.le_refl _) ⟨false, u, rfl, rfl, hp3, hp4, hp5, hp6, (fun c k0_ k1_ => rfl), (fun j k24_ k25_ => rfl)⟩
  · refine J_iload_n (i := 2) (j := 2) dX11_does_0 rfl rfl ?_
    refine J_aload_n (i := 0) (j := 0) dX11_does_1 rfl rfl ?_
    refine J_get (C := RX11) (T := TX11) (Z := 43) (ci := 11) (f := 22) dX11_does_2 inG11 rfl (by decide) k1286 wc_162 rfl ?_
    refine J_icmp_ge (tgt := 19) dX11_does_5 (by decide) (fun c28 => ?_) (fun c28 => ?_)
    · refine J_iconst (v := 0) dX11_does_19 (by decide) ?_
      exact J_zret hq dX11_does_20 rfl rfl wlen (Nat.le_refl _) (Nat.le_refl _) ⟨false, u, rfl, rfl, hp3, hp4, hp5, hp6, (fun c k0_ k1_ => rfl), (fun j k24_ k25_ => rfl)⟩
    · refine J_aload_n (i := 0) (j := 0) dX11_does_8 rfl rfl ?_
      refine J_iload_n (i := 2) (j := 2) dX11_does_9 rfl rfl ?_
      refine J_bipush (v := 15) dX11_does_10 (by decide) ?_
      refine J_callV (As := [.int p, .int 15]) (rest := []) dX11_does_12 (c_M_of (d := 0) (u := u) (g := g) (ex := ex) (p := p) (what := 15)  (by decide) (bd_lt_hi hp1 (i_nle c28) hp0) (bd_w (l := 0) (h := 15) (bd_c (v := 15) (lo := 15) (hi := 15) (by decide)) (by decide))) hq.n k1515 k1517 k55 wc_162 rfl rfl k97 k1518 np_X11_of (Nat.le_trans (by decide) hd) (by decide) (Nat.le_refl _) (Nat.le_refl _) wlen rfl (Nat.le_of_ble_eq_true rfl) (fun r_ h_ p29 => ?_)
      obtain ⟨rfl, rfl⟩ := p29
      refine J_iconst (v := 1) dX11_does_15 (by decide) ?_
      refine J_icmp_ne (tgt := 21) dX11_does_16 (by decide) (fun c30 => ?_) (fun c30 => ?_)
      · refine J_iload_n (i := 1) (j := 1) dX11_does_21 rfl rfl ?_
        by_cases c31 : what = 0
        · refine J_ci (v := 0) c31 ?_
          refine J_tableIn (tgt := 52) (off := 30) dX11_does_22 (by decide) (by decide) (by decide) (by decide) ?_
          refine J_aload_n (i := 0) (j := 0) dX11_does_52 rfl rfl ?_
          refine J_iload_n (i := 2) (j := 2) dX11_does_53 rfl rfl ?_
          refine J_iconst (v := 4) dX11_does_54 (by decide) ?_
          refine J_callV (As := [.int p, .int 4]) (rest := []) dX11_does_55 (c_M_of (d := 0) (u := u) (g := g) (ex := ex) (p := p) (what := 4)  (by decide) (bd_lt_hi hp1 (i_nle c28) hp0) (bd_w (l := 0) (h := 15) (bd_c (v := 4) (lo := 4) (hi := 4) (by decide)) (by decide))) hq.n k1515 k1517 k55 wc_162 rfl rfl k97 k1518 np_X11_of (Nat.le_trans (by decide) hd) (by decide) (Nat.le_refl _) (Nat.le_refl _) wlen rfl (Nat.le_of_ble_eq_true rfl) (fun r_ h_ p32 => ?_)
          obtain ⟨rfl, rfl⟩ := p32
          refine J_iload_n (i := 3) (j := 3) dX11_does_58 rfl rfl ?_
          refine J_icmp_ge (tgt := 64) dX11_does_59 (by decide) (fun c33 => ?_) (fun c33 => ?_)
          · refine J_aload_n (i := 0) (j := 0) dX11_does_64 rfl rfl ?_
            refine J_iload_n (i := 2) (j := 2) dX11_does_65 rfl rfl ?_
            refine J_iconst (v := 4) dX11_does_66 (by decide) ?_
            refine J_aload_n (i := 0) (j := 0) dX11_does_67 rfl rfl ?_
            refine J_iload_n (i := 2) (j := 2) dX11_does_68 rfl rfl ?_
            refine J_iconst (v := 4) dX11_does_69 (by decide) ?_
            refine J_callV (As := [.int p, .int 4]) (rest := [.int 4, .int p, .ref 162]) dX11_does_70 (c_M_of (d := 0) (u := u) (g := g) (ex := ex) (p := p) (what := 4)  (by decide) (bd_lt_hi hp1 (i_nle c28) hp0) (bd_w (l := 0) (h := 15) (bd_c (v := 4) (lo := 4) (hi := 4) (by decide)) (by decide))) hq.n k1515 k1517 k55 wc_162 rfl rfl k97 k1518 np_X11_of (Nat.le_trans (by decide) hd) (by decide) (Nat.le_refl _) (Nat.le_refl _) wlen rfl (Nat.le_of_ble_eq_true rfl) (fun r_ h_ p34 => ?_)
            obtain ⟨rfl, rfl⟩ := p34
            refine J_iload_n (i := 3) (j := 3) dX11_does_73 rfl rfl ?_
            refine J_isub dX11_does_74 ?_
            refine J_callV (As := [.int p, .int 4, .int ((mof u p (4 : Int32)) - much)]) (rest := []) dX11_does_75 (c_M_set (d := 0) (u := u) (g := g) (ex := ex) (p := p) (what := 4) (v := ((mof u p (4 : Int32)) - much))  (by decide) (bd_lt_hi hp1 (i_nle c28) hp0) (bd_w (l := 0) (h := 15) (bd_c (v := 4) (lo := 4) (hi := 4) (by decide)) (by decide))) hq.n k1519 k1521 k56 wc_162 rfl rfl k97 k1522 np_X11_set (Nat.le_trans (by decide) hd) (by decide) (Nat.le_refl _) (Nat.le_refl _) wlen rfl (Nat.le_of_ble_eq_true rfl) (fun r_ h_ p35 => ?_)
            obtain ⟨u36, rfl, rfl, h37, fr38⟩ := p35
            refine J_aload_n (i := 0) (j := 0) dX11_does_78 rfl rfl ?_
            refine J_dup dX11_does_79 rfl ?_
            refine J_get (C := RX11) (T := TX11) (Z := 43) (ci := 11) (f := 24) dX11_does_80 inG11 rfl (by decide) k1288 wc_162 rfl ?_
            refine J_ci (v := u 162 24) (congrFun (ms_c h37 (Nat.ne_of_beq_eq_false rfl)) 24) ?_
            refine J_iload_n (i := 3) (j := 3) dX11_does_83 rfl rfl ?_
            refine J_aload_n (i := 0) (j := 0) dX11_does_84 rfl rfl ?_
            refine J_get (C := RX11) (T := TX11) (Z := 43) (ci := 11) (f := 21) dX11_does_85 inG11 rfl (by decide) k1285 wc_162 rfl ?_
            refine J_iconst (v := 2) dX11_does_88 (by decide) ?_
            refine J_iald dX11_does_89 wc_172 (vin (bd_c (v := 2) (lo := 2) (hi := 2) (by decide)) (by decide)) ?_
            refine J_ci (v := u36 172 2) rfl ?_
            refine J_imul dX11_does_90 ?_
            refine J_iadd dX11_does_91 ?_
            obtain ⟨u39, e40⟩ : ∃ z, z = ms u36 162 24 ((u 162 24) + (much * (u36 172 2))) := ⟨_, rfl⟩
            refine J_put (C := RX11) (T := TX11) (Z := 43) (ci := 11) (f := 24) (ty0 := tyX11) dX11_does_92 inG11 rfl tyX11_ok nmX11 (by decide) k1288 rfl rfl wc_162 (Nat.le_of_ble_eq_true rfl) (fun _ _ => ⟨rfl, rfl⟩) (ws e40 wk_162 rfl) ?_
            refine J_iconst (v := 1) dX11_does_95 (by decide) ?_
            exact J_zret hq dX11_does_96 rfl rfl wlen (Nat.le_refl _) (Nat.le_refl _) ⟨true, u39, rfl, rfl, (ab_c (ms_c e40 (Nat.ne_of_beq_eq_false rfl)) (ab_s h37 hp3 (bd_w (l := (-1)) (h := 999) (bd_subl (h := 999) (bd_le_lo (hp3 _) c33 hk) hk c33 (by decide)) (by decide)))), (dn_c (ms_c e40 (Nat.ne_of_beq_eq_false rfl)) (dn_s h37 (bd_lt_hi hp1 (i_nle c28) hp0) (by decide) hp4)), (rc_c (ms_c e40 (Nat.ne_of_beq_eq_false rfl)) (rc_s h37 (bd_lt_hi hp1 (i_nle c28) hp0) (bd_w (l := 0) (h := 15) (bd_c (v := 4) (lo := 4) (hi := 4) (by decide)) (by decide)) hp5)), (n0_c (ms_c e40 (Nat.ne_of_beq_eq_false rfl)) (n0_s h37 (bd_lt_hi hp1 (i_nle c28) hp0) (bd_w (l := 0) (h := 15) (bd_c (v := 4) (lo := 4) (hi := 4) (by decide)) (by decide)) hp6)), (fun c k0_ k1_ => ((ms_c e40 k0_).trans (ms_c h37 k1_))), (fun j k24_ k25_ => ((ms_i e40 k24_).trans (congrFun (ms_c h37 (Nat.ne_of_beq_eq_false rfl)) j)))⟩
          · refine J_iconst (v := 0) dX11_does_62 (by decide) ?_
            exact J_zret hq dX11_does_63 rfl rfl wlen (Nat.le_refl _) (Nat.le_refl _) ⟨false, u, rfl, rfl, hp3, hp4, hp5, hp6, (fun c k0_ k1_ => rfl), (fun j k24_ k25_ => rfl)⟩
        by_cases c41 : what = 1
        · refine J_ci (v := 1) c41 ?_
          refine J_tableIn (tgt := 97) (off := 75) dX11_does_22 (by decide) (by decide) (by decide) (by decide) ?_
          refine J_aload_n (i := 0) (j := 0) dX11_does_97 rfl rfl ?_
          refine J_iload_n (i := 2) (j := 2) dX11_does_98 rfl rfl ?_
          refine J_iconst (v := 1) dX11_does_99 (by decide) ?_
          refine J_callV (As := [.int p, .int 1]) (rest := []) dX11_does_100 (c_M_of (d := 0) (u := u) (g := g) (ex := ex) (p := p) (what := 1)  (by decide) (bd_lt_hi hp1 (i_nle c28) hp0) (bd_w (l := 0) (h := 15) (bd_c (v := 1) (lo := 1) (hi := 1) (by decide)) (by decide))) hq.n k1515 k1517 k55 wc_162 rfl rfl k97 k1518 np_X11_of (Nat.le_trans (by decide) hd) (by decide) (Nat.le_refl _) (Nat.le_refl _) wlen rfl (Nat.le_of_ble_eq_true rfl) (fun r_ h_ p42 => ?_)
          obtain ⟨rfl, rfl⟩ := p42
          refine J_iload_n (i := 3) (j := 3) dX11_does_103 rfl rfl ?_
          refine J_icmp_ge (tgt := 109) dX11_does_104 (by decide) (fun c43 => ?_) (fun c43 => ?_)
          · refine J_aload_n (i := 0) (j := 0) dX11_does_109 rfl rfl ?_
            refine J_iload_n (i := 2) (j := 2) dX11_does_110 rfl rfl ?_
            refine J_iconst (v := 1) dX11_does_111 (by decide) ?_
            refine J_aload_n (i := 0) (j := 0) dX11_does_112 rfl rfl ?_
            refine J_iload_n (i := 2) (j := 2) dX11_does_113 rfl rfl ?_
            refine J_iconst (v := 1) dX11_does_114 (by decide) ?_
            refine J_callV (As := [.int p, .int 1]) (rest := [.int 1, .int p, .ref 162]) dX11_does_115 (c_M_of (d := 0) (u := u) (g := g) (ex := ex) (p := p) (what := 1)  (by decide) (bd_lt_hi hp1 (i_nle c28) hp0) (bd_w (l := 0) (h := 15) (bd_c (v := 1) (lo := 1) (hi := 1) (by decide)) (by decide))) hq.n k1515 k1517 k55 wc_162 rfl rfl k97 k1518 np_X11_of (Nat.le_trans (by decide) hd) (by decide) (Nat.le_refl _) (Nat.le_refl _) wlen rfl (Nat.le_of_ble_eq_true rfl) (fun r_ h_ p44 => ?_)
            obtain ⟨rfl, rfl⟩ := p44
            refine J_iload_n (i := 3) (j := 3) dX11_does_118 rfl rfl ?_
            refine J_isub dX11_does_119 ?_
            refine J_callV (As := [.int p, .int 1, .int ((mof u p (1 : Int32)) - much)]) (rest := []) dX11_does_120 (c_M_set (d := 0) (u := u) (g := g) (ex := ex) (p := p) (what := 1) (v := ((mof u p (1 : Int32)) - much))  (by decide) (bd_lt_hi hp1 (i_nle c28) hp0) (bd_w (l := 0) (h := 15) (bd_c (v := 1) (lo := 1) (hi := 1) (by decide)) (by decide))) hq.n k1519 k1521 k56 wc_162 rfl rfl k97 k1522 np_X11_set (Nat.le_trans (by decide) hd) (by decide) (Nat.le_refl _) (Nat.le_refl _) wlen rfl (Nat.le_of_ble_eq_true rfl) (fun r_ h_ p45 => ?_)
            obtain ⟨u46, rfl, rfl, h47, fr48⟩ := p45
            refine J_aload_n (i := 0) (j := 0) dX11_does_123 rfl rfl ?_
            refine J_dup dX11_does_124 rfl ?_
            refine J_get (C := RX11) (T := TX11) (Z := 43) (ci := 11) (f := 25) dX11_does_125 inG11 rfl (by decide) k1289 wc_162 rfl ?_
            refine J_ci (v := u 162 25) (congrFun (ms_c h47 (Nat.ne_of_beq_eq_false rfl)) 25) ?_
            refine J_iload_n (i := 3) (j := 3) dX11_does_128 rfl rfl ?_
            refine J_aload_n (i := 0) (j := 0) dX11_does_129 rfl rfl ?_
            refine J_iload_n (i := 2) (j := 2) dX11_does_130 rfl rfl ?_
            refine J_bipush (v := 7) dX11_does_131 (by decide) ?_
            refine J_callV (As := [.int p, .int 7]) (rest := [.int much, .int (u 162 25), .ref 162]) dX11_does_133 (c_M_of (d := 0) (u := u46) (g := g) (ex := ex) (p := p) (what := 7)  (by decide) (bd_lt_hi hp1 (i_nle c28) hp0) (bd_w (l := 0) (h := 15) (bd_c (v := 7) (lo := 7) (hi := 7) (by decide)) (by decide))) hq.n k1515 k1517 k55 wc_162 rfl rfl k97 k1518 np_X11_of (Nat.le_trans (by decide) hd) (by decide) (Nat.le_refl _) (Nat.le_refl _) wlen rfl (Nat.le_of_ble_eq_true rfl) (fun r_ h_ p49 => ?_)
            obtain ⟨rfl, rfl⟩ := p49
            refine J_imul dX11_does_136 ?_
            refine J_iadd dX11_does_137 ?_
            obtain ⟨u50, e51⟩ : ∃ z, z = ms u46 162 25 ((u 162 25) + (much * (mof u46 p (7 : Int32)))) := ⟨_, rfl⟩
            refine J_put (C := RX11) (T := TX11) (Z := 43) (ci := 11) (f := 25) (ty0 := tyX11) dX11_does_138 inG11 rfl tyX11_ok nmX11 (by decide) k1289 rfl rfl wc_162 (Nat.le_of_ble_eq_true rfl) (fun _ _ => ⟨rfl, rfl⟩) (ws e51 wk_162 rfl) ?_
            refine J_iconst (v := 1) dX11_does_141 (by decide) ?_
            exact J_zret hq dX11_does_142 rfl rfl wlen (Nat.le_refl _) (Nat.le_refl _) ⟨true, u50, rfl, rfl, (ab_c (ms_c e51 (Nat.ne_of_beq_eq_false rfl)) (ab_s h47 hp3 (bd_w (l := (-1)) (h := 999) (bd_subl (h := 999) (bd_le_lo (hp3 _) c43 hk) hk c43 (by decide)) (by decide)))), (dn_c (ms_c e51 (Nat.ne_of_beq_eq_false rfl)) (dn_s h47 (bd_lt_hi hp1 (i_nle c28) hp0) (by decide) hp4)), (rc_c (ms_c e51 (Nat.ne_of_beq_eq_false rfl)) (rc_s h47 (bd_lt_hi hp1 (i_nle c28) hp0) (bd_w (l := 0) (h := 15) (bd_c (v := 1) (lo := 1) (hi := 1) (by decide)) (by decide)) hp5)), (n0_c (ms_c e51 (Nat.ne_of_beq_eq_false rfl)) (n0_s h47 (bd_lt_hi hp1 (i_nle c28) hp0) (bd_w (l := 0) (h := 15) (bd_c (v := 1) (lo := 1) (hi := 1) (by decide)) (by decide)) hp6)), (fun c k0_ k1_ => ((ms_c e51 k0_).trans (ms_c h47 k1_))), (fun j k24_ k25_ => ((ms_i e51 k25_).trans (congrFun (ms_c h47 (Nat.ne_of_beq_eq_false rfl)) j)))⟩
          · refine J_iconst (v := 0) dX11_does_107 (by decide) ?_
            exact J_zret hq dX11_does_108 rfl rfl wlen (Nat.le_refl _) (Nat.le_refl _) ⟨false, u, rfl, rfl, hp3, hp4, hp5, hp6, (fun c k0_ k1_ => rfl), (fun j k24_ k25_ => rfl)⟩
        by_cases c52 : what = 2
        · refine J_ci (v := 2) c52 ?_
          refine J_tableIn (tgt := 143) (off := 121) dX11_does_22 (by decide) (by decide) (by decide) (by decide) ?_
          refine J_aload_n (i := 0) (j := 0) dX11_does_143 rfl rfl ?_
          refine J_iload_n (i := 2) (j := 2) dX11_does_144 rfl rfl ?_
          refine J_iconst (v := 3) dX11_does_145 (by decide) ?_
          refine J_callV (As := [.int p, .int 3]) (rest := []) dX11_does_146 (c_M_of (d := 0) (u := u) (g := g) (ex := ex) (p := p) (what := 3)  (by decide) (bd_lt_hi hp1 (i_nle c28) hp0) (bd_w (l := 0) (h := 15) (bd_c (v := 3) (lo := 3) (hi := 3) (by decide)) (by decide))) hq.n k1515 k1517 k55 wc_162 rfl rfl k97 k1518 np_X11_of (Nat.le_trans (by decide) hd) (by decide) (Nat.le_refl _) (Nat.le_refl _) wlen rfl (Nat.le_of_ble_eq_true rfl) (fun r_ h_ p53 => ?_)
          obtain ⟨rfl, rfl⟩ := p53
          refine J_iload_n (i := 3) (j := 3) dX11_does_149 rfl rfl ?_
          refine J_iadd dX11_does_150 ?_
          refine J_bipush (v := 24) dX11_does_151 (by decide) ?_
          refine J_icmp_le (tgt := 158) dX11_does_153 (by decide) (fun c54 => ?_) (fun c54 => ?_)
          · refine J_aload_n (i := 0) (j := 0) dX11_does_158 rfl rfl ?_
            refine J_iload_n (i := 2) (j := 2) dX11_does_159 rfl rfl ?_
            refine J_iconst (v := 3) dX11_does_160 (by decide) ?_
            refine J_aload_n (i := 0) (j := 0) dX11_does_161 rfl rfl ?_
            refine J_iload_n (i := 2) (j := 2) dX11_does_162 rfl rfl ?_
            refine J_iconst (v := 3) dX11_does_163 (by decide) ?_
            refine J_callV (As := [.int p, .int 3]) (rest := [.int 3, .int p, .ref 162]) dX11_does_164 (c_M_of (d := 0) (u := u) (g := g) (ex := ex) (p := p) (what := 3)  (by decide) (bd_lt_hi hp1 (i_nle c28) hp0) (bd_w (l := 0) (h := 15) (bd_c (v := 3) (lo := 3) (hi := 3) (by decide)) (by decide))) hq.n k1515 k1517 k55 wc_162 rfl rfl k97 k1518 np_X11_of (Nat.le_trans (by decide) hd) (by decide) (Nat.le_refl _) (Nat.le_refl _) wlen rfl (Nat.le_of_ble_eq_true rfl) (fun r_ h_ p55 => ?_)
            obtain ⟨rfl, rfl⟩ := p55
            refine J_iload_n (i := 3) (j := 3) dX11_does_167 rfl rfl ?_
            refine J_iadd dX11_does_168 ?_
            refine J_callV (As := [.int p, .int 3, .int ((mof u p (3 : Int32)) + much)]) (rest := []) dX11_does_169 (c_M_set (d := 0) (u := u) (g := g) (ex := ex) (p := p) (what := 3) (v := ((mof u p (3 : Int32)) + much))  (by decide) (bd_lt_hi hp1 (i_nle c28) hp0) (bd_w (l := 0) (h := 15) (bd_c (v := 3) (lo := 3) (hi := 3) (by decide)) (by decide))) hq.n k1519 k1521 k56 wc_162 rfl rfl k97 k1522 np_X11_set (Nat.le_trans (by decide) hd) (by decide) (Nat.le_refl _) (Nat.le_refl _) wlen rfl (Nat.le_of_ble_eq_true rfl) (fun r_ h_ p56 => ?_)
            obtain ⟨u57, rfl, rfl, h58, fr59⟩ := p56
            refine J_aload_n (i := 0) (j := 0) dX11_does_172 rfl rfl ?_
            refine J_dup dX11_does_173 rfl ?_
            refine J_get (C := RX11) (T := TX11) (Z := 43) (ci := 11) (f := 24) dX11_does_174 inG11 rfl (by decide) k1288 wc_162 rfl ?_
            refine J_ci (v := u 162 24) (congrFun (ms_c h58 (Nat.ne_of_beq_eq_false rfl)) 24) ?_
            refine J_iload_n (i := 3) (j := 3) dX11_does_177 rfl rfl ?_
            refine J_aload_n (i := 0) (j := 0) dX11_does_178 rfl rfl ?_
            refine J_get (C := RX11) (T := TX11) (Z := 43) (ci := 11) (f := 21) dX11_does_179 inG11 rfl (by decide) k1285 wc_162 rfl ?_
            refine J_iconst (v := 3) dX11_does_182 (by decide) ?_
            refine J_iald dX11_does_183 wc_172 (vin (bd_c (v := 3) (lo := 3) (hi := 3) (by decide)) (by decide)) ?_
            refine J_ci (v := u57 172 3) rfl ?_
            refine J_imul dX11_does_184 ?_
            refine J_iadd dX11_does_185 ?_
            obtain ⟨u60, e61⟩ : ∃ z, z = ms u57 162 24 ((u 162 24) + (much * (u57 172 3))) := ⟨_, rfl⟩
            refine J_put (C := RX11) (T := TX11) (Z := 43) (ci := 11) (f := 24) (ty0 := tyX11) dX11_does_186 inG11 rfl tyX11_ok nmX11 (by decide) k1288 rfl rfl wc_162 (Nat.le_of_ble_eq_true rfl) (fun _ _ => ⟨rfl, rfl⟩) (ws e61 wk_162 rfl) ?_
            refine J_iconst (v := 1) dX11_does_189 (by decide) ?_
            exact J_zret hq dX11_does_190 rfl rfl wlen (Nat.le_refl _) (Nat.le_refl _) ⟨true, u60, rfl, rfl, (ab_c (ms_c e61 (Nat.ne_of_beq_eq_false rfl)) (ab_s h58 hp3 (bd_w (l := (-1)) (h := 999) (bd_le_hi (bd_add (l := (-1)) (h := 1998) (hp3 _) hk (by decide)) c54 (bd_c (v := 24) (lo := 24) (hi := 24) (by decide))) (by decide)))), (dn_c (ms_c e61 (Nat.ne_of_beq_eq_false rfl)) (dn_s h58 (bd_lt_hi hp1 (i_nle c28) hp0) (by decide) hp4)), (rc_c (ms_c e61 (Nat.ne_of_beq_eq_false rfl)) (rc_s h58 (bd_lt_hi hp1 (i_nle c28) hp0) (bd_w (l := 0) (h := 15) (bd_c (v := 3) (lo := 3) (hi := 3) (by decide)) (by decide)) hp5)), (n0_c (ms_c e61 (Nat.ne_of_beq_eq_false rfl)) (n0_s h58 (bd_lt_hi hp1 (i_nle c28) hp0) (bd_w (l := 0) (h := 15) (bd_c (v := 3) (lo := 3) (hi := 3) (by decide)) (by decide)) hp6)), (fun c k0_ k1_ => ((ms_c e61 k0_).trans (ms_c h58 k1_))), (fun j k24_ k25_ => ((ms_i e61 k24_).trans (congrFun (ms_c h58 (Nat.ne_of_beq_eq_false rfl)) j)))⟩
          · refine J_iconst (v := 0) dX11_does_156 (by decide) ?_
            exact J_zret hq dX11_does_157 rfl rfl wlen (Nat.le_refl _) (Nat.le_refl _) ⟨false, u, rfl, rfl, hp3, hp4, hp5, hp6, (fun c k0_ k1_ => rfl), (fun j k24_ k25_ => rfl)⟩
        by_cases c62 : what = 3
        · refine J_ci (v := 3) c62 ?_
          refine J_tableIn (tgt := 191) (off := 169) dX11_does_22 (by decide) (by decide) (by decide) (by decide) ?_
          refine J_iload_n (i := 3) (j := 3) dX11_does_191 rfl rfl ?_
          refine J_iload_n (i := 2) (j := 2) dX11_does_192 rfl rfl ?_
          refine J_iconst (v := 1) dX11_does_193 (by decide) ?_
          refine J_iadd dX11_does_194 ?_
          refine J_aload_n (i := 0) (j := 0) dX11_does_195 rfl rfl ?_
          refine J_get (C := RX11) (T := TX11) (Z := 43) (ci := 11) (f := 22) dX11_does_196 inG11 rfl (by decide) k1286 wc_162 rfl ?_
          refine J_iconst (v := 1) dX11_does_199 (by decide) ?_
          refine J_isub dX11_does_200 ?_
          refine J_callS (As := [.int much, .int (p + 1), .int ((u 162 22) - 1)]) (rest := []) dX11_does_201 (c_M_in (d := 0) (u := u) (g := g) (ex := ex) (v := much) (low := (p + 1)) (high := ((u 162 22) - 1))  (by decide) ) hq.n k1406 k1407 k97 k1408 np_X11_in (Nat.le_trans (by decide) hd) (by decide) (Nat.le_refl _) (Nat.le_refl _) wlen rfl (Nat.le_of_ble_eq_true rfl) (fun r_ h_ p63 => ?_)
          obtain ⟨t64, rfl, rfl, h65, h66⟩ := p63
          refine J_ifB_ne (tgt := 209) dX11_does_204 (by decide) (fun c67 => ?_) (fun c67 => ?_)
          · refine J_aload_n (i := 0) (j := 0) dX11_does_209 rfl rfl ?_
            refine J_iload_n (i := 2) (j := 2) dX11_does_210 rfl rfl ?_
            refine J_bipush (v := 8) dX11_does_211 (by decide) ?_
            refine J_iload_n (i := 3) (j := 3) dX11_does_213 rfl rfl ?_
            refine J_callV (As := [.int p, .int 8, .int much]) (rest := []) dX11_does_214 (c_M_set (d := 0) (u := u) (g := g) (ex := ex) (p := p) (what := 8) (v := much)  (by decide) (bd_w (l := 0) (h := 8) (bd_adc (c := 1) (h := 7) (bd_lt_hi hp1 (i_nle c28) hp0) (h65 c67) (bd_le_hi hk (h66 c67) (bd_sub (l := 0) (h := 8) (bd_lt_lo hp0 (i_nle c28) hp1) (bd_c (v := 1) (lo := 1) (hi := 1) (by decide)) (by decide))) (by decide)) (by decide)) (bd_w (l := 0) (h := 15) (bd_c (v := 8) (lo := 8) (hi := 8) (by decide)) (by decide))) hq.n k1519 k1521 k56 wc_162 rfl rfl k97 k1522 np_X11_set (Nat.le_trans (by decide) hd) (by decide) (Nat.le_refl _) (Nat.le_refl _) wlen rfl (Nat.le_of_ble_eq_true rfl) (fun r_ h_ p68 => ?_)
            obtain ⟨u69, rfl, rfl, h70, fr71⟩ := p68
            refine J_aload_n (i := 0) (j := 0) dX11_does_217 rfl rfl ?_
            refine J_dup dX11_does_218 rfl ?_
            refine J_get (C := RX11) (T := TX11) (Z := 43) (ci := 11) (f := 24) dX11_does_219 inG11 rfl (by decide) k1288 wc_162 rfl ?_
            refine J_ci (v := u 162 24) (congrFun (ms_c h70 (Nat.ne_of_beq_eq_false rfl)) 24) ?_
            refine J_aload_n (i := 0) (j := 0) dX11_does_222 rfl rfl ?_
            refine J_get (C := RX11) (T := TX11) (Z := 43) (ci := 11) (f := 21) dX11_does_223 inG11 rfl (by decide) k1285 wc_162 rfl ?_
            refine J_iconst (v := 4) dX11_does_226 (by decide) ?_
            refine J_iald dX11_does_227 wc_172 (vin (bd_c (v := 4) (lo := 4) (hi := 4) (by decide)) (by decide)) ?_
            refine J_ci (v := u69 172 4) rfl ?_
            refine J_iadd dX11_does_228 ?_
            obtain ⟨u72, e73⟩ : ∃ z, z = ms u69 162 24 ((u 162 24) + (u69 172 4)) := ⟨_, rfl⟩
            refine J_put (C := RX11) (T := TX11) (Z := 43) (ci := 11) (f := 24) (ty0 := tyX11) dX11_does_229 inG11 rfl tyX11_ok nmX11 (by decide) k1288 rfl rfl wc_162 (Nat.le_of_ble_eq_true rfl) (fun _ _ => ⟨rfl, rfl⟩) (ws e73 wk_162 rfl) ?_
            refine J_iconst (v := 1) dX11_does_232 (by decide) ?_
            exact J_zret hq dX11_does_233 rfl rfl wlen (Nat.le_refl _) (Nat.le_refl _) ⟨true, u72, rfl, rfl, (ab_c (ms_c e73 (Nat.ne_of_beq_eq_false rfl)) (ab_s h70 hp3 (bd_w (l := (-1)) (h := 999) (bd_le_hi (bd_le_lo hk (h65 c67) (bd_add (l := 1) (h := 9) (bd_lt_hi hp1 (i_nle c28) hp0) (bd_c (v := 1) (lo := 1) (hi := 1) (by decide)) (by decide))) (h66 c67) (bd_sub (l := 0) (h := 8) (bd_lt_lo hp0 (i_nle c28) (bd_adc (c := 1) (h := 998) hp1 (h65 c67) hk (by decide))) (bd_c (v := 1) (lo := 1) (hi := 1) (by decide)) (by decide))) (by decide)))), (dn_c (ms_c e73 (Nat.ne_of_beq_eq_false rfl)) (dn_s8 h70 (bd_w (l := 0) (h := 8) (bd_adc (c := 1) (h := 7) (bd_lt_hi hp1 (i_nle c28) hp0) (h65 c67) (bd_le_hi hk (h66 c67) (bd_sub (l := 0) (h := 8) (bd_lt_lo hp0 (i_nle c28) hp1) (bd_c (v := 1) (lo := 1) (hi := 1) (by decide)) (by decide))) (by decide)) (by decide)) (bd_w (l := 0) (h := 15) (bd_c (v := 8) (lo := 8) (hi := 8) (by decide)) (by decide)) (bd_w (l := (-1)) (h := 8) (bd_le_hi (bd_le_lo hk (h65 c67) (bd_add (l := 1) (h := 9) (bd_lt_hi hp1 (i_nle c28) hp0) (bd_c (v := 1) (lo := 1) (hi := 1) (by decide)) (by decide))) (h66 c67) (bd_sub (l := 0) (h := 8) (bd_lt_lo hp0 (i_nle c28) (bd_adc (c := 1) (h := 998) hp1 (h65 c67) hk (by decide))) (bd_c (v := 1) (lo := 1) (hi := 1) (by decide)) (by decide))) (by decide)) hp4)), (rc_c (ms_c e73 (Nat.ne_of_beq_eq_false rfl)) (rc_s h70 (bd_w (l := 0) (h := 8) (bd_adc (c := 1) (h := 7) (bd_lt_hi hp1 (i_nle c28) hp0) (h65 c67) (bd_le_hi hk (h66 c67) (bd_sub (l := 0) (h := 8) (bd_lt_lo hp0 (i_nle c28) hp1) (bd_c (v := 1) (lo := 1) (hi := 1) (by decide)) (by decide))) (by decide)) (by decide)) (bd_w (l := 0) (h := 15) (bd_c (v := 8) (lo := 8) (hi := 8) (by decide)) (by decide)) hp5)), (n0_c (ms_c e73 (Nat.ne_of_beq_eq_false rfl)) (n0_s h70 (bd_w (l := 0) (h := 8) (bd_adc (c := 1) (h := 7) (bd_lt_hi hp1 (i_nle c28) hp0) (h65 c67) (bd_le_hi hk (h66 c67) (bd_sub (l := 0) (h := 8) (bd_lt_lo hp0 (i_nle c28) hp1) (bd_c (v := 1) (lo := 1) (hi := 1) (by decide)) (by decide))) (by decide)) (by decide)) (bd_w (l := 0) (h := 15) (bd_c (v := 8) (lo := 8) (hi := 8) (by decide)) (by decide)) hp6)), (fun c k0_ k1_ => ((ms_c e73 k0_).trans (ms_c h70 k1_))), (fun j k24_ k25_ => ((ms_i e73 k24_).trans (congrFun (ms_c h70 (Nat.ne_of_beq_eq_false rfl)) j)))⟩
          · refine J_iconst (v := 0) dX11_does_207 (by decide) ?_
            exact J_zret hq dX11_does_208 rfl rfl wlen (Nat.le_refl _) (Nat.le_refl _) ⟨false, u, rfl, rfl, hp3, hp4, hp5, hp6, (fun c k0_ k1_ => rfl), (fun j k24_ k25_ => rfl)⟩
        · refine J_tableOut (tgt := 234) dX11_does_22 (by have e0 := int_ne (k := 0) c31 (by decide); have e1 := int_ne (k := 1) c41 (by decide); have e2 := int_ne (k := 2) c52 (by decide); have e3 := int_ne (k := 3) c62 (by decide); omega) (by decide) ?_
          refine J_aload_n (i := 0) (j := 0) dX11_does_234 rfl rfl ?_
          refine J_dup dX11_does_235 rfl ?_
          refine J_get (C := RX11) (T := TX11) (Z := 43) (ci := 11) (f := 25) dX11_does_236 inG11 rfl (by decide) k1289 wc_162 rfl ?_
          refine J_aload_n (i := 0) (j := 0) dX11_does_239 rfl rfl ?_
          refine J_iload_n (i := 2) (j := 2) dX11_does_240 rfl rfl ?_
          refine J_iconst (v := 1) dX11_does_241 (by decide) ?_
          refine J_callV (As := [.int p, .int 1]) (rest := [.int (u 162 25), .ref 162]) dX11_does_242 (c_M_of (d := 0) (u := u) (g := g) (ex := ex) (p := p) (what := 1)  (by decide) (bd_lt_hi hp1 (i_nle c28) hp0) (bd_w (l := 0) (h := 15) (bd_c (v := 1) (lo := 1) (hi := 1) (by decide)) (by decide))) hq.n k1515 k1517 k55 wc_162 rfl rfl k97 k1518 np_X11_of (Nat.le_trans (by decide) hd) (by decide) (Nat.le_refl _) (Nat.le_refl _) wlen rfl (Nat.le_of_ble_eq_true rfl) (fun r_ h_ p74 => ?_)
          obtain ⟨rfl, rfl⟩ := p74
          refine J_aload_n (i := 0) (j := 0) dX11_does_245 rfl rfl ?_
          refine J_iload_n (i := 2) (j := 2) dX11_does_246 rfl rfl ?_
          refine J_bipush (v := 7) dX11_does_247 (by decide) ?_
          refine J_callV (As := [.int p, .int 7]) (rest := [.int (mof u p (1 : Int32)), .int (u 162 25), .ref 162]) dX11_does_249 (c_M_of (d := 0) (u := u) (g := g) (ex := ex) (p := p) (what := 7)  (by decide) (bd_lt_hi hp1 (i_nle c28) hp0) (bd_w (l := 0) (h := 15) (bd_c (v := 7) (lo := 7) (hi := 7) (by decide)) (by decide))) hq.n k1515 k1517 k55 wc_162 rfl rfl k97 k1518 np_X11_of (Nat.le_trans (by decide) hd) (by decide) (Nat.le_refl _) (Nat.le_refl _) wlen rfl (Nat.le_of_ble_eq_true rfl) (fun r_ h_ p75 => ?_)
          obtain ⟨rfl, rfl⟩ := p75
          refine J_imul dX11_does_252 ?_
          refine J_iadd dX11_does_253 ?_
          obtain ⟨u76, e77⟩ : ∃ z, z = ms u 162 25 ((u 162 25) + ((mof u p (1 : Int32)) * (mof u p (7 : Int32)))) := ⟨_, rfl⟩
          refine J_put (C := RX11) (T := TX11) (Z := 43) (ci := 11) (f := 25) (ty0 := tyX11) dX11_does_254 inG11 rfl tyX11_ok nmX11 (by decide) k1289 rfl rfl wc_162 (Nat.le_of_ble_eq_true rfl) (fun _ _ => ⟨rfl, rfl⟩) (ws e77 wk_162 rfl) ?_
          refine J_aload_n (i := 0) (j := 0) dX11_does_257 rfl rfl ?_
          refine J_iload_n (i := 2) (j := 2) dX11_does_258 rfl rfl ?_
          refine J_iconst (v := 1) dX11_does_259 (by decide) ?_
          refine J_iconst (v := 0) dX11_does_260 (by decide) ?_
          refine J_callV (As := [.int p, .int 1, .int 0]) (rest := []) dX11_does_261 (c_M_set (d := 0) (u := u76) (g := g) (ex := ex) (p := p) (what := 1) (v := 0)  (by decide) (bd_lt_hi hp1 (i_nle c28) hp0) (bd_w (l := 0) (h := 15) (bd_c (v := 1) (lo := 1) (hi := 1) (by decide)) (by decide))) hq.n k1519 k1521 k56 wc_162 rfl rfl k97 k1522 np_X11_set (Nat.le_trans (by decide) hd) (by decide) (Nat.le_refl _) (Nat.le_refl _) wlen rfl (Nat.le_of_ble_eq_true rfl) (fun r_ h_ p78 => ?_)
          obtain ⟨u79, rfl, rfl, h80, fr81⟩ := p78
          refine J_aload_n (i := 0) (j := 0) dX11_does_264 rfl rfl ?_
          refine J_iload_n (i := 2) (j := 2) dX11_does_265 rfl rfl ?_
          refine J_iconst (v := 0) dX11_does_266 (by decide) ?_
          refine J_iconst (v := 0) dX11_does_267 (by decide) ?_
          refine J_callV (As := [.int p, .int 0, .int 0]) (rest := []) dX11_does_268 (c_M_set (d := 0) (u := u79) (g := g) (ex := ex) (p := p) (what := 0) (v := 0)  (by decide) (bd_lt_hi hp1 (i_nle c28) hp0) (bd_w (l := 0) (h := 15) (bd_c (v := 0) (lo := 0) (hi := 0) (by decide)) (by decide))) hq.n k1519 k1521 k56 wc_162 rfl rfl k97 k1522 np_X11_set (Nat.le_trans (by decide) hd) (by decide) (Nat.le_refl _) (Nat.le_refl _) wlen rfl (Nat.le_of_ble_eq_true rfl) (fun r_ h_ p82 => ?_)
          obtain ⟨u83, rfl, rfl, h84, fr85⟩ := p82
          refine J_aload_n (i := 0) (j := 0) dX11_does_271 rfl rfl ?_
          refine J_iload_n (i := 2) (j := 2) dX11_does_272 rfl rfl ?_
          refine J_iconst (v := 4) dX11_does_273 (by decide) ?_
          refine J_iconst (v := 0) dX11_does_274 (by decide) ?_
          refine J_callV (As := [.int p, .int 4, .int 0]) (rest := []) dX11_does_275 (c_M_set (d := 0) (u := u83) (g := g) (ex := ex) (p := p) (what := 4) (v := 0)  (by decide) (bd_lt_hi hp1 (i_nle c28) hp0) (bd_w (l := 0) (h := 15) (bd_c (v := 4) (lo := 4) (hi := 4) (by decide)) (by decide))) hq.n k1519 k1521 k56 wc_162 rfl rfl k97 k1522 np_X11_set (Nat.le_trans (by decide) hd) (by decide) (Nat.le_refl _) (Nat.le_refl _) wlen rfl (Nat.le_of_ble_eq_true rfl) (fun r_ h_ p86 => ?_)
          obtain ⟨u87, rfl, rfl, h88, fr89⟩ := p86
          refine J_aload_n (i := 0) (j := 0) dX11_does_278 rfl rfl ?_
          refine J_iload_n (i := 2) (j := 2) dX11_does_279 rfl rfl ?_
          refine J_bipush (v := 15) dX11_does_280 (by decide) ?_
          refine J_iconst (v := 1) dX11_does_282 (by decide) ?_
          refine J_callV (As := [.int p, .int 15, .int 1]) (rest := []) dX11_does_283 (c_M_set (d := 0) (u := u87) (g := g) (ex := ex) (p := p) (what := 15) (v := 1)  (by decide) (bd_lt_hi hp1 (i_nle c28) hp0) (bd_w (l := 0) (h := 15) (bd_c (v := 15) (lo := 15) (hi := 15) (by decide)) (by decide))) hq.n k1519 k1521 k56 wc_162 rfl rfl k97 k1522 np_X11_set (Nat.le_trans (by decide) hd) (by decide) (Nat.le_refl _) (Nat.le_refl _) wlen rfl (Nat.le_of_ble_eq_true rfl) (fun r_ h_ p90 => ?_)
          obtain ⟨u91, rfl, rfl, h92, fr93⟩ := p90
          refine J_iconst (v := 1) dX11_does_286 (by decide) ?_
          exact J_zret hq dX11_does_287 rfl rfl wlen (Nat.le_refl _) (Nat.le_refl _) ⟨true, u91, rfl, rfl, (ab_s h92 (ab_s h88 (ab_s h84 (ab_s h80 (ab_c (ms_c e77 (Nat.ne_of_beq_eq_false rfl)) hp3) (bd_w (l := (-1)) (h := 999) (bd_c (v := 0) (lo := 0) (hi := 0) (by decide)) (by decide))) (bd_w (l := (-1)) (h := 999) (bd_c (v := 0) (lo := 0) (hi := 0) (by decide)) (by decide))) (bd_w (l := (-1)) (h := 999) (bd_c (v := 0) (lo := 0) (hi := 0) (by decide)) (by decide))) (bd_w (l := (-1)) (h := 999) (bd_c (v := 1) (lo := 1) (hi := 1) (by decide)) (by decide))), (dn_s h92 (bd_lt_hi hp1 (i_nle c28) hp0) (by decide) (dn_s h88 (bd_lt_hi hp1 (i_nle c28) hp0) (by decide) (dn_s h84 (bd_lt_hi hp1 (i_nle c28) hp0) (by decide) (dn_s h80 (bd_lt_hi hp1 (i_nle c28) hp0) (by decide) (dn_c (ms_c e77 (Nat.ne_of_beq_eq_false rfl)) hp4))))), (rc_s h92 (bd_lt_hi hp1 (i_nle c28) hp0) (bd_w (l := 0) (h := 15) (bd_c (v := 15) (lo := 15) (hi := 15) (by decide)) (by decide)) (rc_s h88 (bd_lt_hi hp1 (i_nle c28) hp0) (bd_w (l := 0) (h := 15) (bd_c (v := 4) (lo := 4) (hi := 4) (by decide)) (by decide)) (rc_s h84 (bd_lt_hi hp1 (i_nle c28) hp0) (bd_w (l := 0) (h := 15) (bd_c (v := 0) (lo := 0) (hi := 0) (by decide)) (by decide)) (rc_s h80 (bd_lt_hi hp1 (i_nle c28) hp0) (bd_w (l := 0) (h := 15) (bd_c (v := 1) (lo := 1) (hi := 1) (by decide)) (by decide)) (rc_c (ms_c e77 (Nat.ne_of_beq_eq_false rfl)) hp5))))), (n0_s h92 (bd_lt_hi hp1 (i_nle c28) hp0) (bd_w (l := 0) (h := 15) (bd_c (v := 15) (lo := 15) (hi := 15) (by decide)) (by decide)) (n0_s h88 (bd_lt_hi hp1 (i_nle c28) hp0) (bd_w (l := 0) (h := 15) (bd_c (v := 4) (lo := 4) (hi := 4) (by decide)) (by decide)) (n0_s h84 (bd_lt_hi hp1 (i_nle c28) hp0) (bd_w (l := 0) (h := 15) (bd_c (v := 0) (lo := 0) (hi := 0) (by decide)) (by decide)) (n0_s h80 (bd_lt_hi hp1 (i_nle c28) hp0) (bd_w (l := 0) (h := 15) (bd_c (v := 1) (lo := 1) (hi := 1) (by decide)) (by decide)) (n0_c (ms_c e77 (Nat.ne_of_beq_eq_false rfl)) hp6))))), (fun c k0_ k1_ => ((ms_c h92 k1_).trans ((ms_c h88 k1_).trans ((ms_c h84 k1_).trans ((ms_c h80 k1_).trans (ms_c e77 k0_)))))), (fun j k24_ k25_ => ((congrFun (ms_c h92 (Nat.ne_of_beq_eq_false rfl)) j).trans ((congrFun (ms_c h88 (Nat.ne_of_beq_eq_false rfl)) j).trans ((congrFun (ms_c h84 (Nat.ne_of_beq_eq_false rfl)) j).trans ((congrFun (ms_c h80 (Nat.ne_of_beq_eq_false rfl)) j).trans (ms_i e77 k25_))))))⟩
      · refine J_iconst (v := 0) dX11_does_19 (by decide) ?_
        exact J_zret hq dX11_does_20 rfl rfl wlen (Nat.le_refl _) (Nat.le_refl _) ⟨false, u, rfl, rfl, hp3, hp4, hp5, hp6, (fun c k0_ k1_ => rfl), (fun j k24_ k25_ => rfl)⟩
set_option maxHeartbeats 4000000 in
set_option maxRecDepth 100000 in
theorem c_M_lay {d : Nat} {u : Nat → Nat → Int32} {g : Nat → Nat → Int64} {ex : List MC} {h : Int32} {plan : Int32} (hd : 2 ≤ d) (hp0 : (MY u)) (hp1 : AB u 168 (-1) 999) (hp2 : (HD u)) (hp3 : (HC u)) (hp4 : (PL u)) (hp5 : (N0 u)) (hp6 : (DN u)) (hp7 : Bd 0 9 (u 162 22)) : CT con0 d 0 0 yX11_lay cX11_lay 5 (some .boolean) [.ref 162, .int h, .int plan] (Wd u g ex) (fun r h2 => ∃ (z : Bool) (u2 : Nat → Nat → Int32), r = some (.int (bI z)) ∧ h2 = Wd u2 g ex ∧ Bd 0 9 (u2 162 22) ∧ (DN u2) ∧ (N0 u2) ∧ (z = true → RC u2 ∧ AB u2 172 (-1) 999) ∧ (∀ c, c ≠ 162 → c ≠ 172 → u2 c = u c) ∧ (∀ j, j ≠ 22 → j ≠ 23 → j ≠ 24 → j ≠ 25 → j ≠ 26 → j ≠ 27 → u2 162 j = u 162 j)) := by
  refine CT_of (by decide) (Nat.le_of_ble_eq_true rfl) (fun x hq => ?_)
  show J x yX11_lay cX11_lay 5 (some .boolean) d 0 0 (Wd u g ex).length 0 [(0, .ref 162), (1, .int h), (2, .int plan)] [] (Wd u g ex) 0 0
  refine J_aload_n (i := 0) (j := 0) dX11_lay_0 rfl rfl ?_
  refine J_iload_n (i := 1) (j := 1) dX11_lay_1 rfl rfl ?_
  refine J_callV (As := [.int h]) (rest := []) dX11_lay_2 (c_M_isHill (d := 1) (u := u) (g := g) (ex := ex) (h := h)  (by decide) (hp0 0 (by decide)).1) hq.n k1495 k1497 k51 wc_162 rfl rfl k97 k1498 np_X11_isHill (Nat.le_trans (by decide) hd) (by decide) (Nat.le_refl _) (Nat.le_refl _) wlen rfl (Nat.le_of_ble_eq_true rfl) (fun r_ h_ p1 => ?_)
  obtain ⟨t2, rfl, rfl, h3, h4⟩ := p1
  refine J_ifB_eq (tgt := 21) dX11_lay_5 (by decide) (fun c5 => ?_) (fun c5 => ?_)
  · refine J_iconst (v := 0) dX11_lay_21 (by decide) ?_
    exact J_zret hq dX11_lay_22 rfl rfl wlen (Nat.le_refl _) (Nat.le_refl _) ⟨false, u, rfl, rfl, hp7, hp6, hp5, (fun q => absurd q (by decide)), (fun c k0_ k1_ => rfl), (fun j k22_ k23_ k24_ k25_ k26_ k27_ => rfl)⟩
  · refine J_iload_n (i := 2) (j := 2) dX11_lay_8 rfl rfl ?_
    refine J_iconst (v := (-1)) dX11_lay_9 (by decide) ?_
    refine J_icmp_eq (tgt := 23) dX11_lay_10 (by decide) (fun c6 => ?_) (fun c6 => ?_)
    · refine J_iconst (v := 0) dX11_lay_23 (by decide) ?_
      refine J_istore_n (i := 3) (lw := [(3, .int 0), (0, .ref 162), (1, .int h), (2, .int plan)]) dX11_lay_24 rfl (by decide) rfl ?_
      have lp110 : ∀ (n111 : Nat) (w82 : Int32) (u83 : Nat → Nat → Int32), Bd 0 157 w82 → (∀ c, c ≠ 172 → u83 c = u c) → N0 u83 → CPY u83 u h w82 → (157 - w82.toInt).toNat < n111 → J x yX11_lay cX11_lay 5 (some .boolean) d 0 0 (Wd u g ex).length 25 [(0, .ref 162), (1, .int h), (2, .int plan), (3, .int w82)] [] (Wd u83 g ex) 0 0 := by
        intro n111
        induction n111 with
        | zero => intro w82 u83 bw82 fr84 rf85 hI114 hm113; exact absurd hm113 (Nat.not_lt_zero _)
        | succ n111 ih112 =>
          intro w82 u83 bw82 fr84 rf85 hI114 hm113
          refine J_iload_n (i := 3) (j := 3) dX11_lay_25 rfl rfl ?_
          refine J_sipush (v := 157) dX11_lay_26 (by decide) ?_
          refine J_icmp_ge (tgt := 56) dX11_lay_29 (by decide) (fun c115 => ?_) (fun c115 => ?_)
          · have hy119 := lay_dn hI114 (bd_le_lo bw82 c115 (bd_c (v := 157) (lo := 157) (hi := 157) (by decide))) (bd_w (l := 0) (h := 7) (h3 c5) (by decide)) hp2
            have hy120 := lay_p hI114 (bd_le_lo bw82 c115 (bd_c (v := 157) (lo := 157) (hi := 157) (by decide))) (bd_w (l := 0) (h := 7) (h3 c5) (by decide)) hp2
            have hy121 := lay_ab hI114 (bd_le_lo bw82 c115 (bd_c (v := 157) (lo := 157) (hi := 157) (by decide))) hp1 rf85
            have hy122 := lay_rc hI114 (bd_le_lo bw82 c115 (bd_c (v := 157) (lo := 157) (hi := 157) (by decide))) (h3 c5) hp3 (h4 c5)
            refine J_aload_n (i := 0) (j := 0) dX11_lay_56 rfl rfl ?_
            refine J_aload_n (i := 0) (j := 0) dX11_lay_57 rfl rfl ?_
            refine J_get (C := RX11) (T := TX11) (Z := 43) (ci := 11) (f := 21) dX11_lay_58 inG11 rfl (by decide) k1285 wc_162 rfl ?_
            refine J_iconst (v := 0) dX11_lay_61 (by decide) ?_
            refine J_iald dX11_lay_62 wc_172 (vin (bd_c (v := 0) (lo := 0) (hi := 0) (by decide)) (by decide)) ?_
            refine J_ci (v := u83 172 0) rfl ?_
            obtain ⟨u123, e124⟩ : ∃ z, z = ms u83 162 22 (u83 172 0) := ⟨_, rfl⟩
            refine J_put (C := RX11) (T := TX11) (Z := 43) (ci := 11) (f := 22) (ty0 := tyX11) dX11_lay_63 inG11 rfl tyX11_ok nmX11 (by decide) k1286 rfl rfl wc_162 (Nat.le_of_ble_eq_true rfl) (fun _ _ => ⟨rfl, rfl⟩) (ws e124 wk_162 rfl) ?_
            refine J_aload_n (i := 0) (j := 0) dX11_lay_66 rfl rfl ?_
            refine J_iconst (v := 0) dX11_lay_67 (by decide) ?_
            obtain ⟨u125, e126⟩ : ∃ z, z = ms u123 162 23 0 := ⟨_, rfl⟩
            refine J_put (C := RX11) (T := TX11) (Z := 43) (ci := 11) (f := 23) (ty0 := tyX11) dX11_lay_68 inG11 rfl tyX11_ok nmX11 (by decide) k1287 rfl rfl wc_162 (Nat.le_of_ble_eq_true rfl) (fun _ _ => ⟨rfl, rfl⟩) (ws e126 wk_162 rfl) ?_
            refine J_aload_n (i := 0) (j := 0) dX11_lay_71 rfl rfl ?_
            refine J_iconst (v := 0) dX11_lay_72 (by decide) ?_
            obtain ⟨u127, e128⟩ : ∃ z, z = ms u125 162 24 0 := ⟨_, rfl⟩
            refine J_put (C := RX11) (T := TX11) (Z := 43) (ci := 11) (f := 24) (ty0 := tyX11) dX11_lay_73 inG11 rfl tyX11_ok nmX11 (by decide) k1288 rfl rfl wc_162 (Nat.le_of_ble_eq_true rfl) (fun _ _ => ⟨rfl, rfl⟩) (ws e128 wk_162 rfl) ?_
            refine J_aload_n (i := 0) (j := 0) dX11_lay_76 rfl rfl ?_
            refine J_iconst (v := 0) dX11_lay_77 (by decide) ?_
            obtain ⟨u129, e130⟩ : ∃ z, z = ms u127 162 25 0 := ⟨_, rfl⟩
            refine J_put (C := RX11) (T := TX11) (Z := 43) (ci := 11) (f := 25) (ty0 := tyX11) dX11_lay_78 inG11 rfl tyX11_ok nmX11 (by decide) k1289 rfl rfl wc_162 (Nat.le_of_ble_eq_true rfl) (fun _ _ => ⟨rfl, rfl⟩) (ws e130 wk_162 rfl) ?_
            refine J_aload_n (i := 0) (j := 0) dX11_lay_81 rfl rfl ?_
            refine J_iconst (v := (-1)) dX11_lay_82 (by decide) ?_
            obtain ⟨u131, e132⟩ : ∃ z, z = ms u129 162 26 (-1) := ⟨_, rfl⟩
            refine J_put (C := RX11) (T := TX11) (Z := 43) (ci := 11) (f := 26) (ty0 := tyX11) dX11_lay_83 inG11 rfl tyX11_ok nmX11 (by decide) k1290 rfl rfl wc_162 (Nat.le_of_ble_eq_true rfl) (fun _ _ => ⟨rfl, rfl⟩) (ws e132 wk_162 rfl) ?_
            refine J_aload_n (i := 0) (j := 0) dX11_lay_86 rfl rfl ?_
            refine J_iconst (v := 0) dX11_lay_87 (by decide) ?_
            obtain ⟨u133, e134⟩ : ∃ z, z = ms u131 162 27 0 := ⟨_, rfl⟩
            refine J_put (C := RX11) (T := TX11) (Z := 43) (ci := 11) (f := 27) (ty0 := tyX11) dX11_lay_88 inG11 rfl tyX11_ok nmX11 (by decide) k1291 rfl rfl wc_162 (Nat.le_of_ble_eq_true rfl) (fun _ _ => ⟨rfl, rfl⟩) (ws e134 wk_162 rfl) ?_
            refine J_iload_n (i := 2) (j := 2) dX11_lay_91 rfl rfl ?_
            refine J_iconst (v := (-1)) dX11_lay_92 (by decide) ?_
            refine J_icmp_eq (tgt := 100) dX11_lay_93 (by decide) (fun c135 => ?_) (fun c135 => ?_)
            · refine J_iconst (v := 0) dX11_lay_100 (by decide) ?_
              refine J_istore_n (i := 3) (lw := [(3, .int 0), (0, .ref 162), (1, .int h), (2, .int plan)]) dX11_lay_101 rfl (by decide) rfl ?_
              refine J_iload_n (i := 3) (j := 0) dX11_lay_102 rfl rfl ?_
              refine J_if_eq (tgt := 188) dX11_lay_103 (by decide) (fun _ => ?_) (fun q => absurd (by decide) q)
              refine J_iconst (v := 1) dX11_lay_188 (by decide) ?_
              exact J_zret hq dX11_lay_189 rfl rfl wlen (Nat.le_refl _) (Nat.le_refl _) ⟨true, u133, rfl, rfl, (bd_r ((ms_i e134 (Nat.ne_of_beq_eq_false rfl)).trans ((ms_i e132 (Nat.ne_of_beq_eq_false rfl)).trans ((ms_i e130 (Nat.ne_of_beq_eq_false rfl)).trans ((ms_i e128 (Nat.ne_of_beq_eq_false rfl)).trans ((ms_i e126 (Nat.ne_of_beq_eq_false rfl)).trans (ms_e e124)))))) hy120), (dn_c ((ms_c e134 (Nat.ne_of_beq_eq_false rfl)).trans ((ms_c e132 (Nat.ne_of_beq_eq_false rfl)).trans ((ms_c e130 (Nat.ne_of_beq_eq_false rfl)).trans ((ms_c e128 (Nat.ne_of_beq_eq_false rfl)).trans ((ms_c e126 (Nat.ne_of_beq_eq_false rfl)).trans (ms_c e124 (Nat.ne_of_beq_eq_false rfl))))))) hy119), (n0_c ((ms_c e134 (Nat.ne_of_beq_eq_false rfl)).trans ((ms_c e132 (Nat.ne_of_beq_eq_false rfl)).trans ((ms_c e130 (Nat.ne_of_beq_eq_false rfl)).trans ((ms_c e128 (Nat.ne_of_beq_eq_false rfl)).trans ((ms_c e126 (Nat.ne_of_beq_eq_false rfl)).trans (ms_c e124 (Nat.ne_of_beq_eq_false rfl))))))) rf85), (fun _ => ⟨(rc_c ((ms_c e134 (Nat.ne_of_beq_eq_false rfl)).trans ((ms_c e132 (Nat.ne_of_beq_eq_false rfl)).trans ((ms_c e130 (Nat.ne_of_beq_eq_false rfl)).trans ((ms_c e128 (Nat.ne_of_beq_eq_false rfl)).trans ((ms_c e126 (Nat.ne_of_beq_eq_false rfl)).trans (ms_c e124 (Nat.ne_of_beq_eq_false rfl))))))) hy122), (ab_c ((ms_c e134 (Nat.ne_of_beq_eq_false rfl)).trans ((ms_c e132 (Nat.ne_of_beq_eq_false rfl)).trans ((ms_c e130 (Nat.ne_of_beq_eq_false rfl)).trans ((ms_c e128 (Nat.ne_of_beq_eq_false rfl)).trans ((ms_c e126 (Nat.ne_of_beq_eq_false rfl)).trans (ms_c e124 (Nat.ne_of_beq_eq_false rfl))))))) hy121)⟩), (fun c k0_ k1_ => ((ms_c e134 k0_).trans ((ms_c e132 k0_).trans ((ms_c e130 k0_).trans ((ms_c e128 k0_).trans ((ms_c e126 k0_).trans ((ms_c e124 k0_).trans (fr84 c k1_)))))))), (fun j k22_ k23_ k24_ k25_ k26_ k27_ => ((ms_i e134 k27_).trans ((ms_i e132 k26_).trans ((ms_i e130 k25_).trans ((ms_i e128 k24_).trans ((ms_i e126 k23_).trans ((ms_i e124 k22_).trans (congrFun (fr84 162 (Nat.ne_of_beq_eq_false rfl)) j))))))))⟩
            · exact (bd_no (bd_ne_lo (bd_r c6 (bd_c (v := (-1)) (lo := (-1)) (hi := (-1)) (by decide))) c135 (by decide)) (by decide)).elim
          · refine J_aload_n (i := 0) (j := 0) dX11_lay_32 rfl rfl ?_
            refine J_get (C := RX11) (T := TX11) (Z := 43) (ci := 11) (f := 21) dX11_lay_33 inG11 rfl (by decide) k1285 wc_162 rfl ?_
            refine J_iload_n (i := 3) (j := 3) dX11_lay_36 rfl rfl ?_
            refine J_aload_n (i := 0) (j := 0) dX11_lay_37 rfl rfl ?_
            refine J_get (C := RX11) (T := TX11) (Z := 43) (ci := 11) (f := 6) dX11_lay_38 inG11 rfl (by decide) k1270 wc_162 rfl ?_
            refine J_sipush (v := 157) dX11_lay_41 (by decide) ?_
            refine J_iload_n (i := 1) (j := 1) dX11_lay_44 rfl rfl ?_
            refine J_imul dX11_lay_45 ?_
            refine J_iload_n (i := 3) (j := 3) dX11_lay_46 rfl rfl ?_
            refine J_iadd dX11_lay_47 ?_
            refine J_iald dX11_lay_48 wc_168 (vin (bd_add (l := 0) (h := 313) (bd_mul (l := 0) (h := 157) (bd_c (v := 157) (lo := 157) (hi := 157) (by decide)) (h3 c5) (by decide)) (bd_lt_hi bw82 (i_nle c115) (bd_c (v := 157) (lo := 157) (hi := 157) (by decide))) (by decide)) (by decide)) ?_
            refine J_topi (fun v136 qv136 => ?_)
            obtain ⟨u137, e138⟩ : ∃ z, z = ms u83 172 w82.toNatClampNeg v136 := ⟨_, rfl⟩
            refine J_iast dX11_lay_49 wc_172 (vin (bd_lt_hi bw82 (i_nle c115) (bd_c (v := 157) (lo := 157) (hi := 157) (by decide))) (by decide)) (ws e138 wk_172 rfl) ?_
            refine J_iinc (i := 3) (j := 3) (v := (w82 + 1)) (lw := [(3, .int (w82 + 1)), (0, .ref 162), (1, .int h), (2, .int plan)]) dX11_lay_50 rfl rfl (by decide) rfl ?_
            refine J_goto (tgt := 25) dX11_lay_53 (by decide) ?_
            refine J_lv [1, 2, 3, 0] rfl ?_
            exact ih112 (w82 + 1) u137 (bd_w (l := 0) (h := 157) (bd_add (l := 1) (h := 157) (bd_lt_hi bw82 (i_nle c115) (bd_c (v := 157) (lo := 157) (hi := 157) (by decide))) (bd_c (v := 1) (lo := 1) (hi := 1) (by decide)) (by decide)) (by decide)) (fun c k0_ => ((ms_c e138 k0_).trans (fr84 c k0_))) (n0_k e138 (bd_lt_hi bw82 (i_nle c115) (bd_c (v := 157) (lo := 157) (hi := 157) (by decide))) (by decide) rf85) (cpy_s (bd_w (l := 0) (h := 7) (h3 c5) (by decide)) (bd_lt_hi bw82 (i_nle c115) (bd_c (v := 157) (lo := 157) (hi := 157) (by decide))) e138 (qv136.trans (congrFun (fr84 168 (Nat.ne_of_beq_eq_false rfl)) _)) hI114) (mu_up 1 bw82 rfl (by decide) (bd_w (l := 1) (h := 157) (bd_add (l := 1) (h := 157) (bd_lt_hi bw82 (i_nle c115) (bd_c (v := 157) (lo := 157) (hi := 157) (by decide))) (bd_c (v := 1) (lo := 1) (hi := 1) (by decide)) (by decide)) (by decide)) hm113)
      refine J_lv [1, 2, 3, 0] rfl ?_
      exact lp110 _ (0 : Int32) u (bd_w (l := 0) (h := 157) (bd_c (v := 0) (lo := 0) (hi := 0) (by decide)) (by decide)) (fun c k0_ => rfl) hp5 cpy_0 (Nat.lt_succ_self _)
    · refine J_aload_n (i := 0) (j := 0) dX11_lay_13 rfl rfl ?_
      refine J_iload_n (i := 2) (j := 2) dX11_lay_14 rfl rfl ?_
      refine J_callV (As := [.int plan]) (rest := []) dX11_lay_15 (c_M_isPlan (d := 1) (u := u) (g := g) (ex := ex) (p := plan)  (by decide) (hp0 0 (by decide)).2) hq.n k1507 k1509 k53 wc_162 rfl rfl k97 k1510 np_X11_isPlan (Nat.le_trans (by decide) hd) (by decide) (Nat.le_refl _) (Nat.le_refl _) wlen rfl (Nat.le_of_ble_eq_true rfl) (fun r_ h_ p139 => ?_)
      obtain ⟨t140, rfl, rfl, h141⟩ := p139
      refine J_ifB_ne (tgt := 23) dX11_lay_18 (by decide) (fun c142 => ?_) (fun c142 => ?_)
      · refine J_iconst (v := 0) dX11_lay_23 (by decide) ?_
        refine J_istore_n (i := 3) (lw := [(3, .int 0), (0, .ref 162), (1, .int h), (2, .int plan)]) dX11_lay_24 rfl (by decide) rfl ?_
        have lp896 : ∀ (n897 : Nat) (w543 : Int32) (u544 : Nat → Nat → Int32), Bd 0 157 w543 → (∀ c, c ≠ 172 → u544 c = u c) → N0 u544 → CPY u544 u h w543 → (157 - w543.toInt).toNat < n897 → J x yX11_lay cX11_lay 5 (some .boolean) d 0 0 (Wd u g ex).length 25 [(0, .ref 162), (1, .int h), (2, .int plan), (3, .int w543)] [] (Wd u544 g ex) 0 0 := by
          intro n897
          induction n897 with
          | zero => intro w543 u544 bw543 fr545 rf546 hI900 hm899; exact absurd hm899 (Nat.not_lt_zero _)
          | succ n897 ih898 =>
            intro w543 u544 bw543 fr545 rf546 hI900 hm899
            refine J_iload_n (i := 3) (j := 3) dX11_lay_25 rfl rfl ?_
            refine J_sipush (v := 157) dX11_lay_26 (by decide) ?_
            refine J_icmp_ge (tgt := 56) dX11_lay_29 (by decide) (fun c901 => ?_) (fun c901 => ?_)
            · have hy905 := lay_dn hI900 (bd_le_lo bw543 c901 (bd_c (v := 157) (lo := 157) (hi := 157) (by decide))) (bd_w (l := 0) (h := 7) (h3 c5) (by decide)) hp2
              have hy906 := lay_p hI900 (bd_le_lo bw543 c901 (bd_c (v := 157) (lo := 157) (hi := 157) (by decide))) (bd_w (l := 0) (h := 7) (h3 c5) (by decide)) hp2
              have hy907 := lay_ab hI900 (bd_le_lo bw543 c901 (bd_c (v := 157) (lo := 157) (hi := 157) (by decide))) hp1 rf546
              have hy908 := lay_rc hI900 (bd_le_lo bw543 c901 (bd_c (v := 157) (lo := 157) (hi := 157) (by decide))) (h3 c5) hp3 (h4 c5)
              refine J_aload_n (i := 0) (j := 0) dX11_lay_56 rfl rfl ?_
              refine J_aload_n (i := 0) (j := 0) dX11_lay_57 rfl rfl ?_
              refine J_get (C := RX11) (T := TX11) (Z := 43) (ci := 11) (f := 21) dX11_lay_58 inG11 rfl (by decide) k1285 wc_162 rfl ?_
              refine J_iconst (v := 0) dX11_lay_61 (by decide) ?_
              refine J_iald dX11_lay_62 wc_172 (vin (bd_c (v := 0) (lo := 0) (hi := 0) (by decide)) (by decide)) ?_
              refine J_ci (v := u544 172 0) rfl ?_
              obtain ⟨u909, e910⟩ : ∃ z, z = ms u544 162 22 (u544 172 0) := ⟨_, rfl⟩
              refine J_put (C := RX11) (T := TX11) (Z := 43) (ci := 11) (f := 22) (ty0 := tyX11) dX11_lay_63 inG11 rfl tyX11_ok nmX11 (by decide) k1286 rfl rfl wc_162 (Nat.le_of_ble_eq_true rfl) (fun _ _ => ⟨rfl, rfl⟩) (ws e910 wk_162 rfl) ?_
              refine J_aload_n (i := 0) (j := 0) dX11_lay_66 rfl rfl ?_
              refine J_iconst (v := 0) dX11_lay_67 (by decide) ?_
              obtain ⟨u911, e912⟩ : ∃ z, z = ms u909 162 23 0 := ⟨_, rfl⟩
              refine J_put (C := RX11) (T := TX11) (Z := 43) (ci := 11) (f := 23) (ty0 := tyX11) dX11_lay_68 inG11 rfl tyX11_ok nmX11 (by decide) k1287 rfl rfl wc_162 (Nat.le_of_ble_eq_true rfl) (fun _ _ => ⟨rfl, rfl⟩) (ws e912 wk_162 rfl) ?_
              refine J_aload_n (i := 0) (j := 0) dX11_lay_71 rfl rfl ?_
              refine J_iconst (v := 0) dX11_lay_72 (by decide) ?_
              obtain ⟨u913, e914⟩ : ∃ z, z = ms u911 162 24 0 := ⟨_, rfl⟩
              refine J_put (C := RX11) (T := TX11) (Z := 43) (ci := 11) (f := 24) (ty0 := tyX11) dX11_lay_73 inG11 rfl tyX11_ok nmX11 (by decide) k1288 rfl rfl wc_162 (Nat.le_of_ble_eq_true rfl) (fun _ _ => ⟨rfl, rfl⟩) (ws e914 wk_162 rfl) ?_
              refine J_aload_n (i := 0) (j := 0) dX11_lay_76 rfl rfl ?_
              refine J_iconst (v := 0) dX11_lay_77 (by decide) ?_
              obtain ⟨u915, e916⟩ : ∃ z, z = ms u913 162 25 0 := ⟨_, rfl⟩
              refine J_put (C := RX11) (T := TX11) (Z := 43) (ci := 11) (f := 25) (ty0 := tyX11) dX11_lay_78 inG11 rfl tyX11_ok nmX11 (by decide) k1289 rfl rfl wc_162 (Nat.le_of_ble_eq_true rfl) (fun _ _ => ⟨rfl, rfl⟩) (ws e916 wk_162 rfl) ?_
              refine J_aload_n (i := 0) (j := 0) dX11_lay_81 rfl rfl ?_
              refine J_iconst (v := (-1)) dX11_lay_82 (by decide) ?_
              obtain ⟨u917, e918⟩ : ∃ z, z = ms u915 162 26 (-1) := ⟨_, rfl⟩
              refine J_put (C := RX11) (T := TX11) (Z := 43) (ci := 11) (f := 26) (ty0 := tyX11) dX11_lay_83 inG11 rfl tyX11_ok nmX11 (by decide) k1290 rfl rfl wc_162 (Nat.le_of_ble_eq_true rfl) (fun _ _ => ⟨rfl, rfl⟩) (ws e918 wk_162 rfl) ?_
              refine J_aload_n (i := 0) (j := 0) dX11_lay_86 rfl rfl ?_
              refine J_iconst (v := 0) dX11_lay_87 (by decide) ?_
              obtain ⟨u919, e920⟩ : ∃ z, z = ms u917 162 27 0 := ⟨_, rfl⟩
              refine J_put (C := RX11) (T := TX11) (Z := 43) (ci := 11) (f := 27) (ty0 := tyX11) dX11_lay_88 inG11 rfl tyX11_ok nmX11 (by decide) k1291 rfl rfl wc_162 (Nat.le_of_ble_eq_true rfl) (fun _ _ => ⟨rfl, rfl⟩) (ws e920 wk_162 rfl) ?_
              refine J_iload_n (i := 2) (j := 2) dX11_lay_91 rfl rfl ?_
              refine J_iconst (v := (-1)) dX11_lay_92 (by decide) ?_
              refine J_icmp_eq (tgt := 100) dX11_lay_93 (by decide) (fun c921 => ?_) (fun c921 => ?_)
              · exact (bd_neq c921 (h141 c142) (bd_c (v := (-1)) (lo := (-1)) (hi := (-1)) (by decide)) (by decide)).elim
              · refine J_iconst (v := 1) dX11_lay_96 (by decide) ?_
                refine J_goto (tgt := 101) dX11_lay_97 (by decide) ?_
                refine J_istore_n (i := 3) (lw := [(3, .int 1), (0, .ref 162), (1, .int h), (2, .int plan)]) dX11_lay_101 rfl (by decide) rfl ?_
                have lp1195 : ∀ (n1196 : Nat) (w1138 : Int32) (u1139 : Nat → Nat → Int32), Bd 0 1 w1138 → (∀ c, c ≠ 162 → c ≠ 172 → u1139 c = u919 c) → (∀ j, j ≠ 23 → j ≠ 24 → j ≠ 25 → u1139 162 j = u919 162 j) → Bd 0 12 (u1139 162 23) → AB u1139 172 (-1) 999 → DN u1139 → N0 u1139 → RC u1139 → (12 - (u1139 162 23).toInt).toNat < n1196 → J x yX11_lay cX11_lay 5 (some .boolean) d 0 0 (Wd u g ex).length 102 [(0, .ref 162), (2, .int plan), (3, .int w1138)] [] (Wd u1139 g ex) 0 0 := by
                  intro n1196
                  induction n1196 with
                  | zero => intro w1138 u1139 bw1138 fr1140 fc1141 bm1142 ab1143 rf1144 rf1145 rf1146 hm1198; exact absurd hm1198 (Nat.not_lt_zero _)
                  | succ n1196 ih1197 =>
                    intro w1138 u1139 bw1138 fr1140 fc1141 bm1142 ab1143 rf1144 rf1145 rf1146 hm1198
                    refine J_iload_n (i := 3) (j := 2) dX11_lay_102 rfl rfl ?_
                    have jn1227 : ∀ (u1219 : Nat → Nat → Int32), (∀ c, c ≠ 162 → c ≠ 172 → u1219 c = u1139 c) → (∀ j, j ≠ 23 → j ≠ 24 → j ≠ 25 → u1219 162 j = u1139 162 j) → Bd 0 12 (u1219 162 23) → AB u1219 172 (-1) 999 → DN u1219 → N0 u1219 → RC u1219 → J x yX11_lay cX11_lay 5 (some .boolean) d 0 0 (Wd u g ex).length 188 [] [] (Wd u1219 g ex) 0 0 := by
                      intro u1219 fr1220 fc1221 bm1222 ab1223 rf1224 rf1225 rf1226
                      refine J_iconst (v := 1) dX11_lay_188 (by decide) ?_
                      exact J_zret hq dX11_lay_189 rfl rfl wlen (Nat.le_refl _) (Nat.le_refl _) ⟨true, u1219, rfl, rfl, (bd_r ((fc1221 22 (Nat.ne_of_beq_eq_false rfl) (Nat.ne_of_beq_eq_false rfl) (Nat.ne_of_beq_eq_false rfl)).trans ((fc1141 22 (Nat.ne_of_beq_eq_false rfl) (Nat.ne_of_beq_eq_false rfl) (Nat.ne_of_beq_eq_false rfl)).trans ((ms_i e920 (Nat.ne_of_beq_eq_false rfl)).trans ((ms_i e918 (Nat.ne_of_beq_eq_false rfl)).trans ((ms_i e916 (Nat.ne_of_beq_eq_false rfl)).trans ((ms_i e914 (Nat.ne_of_beq_eq_false rfl)).trans ((ms_i e912 (Nat.ne_of_beq_eq_false rfl)).trans (ms_e e910)))))))) hy906), rf1224, rf1225, (fun _ => ⟨rf1226, ab1223⟩), (fun c k0_ k1_ => ((fr1220 c k0_ k1_).trans ((fr1140 c k0_ k1_).trans ((ms_c e920 k0_).trans ((ms_c e918 k0_).trans ((ms_c e916 k0_).trans ((ms_c e914 k0_).trans ((ms_c e912 k0_).trans ((ms_c e910 k0_).trans (fr545 c k1_)))))))))), (fun j k22_ k23_ k24_ k25_ k26_ k27_ => ((fc1221 j k23_ k24_ k25_).trans ((fc1141 j k23_ k24_ k25_).trans ((ms_i e920 k27_).trans ((ms_i e918 k26_).trans ((ms_i e916 k25_).trans ((ms_i e914 k24_).trans ((ms_i e912 k23_).trans ((ms_i e910 k22_).trans (congrFun (fr545 162 (Nat.ne_of_beq_eq_false rfl)) j))))))))))⟩
                    refine J_if_eq (tgt := 188) dX11_lay_103 (by decide) (fun c1199 => ?_) (fun c1199 => ?_)
                    · refine J_lv [] rfl ?_
                      exact jn1227 u1139 (fun c k0_ k1_ => rfl) (fun j k23_ k24_ k25_ => rfl) bm1142 ab1143 rf1144 rf1145 rf1146
                    · refine J_aload_n (i := 0) (j := 0) dX11_lay_106 rfl rfl ?_
                      refine J_get (C := RX11) (T := TX11) (Z := 43) (ci := 11) (f := 23) dX11_lay_107 inG11 rfl (by decide) k1287 wc_162 rfl ?_
                      refine J_aload_n (i := 0) (j := 0) dX11_lay_110 rfl rfl ?_
                      refine J_get (C := RX11) (T := TX11) (Z := 43) (ci := 11) (f := 7) dX11_lay_111 inG11 rfl (by decide) k1271 wc_162 rfl ?_
                      refine J_bipush (v := 37) dX11_lay_114 (by decide) ?_
                      refine J_iload_n (i := 2) (j := 1) dX11_lay_116 rfl rfl ?_
                      refine J_imul dX11_lay_117 ?_
                      refine J_iald dX11_lay_118 wc_169 (vin (bd_mul (l := 0) (h := 74) (bd_c (v := 37) (lo := 37) (hi := 37) (by decide)) (h141 c142) (by decide)) (by decide)) ?_
                      refine J_topi (fun v1228 qv1228 => ?_)
                      refine J_icmp_ge (tgt := 188) dX11_lay_119 (by decide) (fun c1229 => ?_) (fun c1229 => ?_)
                      · refine J_lv [] rfl ?_
                        exact jn1227 u1139 (fun c k0_ k1_ => rfl) (fun j k23_ k24_ k25_ => rfl) bm1142 ab1143 rf1144 rf1145 rf1146
                      · refine J_bipush (v := 37) dX11_lay_122 (by decide) ?_
                        refine J_iload_n (i := 2) (j := 1) dX11_lay_124 rfl rfl ?_
                        refine J_imul dX11_lay_125 ?_
                        refine J_iconst (v := 1) dX11_lay_126 (by decide) ?_
                        refine J_iadd dX11_lay_127 ?_
                        refine J_iconst (v := 3) dX11_lay_128 (by decide) ?_
                        refine J_aload_n (i := 0) (j := 0) dX11_lay_129 rfl rfl ?_
                        refine J_get (C := RX11) (T := TX11) (Z := 43) (ci := 11) (f := 23) dX11_lay_130 inG11 rfl (by decide) k1287 wc_162 rfl ?_
                        refine J_imul dX11_lay_133 ?_
                        refine J_iadd dX11_lay_134 ?_
                        refine J_istore (i := 4) (lw := [(4, .int ((((37 : Int32) * plan) + 1) + ((3 : Int32) * (u1139 162 23)))), (0, .ref 162), (2, .int plan), (3, .int w1138)]) dX11_lay_135 (by decide) rfl ?_
                        refine J_aload_n (i := 0) (j := 1) dX11_lay_137 rfl rfl ?_
                        refine J_aload_n (i := 0) (j := 1) dX11_lay_138 rfl rfl ?_
                        refine J_get (C := RX11) (T := TX11) (Z := 43) (ci := 11) (f := 7) dX11_lay_139 inG11 rfl (by decide) k1271 wc_162 rfl ?_
                        refine J_iload (i := 4) (j := 0) dX11_lay_142 rfl ?_
                        refine J_iald dX11_lay_144 wc_169 (vin (bd_add (l := 1) (h := 108) (bd_add (l := 1) (h := 75) (bd_mul (l := 0) (h := 74) (bd_c (v := 37) (lo := 37) (hi := 37) (by decide)) (h141 c142) (by decide)) (bd_c (v := 1) (lo := 1) (hi := 1) (by decide)) (by decide)) (bd_mul (l := 0) (h := 33) (bd_c (v := 3) (lo := 3) (hi := 3) (by decide)) (bd_lt_hi bm1142 (i_nle c1229) (pl_cnt (pl_c ((fr1140 169 (Nat.ne_of_beq_eq_false rfl) (Nat.ne_of_beq_eq_false rfl)).trans ((ms_c e920 (Nat.ne_of_beq_eq_false rfl)).trans ((ms_c e918 (Nat.ne_of_beq_eq_false rfl)).trans ((ms_c e916 (Nat.ne_of_beq_eq_false rfl)).trans ((ms_c e914 (Nat.ne_of_beq_eq_false rfl)).trans ((ms_c e912 (Nat.ne_of_beq_eq_false rfl)).trans ((ms_c e910 (Nat.ne_of_beq_eq_false rfl)).trans (fr545 169 (Nat.ne_of_beq_eq_false rfl))))))))) hp4) (bd_w (l := 0) (h := 11) (h141 c142) (by decide)) qv1228)) (by decide)) (by decide)) (by decide)) ?_
                        refine J_topi (fun v1230 qv1230 => ?_)
                        refine J_aload_n (i := 0) (j := 1) dX11_lay_145 rfl rfl ?_
                        refine J_get (C := RX11) (T := TX11) (Z := 43) (ci := 11) (f := 7) dX11_lay_146 inG11 rfl (by decide) k1271 wc_162 rfl ?_
                        refine J_iload (i := 4) (j := 0) dX11_lay_149 rfl ?_
                        refine J_iconst (v := 1) dX11_lay_151 (by decide) ?_
                        refine J_iadd dX11_lay_152 ?_
                        refine J_iald dX11_lay_153 wc_169 (vin (bd_add (l := 2) (h := 109) (bd_add (l := 1) (h := 108) (bd_add (l := 1) (h := 75) (bd_mul (l := 0) (h := 74) (bd_c (v := 37) (lo := 37) (hi := 37) (by decide)) (h141 c142) (by decide)) (bd_c (v := 1) (lo := 1) (hi := 1) (by decide)) (by decide)) (bd_mul (l := 0) (h := 33) (bd_c (v := 3) (lo := 3) (hi := 3) (by decide)) (bd_lt_hi bm1142 (i_nle c1229) (pl_cnt (pl_c ((fr1140 169 (Nat.ne_of_beq_eq_false rfl) (Nat.ne_of_beq_eq_false rfl)).trans ((ms_c e920 (Nat.ne_of_beq_eq_false rfl)).trans ((ms_c e918 (Nat.ne_of_beq_eq_false rfl)).trans ((ms_c e916 (Nat.ne_of_beq_eq_false rfl)).trans ((ms_c e914 (Nat.ne_of_beq_eq_false rfl)).trans ((ms_c e912 (Nat.ne_of_beq_eq_false rfl)).trans ((ms_c e910 (Nat.ne_of_beq_eq_false rfl)).trans (fr545 169 (Nat.ne_of_beq_eq_false rfl))))))))) hp4) (bd_w (l := 0) (h := 11) (h141 c142) (by decide)) qv1228)) (by decide)) (by decide)) (bd_c (v := 1) (lo := 1) (hi := 1) (by decide)) (by decide)) (by decide)) ?_
                        refine J_topi (fun v1231 qv1231 => ?_)
                        refine J_aload_n (i := 0) (j := 1) dX11_lay_154 rfl rfl ?_
                        refine J_get (C := RX11) (T := TX11) (Z := 43) (ci := 11) (f := 7) dX11_lay_155 inG11 rfl (by decide) k1271 wc_162 rfl ?_
                        refine J_iload (i := 4) (j := 0) dX11_lay_158 rfl ?_
                        refine J_iconst (v := 2) dX11_lay_160 (by decide) ?_
                        refine J_iadd dX11_lay_161 ?_
                        refine J_iald dX11_lay_162 wc_169 (vin (bd_add (l := 3) (h := 110) (bd_add (l := 1) (h := 108) (bd_add (l := 1) (h := 75) (bd_mul (l := 0) (h := 74) (bd_c (v := 37) (lo := 37) (hi := 37) (by decide)) (h141 c142) (by decide)) (bd_c (v := 1) (lo := 1) (hi := 1) (by decide)) (by decide)) (bd_mul (l := 0) (h := 33) (bd_c (v := 3) (lo := 3) (hi := 3) (by decide)) (bd_lt_hi bm1142 (i_nle c1229) (pl_cnt (pl_c ((fr1140 169 (Nat.ne_of_beq_eq_false rfl) (Nat.ne_of_beq_eq_false rfl)).trans ((ms_c e920 (Nat.ne_of_beq_eq_false rfl)).trans ((ms_c e918 (Nat.ne_of_beq_eq_false rfl)).trans ((ms_c e916 (Nat.ne_of_beq_eq_false rfl)).trans ((ms_c e914 (Nat.ne_of_beq_eq_false rfl)).trans ((ms_c e912 (Nat.ne_of_beq_eq_false rfl)).trans ((ms_c e910 (Nat.ne_of_beq_eq_false rfl)).trans (fr545 169 (Nat.ne_of_beq_eq_false rfl))))))))) hp4) (bd_w (l := 0) (h := 11) (h141 c142) (by decide)) qv1228)) (by decide)) (by decide)) (bd_c (v := 2) (lo := 2) (hi := 2) (by decide)) (by decide)) (by decide)) ?_
                        refine J_topi (fun v1232 qv1232 => ?_)
                        refine J_callV (As := [.int v1230, .int v1231, .int v1232]) (rest := []) dX11_lay_163 (c_M_does (d := 1) (u := u1139) (g := g) (ex := ex) (what := v1230) (p := v1231) (much := v1232)  (by decide) (bd_r ((fc1141 22 (Nat.ne_of_beq_eq_false rfl) (Nat.ne_of_beq_eq_false rfl) (Nat.ne_of_beq_eq_false rfl)).trans ((ms_i e920 (Nat.ne_of_beq_eq_false rfl)).trans ((ms_i e918 (Nat.ne_of_beq_eq_false rfl)).trans ((ms_i e916 (Nat.ne_of_beq_eq_false rfl)).trans ((ms_i e914 (Nat.ne_of_beq_eq_false rfl)).trans ((ms_i e912 (Nat.ne_of_beq_eq_false rfl)).trans (ms_e e910))))))) hy906) ((pl_at (pl_c ((fr1140 169 (Nat.ne_of_beq_eq_false rfl) (Nat.ne_of_beq_eq_false rfl)).trans ((ms_c e920 (Nat.ne_of_beq_eq_false rfl)).trans ((ms_c e918 (Nat.ne_of_beq_eq_false rfl)).trans ((ms_c e916 (Nat.ne_of_beq_eq_false rfl)).trans ((ms_c e914 (Nat.ne_of_beq_eq_false rfl)).trans ((ms_c e912 (Nat.ne_of_beq_eq_false rfl)).trans ((ms_c e910 (Nat.ne_of_beq_eq_false rfl)).trans (fr545 169 (Nat.ne_of_beq_eq_false rfl))))))))) hp4) (bd_w (l := 0) (h := 11) (h141 c142) (by decide)) (bd_lt_hi bm1142 (i_nle c1229) (pl_cnt (pl_c ((fr1140 169 (Nat.ne_of_beq_eq_false rfl) (Nat.ne_of_beq_eq_false rfl)).trans ((ms_c e920 (Nat.ne_of_beq_eq_false rfl)).trans ((ms_c e918 (Nat.ne_of_beq_eq_false rfl)).trans ((ms_c e916 (Nat.ne_of_beq_eq_false rfl)).trans ((ms_c e914 (Nat.ne_of_beq_eq_false rfl)).trans ((ms_c e912 (Nat.ne_of_beq_eq_false rfl)).trans ((ms_c e910 (Nat.ne_of_beq_eq_false rfl)).trans (fr545 169 (Nat.ne_of_beq_eq_false rfl))))))))) hp4) (bd_w (l := 0) (h := 11) (h141 c142) (by decide)) qv1228)) qv1230 qv1231 qv1232)).2 ((pl_at (pl_c ((fr1140 169 (Nat.ne_of_beq_eq_false rfl) (Nat.ne_of_beq_eq_false rfl)).trans ((ms_c e920 (Nat.ne_of_beq_eq_false rfl)).trans ((ms_c e918 (Nat.ne_of_beq_eq_false rfl)).trans ((ms_c e916 (Nat.ne_of_beq_eq_false rfl)).trans ((ms_c e914 (Nat.ne_of_beq_eq_false rfl)).trans ((ms_c e912 (Nat.ne_of_beq_eq_false rfl)).trans ((ms_c e910 (Nat.ne_of_beq_eq_false rfl)).trans (fr545 169 (Nat.ne_of_beq_eq_false rfl))))))))) hp4) (bd_w (l := 0) (h := 11) (h141 c142) (by decide)) (bd_lt_hi bm1142 (i_nle c1229) (pl_cnt (pl_c ((fr1140 169 (Nat.ne_of_beq_eq_false rfl) (Nat.ne_of_beq_eq_false rfl)).trans ((ms_c e920 (Nat.ne_of_beq_eq_false rfl)).trans ((ms_c e918 (Nat.ne_of_beq_eq_false rfl)).trans ((ms_c e916 (Nat.ne_of_beq_eq_false rfl)).trans ((ms_c e914 (Nat.ne_of_beq_eq_false rfl)).trans ((ms_c e912 (Nat.ne_of_beq_eq_false rfl)).trans ((ms_c e910 (Nat.ne_of_beq_eq_false rfl)).trans (fr545 169 (Nat.ne_of_beq_eq_false rfl))))))))) hp4) (bd_w (l := 0) (h := 11) (h141 c142) (by decide)) qv1228)) qv1230 qv1231 qv1232)).1 ab1143 rf1144 rf1146 rf1145) hq.n k1511 k1513 k54 wc_162 rfl rfl k97 k1514 np_X11_does (Nat.le_trans (by decide) hd) (by decide) (Nat.le_refl _) (Nat.le_refl _) wlen rfl (Nat.le_of_ble_eq_true rfl) (fun r_ h_ p1233 => ?_)
                        obtain ⟨t1234, u1235, rfl, rfl, h1236, h1237, h1238, h1239, fr1240, fc1241⟩ := p1233
                        refine J_istore_n (i := 3) (lw := [(3, .int (bI t1234)), (4, .int ((((37 : Int32) * plan) + 1) + ((3 : Int32) * (u1139 162 23)))), (0, .ref 162), (2, .int plan)]) dX11_lay_166 rfl (by decide) rfl ?_
                        refine J_aload_n (i := 0) (j := 2) dX11_lay_167 rfl rfl ?_
                        refine J_dup dX11_lay_168 rfl ?_
                        refine J_get (C := RX11) (T := TX11) (Z := 43) (ci := 11) (f := 23) dX11_lay_169 inG11 rfl (by decide) k1287 wc_162 rfl ?_
                        refine J_ci (v := u1139 162 23) (fc1241 23 (Nat.ne_of_beq_eq_false rfl) (Nat.ne_of_beq_eq_false rfl)) ?_
                        refine J_iload_n (i := 3) (j := 0) dX11_lay_172 rfl rfl ?_
                        refine J_ifB_eq (tgt := 180) dX11_lay_173 (by decide) (fun c1242 => ?_) (fun c1242 => ?_)
                        · refine J_iconst (v := 0) dX11_lay_180 (by decide) ?_
                          refine J_iadd dX11_lay_181 ?_
                          obtain ⟨u1243, e1244⟩ : ∃ z, z = ms u1235 162 23 ((u1139 162 23) + 0) := ⟨_, rfl⟩
                          refine J_put (C := RX11) (T := TX11) (Z := 43) (ci := 11) (f := 23) (ty0 := tyX11) dX11_lay_182 inG11 rfl tyX11_ok nmX11 (by decide) k1287 rfl rfl wc_162 (Nat.le_of_ble_eq_true rfl) (fun _ _ => ⟨rfl, rfl⟩) (ws e1244 wk_162 rfl) ?_
                          refine J_goto (tgt := 102) dX11_lay_185 (by decide) ?_
                          refine J_iload_n (i := 3) (j := 0) dX11_lay_102 rfl rfl ?_
                          refine J_ifB_eq (tgt := 188) dX11_lay_103 (by decide) (fun _ => ?_) (fun q => absurd (c1242.symm.trans q) (by decide))
                          refine J_lv [] rfl ?_
                          exact jn1227 u1243 (fun c k0_ k1_ => ((ms_c e1244 k0_).trans (fr1240 c k0_ k1_))) (fun j k23_ k24_ k25_ => ((ms_i e1244 k23_).trans (fc1241 j k24_ k25_))) (bd_r (ms_e e1244) (bd_w (l := 0) (h := 12) (bd_add (l := 0) (h := 11) (bd_lt_hi bm1142 (i_nle c1229) (pl_cnt (pl_c ((fr1140 169 (Nat.ne_of_beq_eq_false rfl) (Nat.ne_of_beq_eq_false rfl)).trans ((ms_c e920 (Nat.ne_of_beq_eq_false rfl)).trans ((ms_c e918 (Nat.ne_of_beq_eq_false rfl)).trans ((ms_c e916 (Nat.ne_of_beq_eq_false rfl)).trans ((ms_c e914 (Nat.ne_of_beq_eq_false rfl)).trans ((ms_c e912 (Nat.ne_of_beq_eq_false rfl)).trans ((ms_c e910 (Nat.ne_of_beq_eq_false rfl)).trans (fr545 169 (Nat.ne_of_beq_eq_false rfl))))))))) hp4) (bd_w (l := 0) (h := 11) (h141 c142) (by decide)) qv1228)) (bd_c (v := 0) (lo := 0) (hi := 0) (by decide)) (by decide)) (by decide))) (ab_c (ms_c e1244 (Nat.ne_of_beq_eq_false rfl)) h1236) (dn_c (ms_c e1244 (Nat.ne_of_beq_eq_false rfl)) h1237) (n0_c (ms_c e1244 (Nat.ne_of_beq_eq_false rfl)) h1239) (rc_c (ms_c e1244 (Nat.ne_of_beq_eq_false rfl)) h1238)
                        · refine J_iconst (v := 1) dX11_lay_176 (by decide) ?_
                          refine J_goto (tgt := 181) dX11_lay_177 (by decide) ?_
                          refine J_iadd dX11_lay_181 ?_
                          obtain ⟨u1245, e1246⟩ : ∃ z, z = ms u1235 162 23 ((u1139 162 23) + 1) := ⟨_, rfl⟩
                          refine J_put (C := RX11) (T := TX11) (Z := 43) (ci := 11) (f := 23) (ty0 := tyX11) dX11_lay_182 inG11 rfl tyX11_ok nmX11 (by decide) k1287 rfl rfl wc_162 (Nat.le_of_ble_eq_true rfl) (fun _ _ => ⟨rfl, rfl⟩) (ws e1246 wk_162 rfl) ?_
                          refine J_goto (tgt := 102) dX11_lay_185 (by decide) ?_
                          refine J_lv [2, 3, 0] rfl ?_
                          exact ih1197 (bI t1234) u1245 (bd_bI t1234) (fun c k0_ k1_ => ((ms_c e1246 k0_).trans ((fr1240 c k0_ k1_).trans (fr1140 c k0_ k1_)))) (fun j k23_ k24_ k25_ => ((ms_i e1246 k23_).trans ((fc1241 j k24_ k25_).trans (fc1141 j k23_ k24_ k25_)))) (bd_r (ms_e e1246) (bd_w (l := 0) (h := 12) (bd_add (l := 1) (h := 12) (bd_lt_hi bm1142 (i_nle c1229) (pl_cnt (pl_c ((fr1140 169 (Nat.ne_of_beq_eq_false rfl) (Nat.ne_of_beq_eq_false rfl)).trans ((ms_c e920 (Nat.ne_of_beq_eq_false rfl)).trans ((ms_c e918 (Nat.ne_of_beq_eq_false rfl)).trans ((ms_c e916 (Nat.ne_of_beq_eq_false rfl)).trans ((ms_c e914 (Nat.ne_of_beq_eq_false rfl)).trans ((ms_c e912 (Nat.ne_of_beq_eq_false rfl)).trans ((ms_c e910 (Nat.ne_of_beq_eq_false rfl)).trans (fr545 169 (Nat.ne_of_beq_eq_false rfl))))))))) hp4) (bd_w (l := 0) (h := 11) (h141 c142) (by decide)) qv1228)) (bd_c (v := 1) (lo := 1) (hi := 1) (by decide)) (by decide)) (by decide))) (ab_c (ms_c e1246 (Nat.ne_of_beq_eq_false rfl)) h1236) (dn_c (ms_c e1246 (Nat.ne_of_beq_eq_false rfl)) h1237) (n0_c (ms_c e1246 (Nat.ne_of_beq_eq_false rfl)) h1239) (rc_c (ms_c e1246 (Nat.ne_of_beq_eq_false rfl)) h1238) (mu_up 1 bm1142 (ms_e e1246) (by decide) (bd_w (l := 1) (h := 12) (bd_r (ms_e e1246) (bd_add (l := 1) (h := 12) (bd_lt_hi bm1142 (i_nle c1229) (pl_cnt (pl_c ((fr1140 169 (Nat.ne_of_beq_eq_false rfl) (Nat.ne_of_beq_eq_false rfl)).trans ((ms_c e920 (Nat.ne_of_beq_eq_false rfl)).trans ((ms_c e918 (Nat.ne_of_beq_eq_false rfl)).trans ((ms_c e916 (Nat.ne_of_beq_eq_false rfl)).trans ((ms_c e914 (Nat.ne_of_beq_eq_false rfl)).trans ((ms_c e912 (Nat.ne_of_beq_eq_false rfl)).trans ((ms_c e910 (Nat.ne_of_beq_eq_false rfl)).trans (fr545 169 (Nat.ne_of_beq_eq_false rfl))))))))) hp4) (bd_w (l := 0) (h := 11) (h141 c142) (by decide)) qv1228)) (bd_c (v := 1) (lo := 1) (hi := 1) (by decide)) (by decide))) (by decide)) hm1198)
                refine J_lv [1, 3, 0] rfl ?_
                exact lp1195 _ (1 : Int32) u919 (bd_w (l := 0) (h := 1) (bd_c (v := 1) (lo := 1) (hi := 1) (by decide)) (by decide)) (fun c k0_ k1_ => rfl) (fun j k23_ k24_ k25_ => rfl) (bd_r ((ms_i e920 (Nat.ne_of_beq_eq_false rfl)).trans ((ms_i e918 (Nat.ne_of_beq_eq_false rfl)).trans ((ms_i e916 (Nat.ne_of_beq_eq_false rfl)).trans ((ms_i e914 (Nat.ne_of_beq_eq_false rfl)).trans (ms_e e912))))) (bd_w (l := 0) (h := 12) (bd_c (v := 0) (lo := 0) (hi := 0) (by decide)) (by decide))) (ab_c ((ms_c e920 (Nat.ne_of_beq_eq_false rfl)).trans ((ms_c e918 (Nat.ne_of_beq_eq_false rfl)).trans ((ms_c e916 (Nat.ne_of_beq_eq_false rfl)).trans ((ms_c e914 (Nat.ne_of_beq_eq_false rfl)).trans ((ms_c e912 (Nat.ne_of_beq_eq_false rfl)).trans (ms_c e910 (Nat.ne_of_beq_eq_false rfl))))))) hy907) (dn_c ((ms_c e920 (Nat.ne_of_beq_eq_false rfl)).trans ((ms_c e918 (Nat.ne_of_beq_eq_false rfl)).trans ((ms_c e916 (Nat.ne_of_beq_eq_false rfl)).trans ((ms_c e914 (Nat.ne_of_beq_eq_false rfl)).trans ((ms_c e912 (Nat.ne_of_beq_eq_false rfl)).trans (ms_c e910 (Nat.ne_of_beq_eq_false rfl))))))) hy905) (n0_c ((ms_c e920 (Nat.ne_of_beq_eq_false rfl)).trans ((ms_c e918 (Nat.ne_of_beq_eq_false rfl)).trans ((ms_c e916 (Nat.ne_of_beq_eq_false rfl)).trans ((ms_c e914 (Nat.ne_of_beq_eq_false rfl)).trans ((ms_c e912 (Nat.ne_of_beq_eq_false rfl)).trans (ms_c e910 (Nat.ne_of_beq_eq_false rfl))))))) rf546) (rc_c ((ms_c e920 (Nat.ne_of_beq_eq_false rfl)).trans ((ms_c e918 (Nat.ne_of_beq_eq_false rfl)).trans ((ms_c e916 (Nat.ne_of_beq_eq_false rfl)).trans ((ms_c e914 (Nat.ne_of_beq_eq_false rfl)).trans ((ms_c e912 (Nat.ne_of_beq_eq_false rfl)).trans (ms_c e910 (Nat.ne_of_beq_eq_false rfl))))))) hy908) (Nat.lt_succ_self _)
            · refine J_aload_n (i := 0) (j := 0) dX11_lay_32 rfl rfl ?_
              refine J_get (C := RX11) (T := TX11) (Z := 43) (ci := 11) (f := 21) dX11_lay_33 inG11 rfl (by decide) k1285 wc_162 rfl ?_
              refine J_iload_n (i := 3) (j := 3) dX11_lay_36 rfl rfl ?_
              refine J_aload_n (i := 0) (j := 0) dX11_lay_37 rfl rfl ?_
              refine J_get (C := RX11) (T := TX11) (Z := 43) (ci := 11) (f := 6) dX11_lay_38 inG11 rfl (by decide) k1270 wc_162 rfl ?_
              refine J_sipush (v := 157) dX11_lay_41 (by decide) ?_
              refine J_iload_n (i := 1) (j := 1) dX11_lay_44 rfl rfl ?_
              refine J_imul dX11_lay_45 ?_
              refine J_iload_n (i := 3) (j := 3) dX11_lay_46 rfl rfl ?_
              refine J_iadd dX11_lay_47 ?_
              refine J_iald dX11_lay_48 wc_168 (vin (bd_add (l := 0) (h := 313) (bd_mul (l := 0) (h := 157) (bd_c (v := 157) (lo := 157) (hi := 157) (by decide)) (h3 c5) (by decide)) (bd_lt_hi bw543 (i_nle c901) (bd_c (v := 157) (lo := 157) (hi := 157) (by decide))) (by decide)) (by decide)) ?_
              refine J_topi (fun v1247 qv1247 => ?_)
              obtain ⟨u1248, e1249⟩ : ∃ z, z = ms u544 172 w543.toNatClampNeg v1247 := ⟨_, rfl⟩
              refine J_iast dX11_lay_49 wc_172 (vin (bd_lt_hi bw543 (i_nle c901) (bd_c (v := 157) (lo := 157) (hi := 157) (by decide))) (by decide)) (ws e1249 wk_172 rfl) ?_
              refine J_iinc (i := 3) (j := 3) (v := (w543 + 1)) (lw := [(3, .int (w543 + 1)), (0, .ref 162), (1, .int h), (2, .int plan)]) dX11_lay_50 rfl rfl (by decide) rfl ?_
              refine J_goto (tgt := 25) dX11_lay_53 (by decide) ?_
              refine J_lv [1, 2, 3, 0] rfl ?_
              exact ih898 (w543 + 1) u1248 (bd_w (l := 0) (h := 157) (bd_add (l := 1) (h := 157) (bd_lt_hi bw543 (i_nle c901) (bd_c (v := 157) (lo := 157) (hi := 157) (by decide))) (bd_c (v := 1) (lo := 1) (hi := 1) (by decide)) (by decide)) (by decide)) (fun c k0_ => ((ms_c e1249 k0_).trans (fr545 c k0_))) (n0_k e1249 (bd_lt_hi bw543 (i_nle c901) (bd_c (v := 157) (lo := 157) (hi := 157) (by decide))) (by decide) rf546) (cpy_s (bd_w (l := 0) (h := 7) (h3 c5) (by decide)) (bd_lt_hi bw543 (i_nle c901) (bd_c (v := 157) (lo := 157) (hi := 157) (by decide))) e1249 (qv1247.trans (congrFun (fr545 168 (Nat.ne_of_beq_eq_false rfl)) _)) hI900) (mu_up 1 bw543 rfl (by decide) (bd_w (l := 1) (h := 157) (bd_add (l := 1) (h := 157) (bd_lt_hi bw543 (i_nle c901) (bd_c (v := 157) (lo := 157) (hi := 157) (by decide))) (bd_c (v := 1) (lo := 1) (hi := 1) (by decide)) (by decide)) (by decide)) hm899)
        refine J_lv [1, 2, 3, 0] rfl ?_
        exact lp896 _ (0 : Int32) u (bd_w (l := 0) (h := 157) (bd_c (v := 0) (lo := 0) (hi := 0) (by decide)) (by decide)) (fun c k0_ => rfl) hp5 cpy_0 (Nat.lt_succ_self _)
      · refine J_iconst (v := 0) dX11_lay_21 (by decide) ?_
        exact J_zret hq dX11_lay_22 rfl rfl wlen (Nat.le_refl _) (Nat.le_refl _) ⟨false, u, rfl, rfl, hp7, hp6, hp5, (fun q => absurd q (by decide)), (fun c k0_ k1_ => rfl), (fun j k22_ k23_ k24_ k25_ k26_ k27_ => rfl)⟩
