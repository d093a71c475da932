theorem k1425 : Cond.methodLink RX11 193 yX11_hillLine ∈ gt := gt_in 1425 (by decide +kernel) (by decide +kernel)
theorem k1427 : Cond.instanceMethod yX11_hillLine ∈ gt := gt_in 1427 (by decide +kernel) (by decide +kernel)
theorem k40 : Cond.selects RX11 yX11_hillLine yX11_hillLine ∈ gt := gt_in 40 (by decide +kernel) (by decide +kernel)
theorem k1428 : Cond.code yX11_hillLine cX11_hillLine 7 (some .boolean) ∈ gt := gt_in 1428 (by decide +kernel) (by decide +kernel)
theorem np_X11_hillLine : yX11_hillLine.cls ≠ "java/lang/invoke/MethodHandle" ∧ yX11_hillLine.cls ≠ "java/lang/invoke/VarHandle" ∧ (parseMethodDescriptor yX11_hillLine.desc).map (fun d => d.parameters.length) = some 1 := by decide +kernel
theorem k1483 : Cond.methodLink RX11 199 yX11_endsHill ∈ gt := gt_in 1483 (by decide +kernel) (by decide +kernel)
theorem k1485 : Cond.instanceMethod yX11_endsHill ∈ gt := gt_in 1485 (by decide +kernel) (by decide +kernel)
theorem k50 : Cond.selects RX11 yX11_endsHill yX11_endsHill ∈ gt := gt_in 50 (by decide +kernel) (by decide +kernel)
theorem k1486 : Cond.code yX11_endsHill cX11_endsHill 3 none ∈ gt := gt_in 1486 (by decide +kernel) (by decide +kernel)
theorem np_X11_endsHill : yX11_endsHill.cls ≠ "java/lang/invoke/MethodHandle" ∧ yX11_endsHill.cls ≠ "java/lang/invoke/VarHandle" ∧ (parseMethodDescriptor yX11_endsHill.desc).map (fun d => d.parameters.length) = some 0 := by decide +kernel
theorem k1476 : Cond.methodLink RX11 196 yX11_workLine ∈ gt := gt_in 1476 (by decide +kernel) (by decide +kernel)
theorem k1478 : Cond.instanceMethod yX11_workLine ∈ gt := gt_in 1478 (by decide +kernel) (by decide +kernel)
theorem k49 : Cond.selects RX11 yX11_workLine yX11_workLine ∈ gt := gt_in 49 (by decide +kernel) (by decide +kernel)
theorem k1479 : Cond.code yX11_workLine cX11_workLine 6 (some .boolean) ∈ gt := gt_in 1479 (by decide +kernel) (by decide +kernel)
theorem np_X11_workLine : yX11_workLine.cls ≠ "java/lang/invoke/MethodHandle" ∧ yX11_workLine.cls ≠ "java/lang/invoke/VarHandle" ∧ (parseMethodDescriptor yX11_workLine.desc).map (fun d => d.parameters.length) = some 1 := by decide +kernel
theorem dX11_endsHill_0 : decode cX11_endsHill 0 = .ok (.iconst 0, 1) := by decide +kernel
theorem dX11_endsHill_1 : decode cX11_endsHill 1 = .ok (.istore_n 1, 1) := by decide +kernel
theorem dX11_endsHill_2 : decode cX11_endsHill 2 = .ok (.iconst 0, 1) := by decide +kernel
theorem dX11_endsHill_3 : decode cX11_endsHill 3 = .ok (.istore_n 2, 1) := by decide +kernel
theorem dX11_endsHill_4 : decode cX11_endsHill 4 = .ok (.iload_n 2, 1) := by decide +kernel
theorem dX11_endsHill_5 : decode cX11_endsHill 5 = .ok (.aload_n 0, 1) := by decide +kernel
theorem dX11_endsHill_6 : decode cX11_endsHill 6 = .ok (.getfield 32, 3) := by decide +kernel
theorem dX11_endsHill_9 : decode cX11_endsHill 9 = .ok (.iconst 1, 1) := by decide +kernel
theorem dX11_endsHill_10 : decode cX11_endsHill 10 = .ok (.iaload, 1) := by decide +kernel
theorem dX11_endsHill_11 : decode cX11_endsHill 11 = .ok (.if_icmp .ge 24, 3) := by decide +kernel
theorem dX11_endsHill_14 : decode cX11_endsHill 14 = .ok (.iload_n 1, 1) := by decide +kernel
theorem dX11_endsHill_15 : decode cX11_endsHill 15 = .ok (.aload_n 0, 1) := by decide +kernel
theorem dX11_endsHill_16 : decode cX11_endsHill 16 = .ok (.getfield 32, 3) := by decide +kernel
theorem dX11_endsHill_19 : decode cX11_endsHill 19 = .ok (.iconst 5, 1) := by decide +kernel
theorem dX11_endsHill_20 : decode cX11_endsHill 20 = .ok (.iconst 2, 1) := by decide +kernel
theorem dX11_endsHill_21 : decode cX11_endsHill 21 = .ok (.iload_n 2, 1) := by decide +kernel
theorem dX11_endsHill_22 : decode cX11_endsHill 22 = .ok (.imul, 1) := by decide +kernel
theorem dX11_endsHill_23 : decode cX11_endsHill 23 = .ok (.iadd, 1) := by decide +kernel
theorem dX11_endsHill_24 : decode cX11_endsHill 24 = .ok (.iconst 1, 1) := by decide +kernel
theorem dX11_endsHill_25 : decode cX11_endsHill 25 = .ok (.iadd, 1) := by decide +kernel
theorem dX11_endsHill_26 : decode cX11_endsHill 26 = .ok (.iaload, 1) := by decide +kernel
theorem dX11_endsHill_27 : decode cX11_endsHill 27 = .ok (.iadd, 1) := by decide +kernel
theorem dX11_endsHill_28 : decode cX11_endsHill 28 = .ok (.istore_n 1, 1) := by decide +kernel
theorem dX11_endsHill_29 : decode cX11_endsHill 29 = .ok (.iinc 2 1, 3) := by decide +kernel
theorem dX11_endsHill_32 : decode cX11_endsHill 32 = .ok (.goto (-28), 3) := by decide +kernel
theorem dX11_endsHill_35 : decode cX11_endsHill 35 = .ok (.aload_n 0, 1) := by decide +kernel
theorem dX11_endsHill_36 : decode cX11_endsHill 36 = .ok (.getfield 32, 3) := by decide +kernel
theorem dX11_endsHill_39 : decode cX11_endsHill 39 = .ok (.iconst 1, 1) := by decide +kernel
theorem dX11_endsHill_40 : decode cX11_endsHill 40 = .ok (.iaload, 1) := by decide +kernel
theorem dX11_endsHill_41 : decode cX11_endsHill 41 = .ok (.ifCond .le 25, 3) := by decide +kernel
theorem dX11_endsHill_44 : decode cX11_endsHill 44 = .ok (.iload_n 1, 1) := by decide +kernel
theorem dX11_endsHill_45 : decode cX11_endsHill 45 = .ok (.bipush 100, 2) := by decide +kernel
theorem dX11_endsHill_47 : decode cX11_endsHill 47 = .ok (.if_icmp .eq 19, 3) := by decide +kernel
theorem dX11_endsHill_50 : decode cX11_endsHill 50 = .ok (.aload_n 0, 1) := by decide +kernel
theorem dX11_endsHill_51 : decode cX11_endsHill 51 = .ok (.getfield 112, 3) := by decide +kernel
theorem dX11_endsHill_54 : decode cX11_endsHill 54 = .ok (.ifCond .ne 12, 3) := by decide +kernel
theorem dX11_endsHill_57 : decode cX11_endsHill 57 = .ok (.aload_n 0, 1) := by decide +kernel
theorem dX11_endsHill_58 : decode cX11_endsHill 58 = .ok (.iconst 4, 1) := by decide +kernel
theorem dX11_endsHill_59 : decode cX11_endsHill 59 = .ok (.aload_n 0, 1) := by decide +kernel
theorem dX11_endsHill_60 : decode cX11_endsHill 60 = .ok (.getfield 96, 3) := by decide +kernel
theorem dX11_endsHill_63 : decode cX11_endsHill 63 = .ok (.invokevirtual 125, 3) := by decide +kernel
theorem dX11_endsHill_66 : decode cX11_endsHill 66 = .ok (.aload_n 0, 1) := by decide +kernel
theorem dX11_endsHill_67 : decode cX11_endsHill 67 = .ok (.getfield 32, 3) := by decide +kernel
theorem dX11_endsHill_70 : decode cX11_endsHill 70 = .ok (.iconst 1, 1) := by decide +kernel
theorem dX11_endsHill_71 : decode cX11_endsHill 71 = .ok (.iaload, 1) := by decide +kernel
theorem dX11_endsHill_72 : decode cX11_endsHill 72 = .ok (.ifCond .ne 26, 3) := by decide +kernel
theorem dX11_endsHill_75 : decode cX11_endsHill 75 = .ok (.aload_n 0, 1) := by decide +kernel
theorem dX11_endsHill_76 : decode cX11_endsHill 76 = .ok (.getfield 32, 3) := by decide +kernel
theorem dX11_endsHill_79 : decode cX11_endsHill 79 = .ok (.iconst 1, 1) := by decide +kernel
theorem dX11_endsHill_80 : decode cX11_endsHill 80 = .ok (.iconst 1, 1) := by decide +kernel
theorem dX11_endsHill_81 : decode cX11_endsHill 81 = .ok (.iastore, 1) := by decide +kernel
theorem dX11_endsHill_82 : decode cX11_endsHill 82 = .ok (.aload_n 0, 1) := by decide +kernel
theorem dX11_endsHill_83 : decode cX11_endsHill 83 = .ok (.getfield 32, 3) := by decide +kernel
theorem dX11_endsHill_86 : decode cX11_endsHill 86 = .ok (.iconst 5, 1) := by decide +kernel
theorem dX11_endsHill_87 : decode cX11_endsHill 87 = .ok (.iconst 0, 1) := by decide +kernel
theorem dX11_endsHill_88 : decode cX11_endsHill 88 = .ok (.iastore, 1) := by decide +kernel
theorem dX11_endsHill_89 : decode cX11_endsHill 89 = .ok (.aload_n 0, 1) := by decide +kernel
theorem dX11_endsHill_90 : decode cX11_endsHill 90 = .ok (.getfield 32, 3) := by decide +kernel
theorem dX11_endsHill_93 : decode cX11_endsHill 93 = .ok (.bipush 6, 2) := by decide +kernel
theorem dX11_endsHill_95 : decode cX11_endsHill 95 = .ok (.bipush 100, 2) := by decide +kernel
theorem dX11_endsHill_97 : decode cX11_endsHill 97 = .ok (.iastore, 1) := by decide +kernel
theorem dX11_endsHill_98 : decode cX11_endsHill 98 = .ok (.return_, 1) := by decide +kernel
theorem dX11_readText_0 : decode cX11_readText 0 = .ok (.iconst 0, 1) := by decide +kernel
theorem dX11_readText_1 : decode cX11_readText 1 = .ok (.istore_n 2, 1) := by decide +kernel
theorem dX11_readText_2 : decode cX11_readText 2 = .ok (.iload_n 2, 1) := by decide +kernel
theorem dX11_readText_3 : decode cX11_readText 3 = .ok (.sipush 157, 3) := by decide +kernel
theorem dX11_readText_6 : decode cX11_readText 6 = .ok (.if_icmp .ge 33, 3) := by decide +kernel
theorem dX11_readText_9 : decode cX11_readText 9 = .ok (.aload_n 0, 1) := by decide +kernel
theorem dX11_readText_10 : decode cX11_readText 10 = .ok (.getfield 32, 3) := by decide +kernel
theorem dX11_readText_13 : decode cX11_readText 13 = .ok (.iload_n 2, 1) := by decide +kernel
theorem dX11_readText_14 : decode cX11_readText 14 = .ok (.iload_n 1, 1) := by decide +kernel
theorem dX11_readText_15 : decode cX11_readText 15 = .ok (.ifCond .ne 16, 3) := by decide +kernel
theorem dX11_readText_18 : decode cX11_readText 18 = .ok (.iload_n 2, 1) := by decide +kernel
theorem dX11_readText_19 : decode cX11_readText 19 = .ok (.iconst 2, 1) := by decide +kernel
theorem dX11_readText_20 : decode cX11_readText 20 = .ok (.iconst 4, 1) := by decide +kernel
theorem dX11_readText_21 : decode cX11_readText 21 = .ok (.invokestatic 78, 3) := by decide +kernel
theorem dX11_readText_24 : decode cX11_readText 24 = .ok (.ifCond .eq 7, 3) := by decide +kernel
theorem dX11_readText_27 : decode cX11_readText 27 = .ok (.iconst 1, 1) := by decide +kernel
theorem dX11_readText_28 : decode cX11_readText 28 = .ok (.goto 4, 3) := by decide +kernel
theorem dX11_readText_31 : decode cX11_readText 31 = .ok (.iconst 0, 1) := by decide +kernel
theorem dX11_readText_32 : decode cX11_readText 32 = .ok (.iastore, 1) := by decide +kernel
theorem dX11_readText_33 : decode cX11_readText 33 = .ok (.iinc 2 1, 3) := by decide +kernel
theorem dX11_readText_36 : decode cX11_readText 36 = .ok (.goto (-34), 3) := by decide +kernel
theorem dX11_readText_39 : decode cX11_readText 39 = .ok (.aload_n 0, 1) := by decide +kernel
theorem dX11_readText_40 : decode cX11_readText 40 = .ok (.iconst 0, 1) := by decide +kernel
theorem dX11_readText_41 : decode cX11_readText 41 = .ok (.putfield 86, 3) := by decide +kernel
theorem dX11_readText_44 : decode cX11_readText 44 = .ok (.aload_n 0, 1) := by decide +kernel
theorem dX11_readText_45 : decode cX11_readText 45 = .ok (.iconst 0, 1) := by decide +kernel
theorem dX11_readText_46 : decode cX11_readText 46 = .ok (.putfield 112, 3) := by decide +kernel
theorem dX11_readText_49 : decode cX11_readText 49 = .ok (.iconst 1, 1) := by decide +kernel
theorem dX11_readText_50 : decode cX11_readText 50 = .ok (.istore_n 2, 1) := by decide +kernel
theorem dX11_readText_51 : decode cX11_readText 51 = .ok (.aload_n 0, 1) := by decide +kernel
theorem dX11_readText_52 : decode cX11_readText 52 = .ok (.invokevirtual 133, 3) := by decide +kernel
theorem dX11_readText_55 : decode cX11_readText 55 = .ok (.iload_n 2, 1) := by decide +kernel
theorem dX11_readText_56 : decode cX11_readText 56 = .ok (.ifCond .eq 66, 3) := by decide +kernel
theorem dX11_readText_59 : decode cX11_readText 59 = .ok (.aload_n 0, 1) := by decide +kernel
theorem dX11_readText_60 : decode cX11_readText 60 = .ok (.getfield 103, 3) := by decide +kernel
theorem dX11_readText_63 : decode cX11_readText 63 = .ok (.ifCond .eq 59, 3) := by decide +kernel
theorem dX11_readText_66 : decode cX11_readText 66 = .ok (.aload_n 0, 1) := by decide +kernel
theorem dX11_readText_67 : decode cX11_readText 67 = .ok (.getfield 96, 3) := by decide +kernel
theorem dX11_readText_70 : decode cX11_readText 70 = .ok (.istore_n 3, 1) := by decide +kernel
theorem dX11_readText_71 : decode cX11_readText 71 = .ok (.aload_n 0, 1) := by decide +kernel
theorem dX11_readText_72 : decode cX11_readText 72 = .ok (.iconst 1, 1) := by decide +kernel
theorem dX11_readText_73 : decode cX11_readText 73 = .ok (.putfield 129, 3) := by decide +kernel
theorem dX11_readText_76 : decode cX11_readText 76 = .ok (.iload_n 1, 1) := by decide +kernel
theorem dX11_readText_77 : decode cX11_readText 77 = .ok (.ifCond .ne 11, 3) := by decide +kernel
theorem dX11_readText_80 : decode cX11_readText 80 = .ok (.aload_n 0, 1) := by decide +kernel
theorem dX11_readText_81 : decode cX11_readText 81 = .ok (.iload_n 3, 1) := by decide +kernel
theorem dX11_readText_82 : decode cX11_readText 82 = .ok (.invokevirtual 193, 3) := by decide +kernel
theorem dX11_readText_85 : decode cX11_readText 85 = .ok (.goto 8, 3) := by decide +kernel
theorem dX11_readText_88 : decode cX11_readText 88 = .ok (.aload_n 0, 1) := by decide +kernel
theorem dX11_readText_89 : decode cX11_readText 89 = .ok (.iload_n 3, 1) := by decide +kernel
theorem dX11_readText_90 : decode cX11_readText 90 = .ok (.invokevirtual 196, 3) := by decide +kernel
theorem dX11_readText_93 : decode cX11_readText 93 = .ok (.istore_n 2, 1) := by decide +kernel
theorem dX11_readText_94 : decode cX11_readText 94 = .ok (.iload_n 2, 1) := by decide +kernel
theorem dX11_readText_95 : decode cX11_readText 95 = .ok (.ifCond .eq 16, 3) := by decide +kernel
theorem dX11_readText_98 : decode cX11_readText 98 = .ok (.aload_n 0, 1) := by decide +kernel
theorem dX11_readText_99 : decode cX11_readText 99 = .ok (.getfield 103, 3) := by decide +kernel
theorem dX11_readText_102 : decode cX11_readText 102 = .ok (.iconst 4, 1) := by decide +kernel
theorem dX11_readText_103 : decode cX11_readText 103 = .ok (.if_icmp .eq 8, 3) := by decide +kernel
theorem dX11_readText_106 : decode cX11_readText 106 = .ok (.aload_n 0, 1) := by decide +kernel
theorem dX11_readText_107 : decode cX11_readText 107 = .ok (.invokevirtual 118, 3) := by decide +kernel
theorem dX11_readText_110 : decode cX11_readText 110 = .ok (.istore_n 2, 1) := by decide +kernel
theorem dX11_readText_111 : decode cX11_readText 111 = .ok (.iload_n 2, 1) := by decide +kernel
theorem dX11_readText_112 : decode cX11_readText 112 = .ok (.ifCond .eq 7, 3) := by decide +kernel
theorem dX11_readText_115 : decode cX11_readText 115 = .ok (.aload_n 0, 1) := by decide +kernel
theorem dX11_readText_116 : decode cX11_readText 116 = .ok (.invokevirtual 133, 3) := by decide +kernel
theorem dX11_readText_119 : decode cX11_readText 119 = .ok (.goto (-64), 3) := by decide +kernel
theorem dX11_readText_122 : decode cX11_readText 122 = .ok (.iload_n 2, 1) := by decide +kernel
theorem dX11_readText_123 : decode cX11_readText 123 = .ok (.ifCond .eq 11, 3) := by decide +kernel
theorem dX11_readText_126 : decode cX11_readText 126 = .ok (.iload_n 1, 1) := by decide +kernel
theorem dX11_readText_127 : decode cX11_readText 127 = .ok (.ifCond .ne 7, 3) := by decide +kernel
theorem dX11_readText_130 : decode cX11_readText 130 = .ok (.aload_n 0, 1) := by decide +kernel
theorem dX11_readText_131 : decode cX11_readText 131 = .ok (.invokevirtual 199, 3) := by decide +kernel
theorem dX11_readText_134 : decode cX11_readText 134 = .ok (.aload_n 0, 1) := by decide +kernel
theorem dX11_readText_135 : decode cX11_readText 135 = .ok (.getfield 17, 3) := by decide +kernel
theorem dX11_readText_138 : decode cX11_readText 138 = .ok (.iconst 0, 1) := by decide +kernel
theorem dX11_readText_139 : decode cX11_readText 139 = .ok (.iload_n 2, 1) := by decide +kernel
theorem dX11_readText_140 : decode cX11_readText 140 = .ok (.ifCond .eq 10, 3) := by decide +kernel
theorem dX11_readText_143 : decode cX11_readText 143 = .ok (.aload_n 0, 1) := by decide +kernel
theorem dX11_readText_144 : decode cX11_readText 144 = .ok (.getfield 112, 3) := by decide +kernel
theorem dX11_readText_147 : decode cX11_readText 147 = .ok (.goto 4, 3) := by decide +kernel
theorem dX11_readText_150 : decode cX11_readText 150 = .ok (.iconst 1, 1) := by decide +kernel
theorem dX11_readText_151 : decode cX11_readText 151 = .ok (.iastore, 1) := by decide +kernel
theorem dX11_readText_152 : decode cX11_readText 152 = .ok (.aload_n 0, 1) := by decide +kernel
theorem dX11_readText_153 : decode cX11_readText 153 = .ok (.getfield 20, 3) := by decide +kernel
theorem dX11_readText_156 : decode cX11_readText 156 = .ok (.iconst 0, 1) := by decide +kernel
theorem dX11_readText_157 : decode cX11_readText 157 = .ok (.iload_n 2, 1) := by decide +kernel
theorem dX11_readText_158 : decode cX11_readText 158 = .ok (.ifCond .ne 10, 3) := by decide +kernel
theorem dX11_readText_161 : decode cX11_readText 161 = .ok (.aload_n 0, 1) := by decide +kernel
theorem dX11_readText_162 : decode cX11_readText 162 = .ok (.getfield 109, 3) := by decide +kernel
theorem dX11_readText_165 : decode cX11_readText 165 = .ok (.goto 18, 3) := by decide +kernel
theorem dX11_readText_168 : decode cX11_readText 168 = .ok (.aload_n 0, 1) := by decide +kernel
theorem dX11_readText_169 : decode cX11_readText 169 = .ok (.getfield 112, 3) := by decide +kernel
theorem dX11_readText_172 : decode cX11_readText 172 = .ok (.ifCond .le 10, 3) := by decide +kernel
theorem dX11_readText_175 : decode cX11_readText 175 = .ok (.aload_n 0, 1) := by decide +kernel
theorem dX11_readText_176 : decode cX11_readText 176 = .ok (.getfield 115, 3) := by decide +kernel
theorem dX11_readText_179 : decode cX11_readText 179 = .ok (.goto 4, 3) := by decide +kernel
theorem dX11_readText_182 : decode cX11_readText 182 = .ok (.iconst (-1), 1) := by decide +kernel
theorem dX11_readText_183 : decode cX11_readText 183 = .ok (.iastore, 1) := by decide +kernel
theorem dX11_readText_184 : decode cX11_readText 184 = .ok (.aload_n 0, 1) := by decide +kernel
theorem dX11_readText_185 : decode cX11_readText 185 = .ok (.getfield 17, 3) := by decide +kernel
theorem dX11_readText_188 : decode cX11_readText 188 = .ok (.iconst 0, 1) := by decide +kernel
theorem dX11_readText_189 : decode cX11_readText 189 = .ok (.iaload, 1) := by decide +kernel
theorem dX11_readText_190 : decode cX11_readText 190 = .ok (.ifCond .ne 7, 3) := by decide +kernel
theorem dX11_readText_193 : decode cX11_readText 193 = .ok (.iconst 1, 1) := by decide +kernel
theorem dX11_readText_194 : decode cX11_readText 194 = .ok (.goto 4, 3) := by decide +kernel
theorem dX11_readText_197 : decode cX11_readText 197 = .ok (.iconst 0, 1) := by decide +kernel
theorem dX11_readText_198 : decode cX11_readText 198 = .ok (.ireturn, 1) := by decide +kernel
set_option maxHeartbeats 4000000 in
set_option maxRecDepth 100000 in
theorem c_M_endsHill {d : Nat} {u : Nat → Nat → Int32} {g : Nat → Nat → Int64} {ex : List MC}  (hd : 1 ≤ d) (hp0 : (RH u)) : CT con0 d 0 0 yX11_endsHill cX11_endsHill 3 none [.ref 162] (Wd u g ex) (fun r h2 => ∃ (u2 : Nat → Nat → Int32), r = none ∧ h2 = Wd u2 g ex ∧ (RH u2) ∧ (u2 162 15 = 0 → RCf (u2 170)) ∧ (∀ c, c ≠ 162 → c ≠ 170 → u2 c = u c) ∧ (∀ j, j ≠ 15 → j ≠ 16 → u2 162 j = u 162 j)) := by
  refine CT_of (by decide) (Nat.le_of_ble_eq_true rfl) (fun x hq => ?_)
  show J x yX11_endsHill cX11_endsHill 3 none d 0 0 (Wd u g ex).length 0 [(0, .ref 162)] [] (Wd u g ex) 0 0
  refine J_iconst (v := 0) dX11_endsHill_0 (by decide) ?_
  refine J_istore_n (i := 1) (lw := [(1, .int 0), (0, .ref 162)]) dX11_endsHill_1 rfl (by decide) rfl ?_
  refine J_iconst (v := 0) dX11_endsHill_2 (by decide) ?_
  refine J_istore_n (i := 2) (lw := [(2, .int 0), (1, .int 0), (0, .ref 162)]) dX11_endsHill_3 rfl (by decide) rfl ?_
  refine J_iload_n (i := 2) (j := 0) dX11_endsHill_4 rfl rfl ?_
  refine J_aload_n (i := 0) (j := 2) dX11_endsHill_5 rfl rfl ?_
  refine J_get (C := RX11) (T := TX11) (Z := 43) (ci := 11) (f := 19) dX11_endsHill_6 inG11 rfl (by decide) k1283 wc_162 rfl ?_
  refine J_iconst (v := 1) dX11_endsHill_9 (by decide) ?_
  refine J_iald dX11_endsHill_10 wc_170 (vin (bd_c (v := 1) (lo := 1) (hi := 1) (by decide)) (by decide)) ?_
  refine J_ci (v := u 170 1) rfl ?_
  refine J_icmp_ge (tgt := 35) dX11_endsHill_11 (by decide) (fun c1 => ?_) (fun c1 => ?_)
  · refine J_aload_n (i := 0) (j := 2) dX11_endsHill_35 rfl rfl ?_
    refine J_get (C := RX11) (T := TX11) (Z := 43) (ci := 11) (f := 19) dX11_endsHill_36 inG11 rfl (by decide) k1283 wc_162 rfl ?_
    refine J_iconst (v := 1) dX11_endsHill_39 (by decide) ?_
    refine J_iald dX11_endsHill_40 wc_170 (vin (bd_c (v := 1) (lo := 1) (hi := 1) (by decide)) (by decide)) ?_
    refine J_ci (v := u 170 1) rfl ?_
    refine J_if_le (tgt := 66) dX11_endsHill_41 (by decide) (fun c2 => ?_) (fun c2 => ?_)
    · refine J_aload_n (i := 0) (j := 2) dX11_endsHill_66 rfl rfl ?_
      refine J_get (C := RX11) (T := TX11) (Z := 43) (ci := 11) (f := 19) dX11_endsHill_67 inG11 rfl (by decide) k1283 wc_162 rfl ?_
      refine J_iconst (v := 1) dX11_endsHill_70 (by decide) ?_
      refine J_iald dX11_endsHill_71 wc_170 (vin (bd_c (v := 1) (lo := 1) (hi := 1) (by decide)) (by decide)) ?_
      refine J_ci (v := u 170 1) rfl ?_
      refine J_if_ne (tgt := 98) dX11_endsHill_72 (by decide) (fun c3 => ?_) (fun c3 => ?_)
      · exact (bd_no (bd_ne_lo (bd_le_hi (hp0).2.2.1 c1 (bd_c (v := 0) (lo := 0) (hi := 0) (by decide))) c3 (by decide)) (by decide)).elim
      · refine J_aload_n (i := 0) (j := 2) dX11_endsHill_75 rfl rfl ?_
        refine J_get (C := RX11) (T := TX11) (Z := 43) (ci := 11) (f := 19) dX11_endsHill_76 inG11 rfl (by decide) k1283 wc_162 rfl ?_
        refine J_iconst (v := 1) dX11_endsHill_79 (by decide) ?_
        refine J_iconst (v := 1) dX11_endsHill_80 (by decide) ?_
        obtain ⟨u4, e5⟩ : ∃ z, z = ms u 170 1 1 := ⟨_, rfl⟩
        refine J_iast dX11_endsHill_81 wc_170 (vin (bd_c (v := 1) (lo := 1) (hi := 1) (by decide)) (by decide)) (ws e5 wk_170 rfl) ?_
        refine J_aload_n (i := 0) (j := 2) dX11_endsHill_82 rfl rfl ?_
        refine J_get (C := RX11) (T := TX11) (Z := 43) (ci := 11) (f := 19) dX11_endsHill_83 inG11 rfl (by decide) k1283 wc_162 rfl ?_
        refine J_iconst (v := 5) dX11_endsHill_86 (by decide) ?_
        refine J_iconst (v := 0) dX11_endsHill_87 (by decide) ?_
        obtain ⟨u6, e7⟩ : ∃ z, z = ms u4 170 5 0 := ⟨_, rfl⟩
        refine J_iast dX11_endsHill_88 wc_170 (vin (bd_c (v := 5) (lo := 5) (hi := 5) (by decide)) (by decide)) (ws e7 wk_170 rfl) ?_
        refine J_aload_n (i := 0) (j := 2) dX11_endsHill_89 rfl rfl ?_
        refine J_get (C := RX11) (T := TX11) (Z := 43) (ci := 11) (f := 19) dX11_endsHill_90 inG11 rfl (by decide) k1283 wc_162 rfl ?_
        refine J_bipush (v := 6) dX11_endsHill_93 (by decide) ?_
        refine J_bipush (v := 100) dX11_endsHill_95 (by decide) ?_
        obtain ⟨u8, e9⟩ : ∃ z, z = ms u6 170 6 100 := ⟨_, rfl⟩
        refine J_iast dX11_endsHill_97 wc_170 (vin (bd_c (v := 6) (lo := 6) (hi := 6) (by decide)) (by decide)) (ws e9 wk_170 rfl) ?_
        exact J_vret hq dX11_endsHill_98 rfl wlen (Nat.le_refl _) (Nat.le_refl _) ⟨u8, rfl, rfl, (rh_rc e9 (by decide) (bd_w (l := 0) (h := 999) (bd_c (v := 100) (lo := 100) (hi := 100) (by decide)) (by decide)) (rh_rc e7 (by decide) (bd_w (l := 0) (h := 999) (bd_c (v := 0) (lo := 0) (hi := 0) (by decide)) (by decide)) (rh_1 e5 (bd_w (l := 0) (h := 4) (bd_c (v := 1) (lo := 1) (hi := 1) (by decide)) (by decide)) hp0))), (fun _ => rcf_0 ((ms_i e9 (by decide)).trans ((ms_i e7 (by decide)).trans (ms_e e5))) (ms_e e9) (bd_r ((ms_i e9 (by decide)).trans ((ms_i e7 (by decide)).trans (ms_i e5 (by decide)))) (hp0).2.2.2.2.2.1) (bd_r ((ms_i e9 (by decide)).trans ((ms_i e7 (by decide)).trans (ms_i e5 (by decide)))) (hp0).2.2.2.2.2.2.1) (bd_r ((ms_i e9 (by decide)).trans ((ms_i e7 (by decide)).trans (ms_i e5 (by decide)))) (hp0).2.2.2.2.2.2.2)), (fun c k0_ k1_ => ((ms_c e9 k1_).trans ((ms_c e7 k1_).trans (ms_c e5 k1_)))), (fun j k15_ k16_ => ((congrFun (ms_c e9 (by decide)) j).trans ((congrFun (ms_c e7 (by decide)) j).trans (congrFun (ms_c e5 (by decide)) j))))⟩
    · exact (bd_no (bd_lt_lo (bd_le_hi (hp0).2.2.1 c1 (bd_c (v := 0) (lo := 0) (hi := 0) (by decide))) (i_nle c2) (bd_c (v := 0) (lo := 0) (hi := 0) (by decide))) (by decide)).elim
  · refine J_iload_n (i := 1) (j := 1) dX11_endsHill_14 rfl rfl ?_
    refine J_aload_n (i := 0) (j := 2) dX11_endsHill_15 rfl rfl ?_
    refine J_get (C := RX11) (T := TX11) (Z := 43) (ci := 11) (f := 19) dX11_endsHill_16 inG11 rfl (by decide) k1283 wc_162 rfl ?_
    refine J_iconst (v := 5) dX11_endsHill_19 (by decide) ?_
    refine J_iconst (v := 2) dX11_endsHill_20 (by decide) ?_
    refine J_iload_n (i := 2) (j := 0) dX11_endsHill_21 rfl rfl ?_
    refine J_imul dX11_endsHill_22 ?_
    refine J_ci (v := 0) (by decide) ?_
    refine J_iadd dX11_endsHill_23 ?_
    refine J_ci (v := 5) (by decide) ?_
    refine J_iconst (v := 1) dX11_endsHill_24 (by decide) ?_
    refine J_iadd dX11_endsHill_25 ?_
    refine J_ci (v := 6) (by decide) ?_
    refine J_iald dX11_endsHill_26 wc_170 (vin (bd_c (v := 6) (lo := 6) (hi := 6) (by decide)) (by decide)) ?_
    refine J_ci (v := u 170 6) rfl ?_
    refine J_iadd dX11_endsHill_27 ?_
    refine J_istore_n (i := 1) (lw := [(1, .int ((0 : Int32) + (u 170 6))), (2, .int 0), (0, .ref 162)]) dX11_endsHill_28 rfl (by decide) rfl ?_
    refine J_iinc (i := 2) (j := 1) (v := 1) (lw := [(2, .int 1), (1, .int ((0 : Int32) + (u 170 6))), (0, .ref 162)]) dX11_endsHill_29 rfl (by decide) (by decide) rfl ?_
    refine J_goto (tgt := 4) dX11_endsHill_32 (by decide) ?_
    refine J_iload_n (i := 2) (j := 0) dX11_endsHill_4 rfl rfl ?_
    refine J_aload_n (i := 0) (j := 2) dX11_endsHill_5 rfl rfl ?_
    refine J_get (C := RX11) (T := TX11) (Z := 43) (ci := 11) (f := 19) dX11_endsHill_6 inG11 rfl (by decide) k1283 wc_162 rfl ?_
    refine J_iconst (v := 1) dX11_endsHill_9 (by decide) ?_
    refine J_iald dX11_endsHill_10 wc_170 (vin (bd_c (v := 1) (lo := 1) (hi := 1) (by decide)) (by decide)) ?_
    refine J_ci (v := u 170 1) rfl ?_
    refine J_icmp_ge (tgt := 35) dX11_endsHill_11 (by decide) (fun c10 => ?_) (fun c10 => ?_)
    · refine J_aload_n (i := 0) (j := 2) dX11_endsHill_35 rfl rfl ?_
      refine J_get (C := RX11) (T := TX11) (Z := 43) (ci := 11) (f := 19) dX11_endsHill_36 inG11 rfl (by decide) k1283 wc_162 rfl ?_
      refine J_iconst (v := 1) dX11_endsHill_39 (by decide) ?_
      refine J_iald dX11_endsHill_40 wc_170 (vin (bd_c (v := 1) (lo := 1) (hi := 1) (by decide)) (by decide)) ?_
      refine J_ci (v := u 170 1) rfl ?_
      refine J_if_le (tgt := 66) dX11_endsHill_41 (by decide) (fun c11 => ?_) (fun c11 => ?_)
      · exact (bd_no (bd_le_hi (bd_le_hi (bd_lt_lo (hp0).2.2.1 (i_nle c1) (bd_c (v := 0) (lo := 0) (hi := 0) (by decide))) c10 (bd_c (v := 1) (lo := 1) (hi := 1) (by decide))) c11 (bd_c (v := 0) (lo := 0) (hi := 0) (by decide))) (by decide)).elim
      · refine J_iload_n (i := 1) (j := 1) dX11_endsHill_44 rfl rfl ?_
        refine J_bipush (v := 100) dX11_endsHill_45 (by decide) ?_
        refine J_icmp_eq (tgt := 66) dX11_endsHill_47 (by decide) (fun c12 => ?_) (fun c12 => ?_)
        · refine J_aload_n (i := 0) (j := 2) dX11_endsHill_66 rfl rfl ?_
          refine J_get (C := RX11) (T := TX11) (Z := 43) (ci := 11) (f := 19) dX11_endsHill_67 inG11 rfl (by decide) k1283 wc_162 rfl ?_
          refine J_iconst (v := 1) dX11_endsHill_70 (by decide) ?_
          refine J_iald dX11_endsHill_71 wc_170 (vin (bd_c (v := 1) (lo := 1) (hi := 1) (by decide)) (by decide)) ?_
          refine J_ci (v := u 170 1) rfl ?_
          refine J_if_ne (tgt := 98) dX11_endsHill_72 (by decide) (fun c13 => ?_) (fun c13 => ?_)
          · exact J_vret hq dX11_endsHill_98 rfl wlen (Nat.le_refl _) (Nat.le_refl _) ⟨u, rfl, rfl, hp0, (fun _ => ((rcf_1 (f := u 170) (bd_le_hi (bd_lt_lo (hp0).2.2.1 (i_nle c1) (bd_c (v := 0) (lo := 0) (hi := 0) (by decide))) c10 (bd_c (v := 1) (lo := 1) (hi := 1) (by decide))) (hp0).2.2.2.2.1 (hp0).2.2.2.2.2.1 (hp0).2.2.2.2.2.2.1 (hp0).2.2.2.2.2.2.2 c12))), (fun c k0_ k1_ => rfl), (fun j k15_ k16_ => rfl)⟩
          · exact (bd_neq c13 (bd_le_hi (bd_lt_lo (hp0).2.2.1 (i_nle c1) (bd_c (v := 0) (lo := 0) (hi := 0) (by decide))) c10 (bd_c (v := 1) (lo := 1) (hi := 1) (by decide))) (bd_c (v := 0) (lo := 0) (hi := 0) (by decide)) (by decide)).elim
        · refine J_aload_n (i := 0) (j := 2) dX11_endsHill_50 rfl rfl ?_
          refine J_get (C := RX11) (T := TX11) (Z := 43) (ci := 11) (f := 15) dX11_endsHill_51 inG11 rfl (by decide) k1279 wc_162 rfl ?_
          refine J_if_ne (tgt := 66) dX11_endsHill_54 (by decide) (fun c14 => ?_) (fun c14 => ?_)
          · refine J_aload_n (i := 0) (j := 2) dX11_endsHill_66 rfl rfl ?_
            refine J_get (C := RX11) (T := TX11) (Z := 43) (ci := 11) (f := 19) dX11_endsHill_67 inG11 rfl (by decide) k1283 wc_162 rfl ?_
            refine J_iconst (v := 1) dX11_endsHill_70 (by decide) ?_
            refine J_iald dX11_endsHill_71 wc_170 (vin (bd_c (v := 1) (lo := 1) (hi := 1) (by decide)) (by decide)) ?_
            refine J_ci (v := u 170 1) rfl ?_
            refine J_if_ne (tgt := 98) dX11_endsHill_72 (by decide) (fun c15 => ?_) (fun c15 => ?_)
            · exact J_vret hq dX11_endsHill_98 rfl wlen (Nat.le_refl _) (Nat.le_refl _) ⟨u, rfl, rfl, hp0, (fun q => absurd q c14), (fun c k0_ k1_ => rfl), (fun j k15_ k16_ => rfl)⟩
            · exact (bd_neq c15 (bd_le_hi (bd_lt_lo (hp0).2.2.1 (i_nle c1) (bd_c (v := 0) (lo := 0) (hi := 0) (by decide))) c10 (bd_c (v := 1) (lo := 1) (hi := 1) (by decide))) (bd_c (v := 0) (lo := 0) (hi := 0) (by decide)) (by decide)).elim
          · refine J_aload_n (i := 0) (j := 2) dX11_endsHill_57 rfl rfl ?_
            refine J_iconst (v := 4) dX11_endsHill_58 (by decide) ?_
            refine J_aload_n (i := 0) (j := 2) dX11_endsHill_59 rfl rfl ?_
            refine J_get (C := RX11) (T := TX11) (Z := 43) (ci := 11) (f := 10) dX11_endsHill_60 inG11 rfl (by decide) k1274 wc_162 rfl ?_
            refine J_callV (As := [.int 4, .int (u 162 10)]) (rest := []) dX11_endsHill_63 (c_M_later (d := 0) (u := u) (g := g) (ex := ex) (f := 4) (place := u 162 10)  (by decide) ) hq.n k1452 k1454 k43 wc_162 rfl rfl k97 k1455 np_X11_later (Nat.le_trans (by decide) hd) (by decide) (Nat.le_refl _) (Nat.le_refl _) wlen rfl (Nat.le_of_ble_eq_true rfl) (fun r_ h_ p16 => ?_)
            obtain ⟨u17, rfl, rfl, h18, fr19, fc20⟩ := p16
            refine J_aload_n (i := 0) (j := 2) dX11_endsHill_66 rfl rfl ?_
            refine J_get (C := RX11) (T := TX11) (Z := 43) (ci := 11) (f := 19) dX11_endsHill_67 inG11 rfl (by decide) k1283 wc_162 rfl ?_
            refine J_iconst (v := 1) dX11_endsHill_70 (by decide) ?_
            refine J_iald dX11_endsHill_71 wc_170 (vin (bd_c (v := 1) (lo := 1) (hi := 1) (by decide)) (by decide)) ?_
            refine J_ci (v := u 170 1) (congrFun (fr19 170 (by decide)) 1) ?_
            refine J_if_ne (tgt := 98) dX11_endsHill_72 (by decide) (fun c21 => ?_) (fun c21 => ?_)
            · exact J_vret hq dX11_endsHill_98 rfl wlen (Nat.le_refl _) (Nat.le_refl _) ⟨u17, rfl, rfl, (rh_c (fr19 170 (by decide)) hp0), (fun q => absurd (h18 q) (by decide)), (fun c k0_ k1_ => (fr19 c k0_)), (fun j k15_ k16_ => (fc20 j k15_ k16_))⟩
            · exact (bd_neq c21 (bd_le_hi (bd_lt_lo (hp0).2.2.1 (i_nle c1) (bd_c (v := 0) (lo := 0) (hi := 0) (by decide))) c10 (bd_c (v := 1) (lo := 1) (hi := 1) (by decide))) (bd_c (v := 0) (lo := 0) (hi := 0) (by decide)) (by decide)).elim
    · refine J_iload_n (i := 1) (j := 1) dX11_endsHill_14 rfl rfl ?_
      refine J_aload_n (i := 0) (j := 2) dX11_endsHill_15 rfl rfl ?_
      refine J_get (C := RX11) (T := TX11) (Z := 43) (ci := 11) (f := 19) dX11_endsHill_16 inG11 rfl (by decide) k1283 wc_162 rfl ?_
      refine J_iconst (v := 5) dX11_endsHill_19 (by decide) ?_
      refine J_iconst (v := 2) dX11_endsHill_20 (by decide) ?_
      refine J_iload_n (i := 2) (j := 0) dX11_endsHill_21 rfl rfl ?_
      refine J_imul dX11_endsHill_22 ?_
      refine J_ci (v := 2) (by decide) ?_
      refine J_iadd dX11_endsHill_23 ?_
      refine J_ci (v := 7) (by decide) ?_
      refine J_iconst (v := 1) dX11_endsHill_24 (by decide) ?_
      refine J_iadd dX11_endsHill_25 ?_
      refine J_ci (v := 8) (by decide) ?_
      refine J_iald dX11_endsHill_26 wc_170 (vin (bd_c (v := 8) (lo := 8) (hi := 8) (by decide)) (by decide)) ?_
      refine J_ci (v := u 170 8) rfl ?_
      refine J_iadd dX11_endsHill_27 ?_
      refine J_istore_n (i := 1) (lw := [(1, .int (((0 : Int32) + (u 170 6)) + (u 170 8))), (2, .int 1), (0, .ref 162)]) dX11_endsHill_28 rfl (by decide) rfl ?_
      refine J_iinc (i := 2) (j := 1) (v := 2) (lw := [(2, .int 2), (1, .int (((0 : Int32) + (u 170 6)) + (u 170 8))), (0, .ref 162)]) dX11_endsHill_29 rfl (by decide) (by decide) rfl ?_
      refine J_goto (tgt := 4) dX11_endsHill_32 (by decide) ?_
      refine J_iload_n (i := 2) (j := 0) dX11_endsHill_4 rfl rfl ?_
      refine J_aload_n (i := 0) (j := 2) dX11_endsHill_5 rfl rfl ?_
      refine J_get (C := RX11) (T := TX11) (Z := 43) (ci := 11) (f := 19) dX11_endsHill_6 inG11 rfl (by decide) k1283 wc_162 rfl ?_
      refine J_iconst (v := 1) dX11_endsHill_9 (by decide) ?_
      refine J_iald dX11_endsHill_10 wc_170 (vin (bd_c (v := 1) (lo := 1) (hi := 1) (by decide)) (by decide)) ?_
      refine J_ci (v := u 170 1) rfl ?_
      refine J_icmp_ge (tgt := 35) dX11_endsHill_11 (by decide) (fun c22 => ?_) (fun c22 => ?_)
      · refine J_aload_n (i := 0) (j := 2) dX11_endsHill_35 rfl rfl ?_
        refine J_get (C := RX11) (T := TX11) (Z := 43) (ci := 11) (f := 19) dX11_endsHill_36 inG11 rfl (by decide) k1283 wc_162 rfl ?_
        refine J_iconst (v := 1) dX11_endsHill_39 (by decide) ?_
        refine J_iald dX11_endsHill_40 wc_170 (vin (bd_c (v := 1) (lo := 1) (hi := 1) (by decide)) (by decide)) ?_
        refine J_ci (v := u 170 1) rfl ?_
        refine J_if_le (tgt := 66) dX11_endsHill_41 (by decide) (fun c23 => ?_) (fun c23 => ?_)
        · exact (bd_no (bd_le_hi (bd_le_hi (bd_lt_lo (bd_lt_lo (hp0).2.2.1 (i_nle c1) (bd_c (v := 0) (lo := 0) (hi := 0) (by decide))) (i_nle c10) (bd_c (v := 1) (lo := 1) (hi := 1) (by decide))) c22 (bd_c (v := 2) (lo := 2) (hi := 2) (by decide))) c23 (bd_c (v := 0) (lo := 0) (hi := 0) (by decide))) (by decide)).elim
        · refine J_iload_n (i := 1) (j := 1) dX11_endsHill_44 rfl rfl ?_
          refine J_bipush (v := 100) dX11_endsHill_45 (by decide) ?_
          refine J_icmp_eq (tgt := 66) dX11_endsHill_47 (by decide) (fun c24 => ?_) (fun c24 => ?_)
          · refine J_aload_n (i := 0) (j := 2) dX11_endsHill_66 rfl rfl ?_
            refine J_get (C := RX11) (T := TX11) (Z := 43) (ci := 11) (f := 19) dX11_endsHill_67 inG11 rfl (by decide) k1283 wc_162 rfl ?_
            refine J_iconst (v := 1) dX11_endsHill_70 (by decide) ?_
            refine J_iald dX11_endsHill_71 wc_170 (vin (bd_c (v := 1) (lo := 1) (hi := 1) (by decide)) (by decide)) ?_
            refine J_ci (v := u 170 1) rfl ?_
            refine J_if_ne (tgt := 98) dX11_endsHill_72 (by decide) (fun c25 => ?_) (fun c25 => ?_)
            · exact J_vret hq dX11_endsHill_98 rfl wlen (Nat.le_refl _) (Nat.le_refl _) ⟨u, rfl, rfl, hp0, (fun _ => ((rcf_2 (f := u 170) (bd_le_hi (bd_lt_lo (bd_lt_lo (hp0).2.2.1 (i_nle c1) (bd_c (v := 0) (lo := 0) (hi := 0) (by decide))) (i_nle c10) (bd_c (v := 1) (lo := 1) (hi := 1) (by decide))) c22 (bd_c (v := 2) (lo := 2) (hi := 2) (by decide))) (hp0).2.2.2.2.1 (hp0).2.2.2.2.2.1 (hp0).2.2.2.2.2.2.1 (hp0).2.2.2.2.2.2.2 c24))), (fun c k0_ k1_ => rfl), (fun j k15_ k16_ => rfl)⟩
            · exact (bd_neq c25 (bd_le_hi (bd_lt_lo (bd_lt_lo (hp0).2.2.1 (i_nle c1) (bd_c (v := 0) (lo := 0) (hi := 0) (by decide))) (i_nle c10) (bd_c (v := 1) (lo := 1) (hi := 1) (by decide))) c22 (bd_c (v := 2) (lo := 2) (hi := 2) (by decide))) (bd_c (v := 0) (lo := 0) (hi := 0) (by decide)) (by decide)).elim
          · refine J_aload_n (i := 0) (j := 2) dX11_endsHill_50 rfl rfl ?_
            refine J_get (C := RX11) (T := TX11) (Z := 43) (ci := 11) (f := 15) dX11_endsHill_51 inG11 rfl (by decide) k1279 wc_162 rfl ?_
            refine J_if_ne (tgt := 66) dX11_endsHill_54 (by decide) (fun c26 => ?_) (fun c26 => ?_)
            · refine J_aload_n (i := 0) (j := 2) dX11_endsHill_66 rfl rfl ?_
              refine J_get (C := RX11) (T := TX11) (Z := 43) (ci := 11) (f := 19) dX11_endsHill_67 inG11 rfl (by decide) k1283 wc_162 rfl ?_
              refine J_iconst (v := 1) dX11_endsHill_70 (by decide) ?_
              refine J_iald dX11_endsHill_71 wc_170 (vin (bd_c (v := 1) (lo := 1) (hi := 1) (by decide)) (by decide)) ?_
              refine J_ci (v := u 170 1) rfl ?_
              refine J_if_ne (tgt := 98) dX11_endsHill_72 (by decide) (fun c27 => ?_) (fun c27 => ?_)
              · exact J_vret hq dX11_endsHill_98 rfl wlen (Nat.le_refl _) (Nat.le_refl _) ⟨u, rfl, rfl, hp0, (fun q => absurd q c26), (fun c k0_ k1_ => rfl), (fun j k15_ k16_ => rfl)⟩
              · exact (bd_neq c27 (bd_le_hi (bd_lt_lo (bd_lt_lo (hp0).2.2.1 (i_nle c1) (bd_c (v := 0) (lo := 0) (hi := 0) (by decide))) (i_nle c10) (bd_c (v := 1) (lo := 1) (hi := 1) (by decide))) c22 (bd_c (v := 2) (lo := 2) (hi := 2) (by decide))) (bd_c (v := 0) (lo := 0) (hi := 0) (by decide)) (by decide)).elim
            · refine J_aload_n (i := 0) (j := 2) dX11_endsHill_57 rfl rfl ?_
              refine J_iconst (v := 4) dX11_endsHill_58 (by decide) ?_
              refine J_aload_n (i := 0) (j := 2) dX11_endsHill_59 rfl rfl ?_
              refine J_get (C := RX11) (T := TX11) (Z := 43) (ci := 11) (f := 10) dX11_endsHill_60 inG11 rfl (by decide) k1274 wc_162 rfl ?_
              refine J_callV (As := [.int 4, .int (u 162 10)]) (rest := []) dX11_endsHill_63 (c_M_later (d := 0) (u := u) (g := g) (ex := ex) (f := 4) (place := u 162 10)  (by decide) ) hq.n k1452 k1454 k43 wc_162 rfl rfl k97 k1455 np_X11_later (Nat.le_trans (by decide) hd) (by decide) (Nat.le_refl _) (Nat.le_refl _) wlen rfl (Nat.le_of_ble_eq_true rfl) (fun r_ h_ p28 => ?_)
              obtain ⟨u29, rfl, rfl, h30, fr31, fc32⟩ := p28
              refine J_aload_n (i := 0) (j := 2) dX11_endsHill_66 rfl rfl ?_
              refine J_get (C := RX11) (T := TX11) (Z := 43) (ci := 11) (f := 19) dX11_endsHill_67 inG11 rfl (by decide) k1283 wc_162 rfl ?_
              refine J_iconst (v := 1) dX11_endsHill_70 (by decide) ?_
              refine J_iald dX11_endsHill_71 wc_170 (vin (bd_c (v := 1) (lo := 1) (hi := 1) (by decide)) (by decide)) ?_
              refine J_ci (v := u 170 1) (congrFun (fr31 170 (by decide)) 1) ?_
              refine J_if_ne (tgt := 98) dX11_endsHill_72 (by decide) (fun c33 => ?_) (fun c33 => ?_)
              · exact J_vret hq dX11_endsHill_98 rfl wlen (Nat.le_refl _) (Nat.le_refl _) ⟨u29, rfl, rfl, (rh_c (fr31 170 (by decide)) hp0), (fun q => absurd (h30 q) (by decide)), (fun c k0_ k1_ => (fr31 c k0_)), (fun j k15_ k16_ => (fc32 j k15_ k16_))⟩
              · exact (bd_neq c33 (bd_le_hi (bd_lt_lo (bd_lt_lo (hp0).2.2.1 (i_nle c1) (bd_c (v := 0) (lo := 0) (hi := 0) (by decide))) (i_nle c10) (bd_c (v := 1) (lo := 1) (hi := 1) (by decide))) c22 (bd_c (v := 2) (lo := 2) (hi := 2) (by decide))) (bd_c (v := 0) (lo := 0) (hi := 0) (by decide)) (by decide)).elim
      · refine J_iload_n (i := 1) (j := 1) dX11_endsHill_14 rfl rfl ?_
        refine J_aload_n (i := 0) (j := 2) dX11_endsHill_15 rfl rfl ?_
        refine J_get (C := RX11) (T := TX11) (Z := 43) (ci := 11) (f := 19) dX11_endsHill_16 inG11 rfl (by decide) k1283 wc_162 rfl ?_
        refine J_iconst (v := 5) dX11_endsHill_19 (by decide) ?_
        refine J_iconst (v := 2) dX11_endsHill_20 (by decide) ?_
        refine J_iload_n (i := 2) (j := 0) dX11_endsHill_21 rfl rfl ?_
        refine J_imul dX11_endsHill_22 ?_
        refine J_ci (v := 4) (by decide) ?_
        refine J_iadd dX11_endsHill_23 ?_
        refine J_ci (v := 9) (by decide) ?_
        refine J_iconst (v := 1) dX11_endsHill_24 (by decide) ?_
        refine J_iadd dX11_endsHill_25 ?_
        refine J_ci (v := 10) (by decide) ?_
        refine J_iald dX11_endsHill_26 wc_170 (vin (bd_c (v := 10) (lo := 10) (hi := 10) (by decide)) (by decide)) ?_
        refine J_ci (v := u 170 10) rfl ?_
        refine J_iadd dX11_endsHill_27 ?_
        refine J_istore_n (i := 1) (lw := [(1, .int ((((0 : Int32) + (u 170 6)) + (u 170 8)) + (u 170 10))), (2, .int 2), (0, .ref 162)]) dX11_endsHill_28 rfl (by decide) rfl ?_
        refine J_iinc (i := 2) (j := 1) (v := 3) (lw := [(2, .int 3), (1, .int ((((0 : Int32) + (u 170 6)) + (u 170 8)) + (u 170 10))), (0, .ref 162)]) dX11_endsHill_29 rfl (by decide) (by decide) rfl ?_
        refine J_goto (tgt := 4) dX11_endsHill_32 (by decide) ?_
        refine J_iload_n (i := 2) (j := 0) dX11_endsHill_4 rfl rfl ?_
        refine J_aload_n (i := 0) (j := 2) dX11_endsHill_5 rfl rfl ?_
        refine J_get (C := RX11) (T := TX11) (Z := 43) (ci := 11) (f := 19) dX11_endsHill_6 inG11 rfl (by decide) k1283 wc_162 rfl ?_
        refine J_iconst (v := 1) dX11_endsHill_9 (by decide) ?_
        refine J_iald dX11_endsHill_10 wc_170 (vin (bd_c (v := 1) (lo := 1) (hi := 1) (by decide)) (by decide)) ?_
        refine J_ci (v := u 170 1) rfl ?_
        refine J_icmp_ge (tgt := 35) dX11_endsHill_11 (by decide) (fun c34 => ?_) (fun c34 => ?_)
        · refine J_aload_n (i := 0) (j := 2) dX11_endsHill_35 rfl rfl ?_
          refine J_get (C := RX11) (T := TX11) (Z := 43) (ci := 11) (f := 19) dX11_endsHill_36 inG11 rfl (by decide) k1283 wc_162 rfl ?_
          refine J_iconst (v := 1) dX11_endsHill_39 (by decide) ?_
          refine J_iald dX11_endsHill_40 wc_170 (vin (bd_c (v := 1) (lo := 1) (hi := 1) (by decide)) (by decide)) ?_
          refine J_ci (v := u 170 1) rfl ?_
          refine J_if_le (tgt := 66) dX11_endsHill_41 (by decide) (fun c35 => ?_) (fun c35 => ?_)
          · exact (bd_no (bd_le_hi (bd_le_hi (bd_lt_lo (bd_lt_lo (bd_lt_lo (hp0).2.2.1 (i_nle c1) (bd_c (v := 0) (lo := 0) (hi := 0) (by decide))) (i_nle c10) (bd_c (v := 1) (lo := 1) (hi := 1) (by decide))) (i_nle c22) (bd_c (v := 2) (lo := 2) (hi := 2) (by decide))) c34 (bd_c (v := 3) (lo := 3) (hi := 3) (by decide))) c35 (bd_c (v := 0) (lo := 0) (hi := 0) (by decide))) (by decide)).elim
          · refine J_iload_n (i := 1) (j := 1) dX11_endsHill_44 rfl rfl ?_
            refine J_bipush (v := 100) dX11_endsHill_45 (by decide) ?_
            refine J_icmp_eq (tgt := 66) dX11_endsHill_47 (by decide) (fun c36 => ?_) (fun c36 => ?_)
            · refine J_aload_n (i := 0) (j := 2) dX11_endsHill_66 rfl rfl ?_
              refine J_get (C := RX11) (T := TX11) (Z := 43) (ci := 11) (f := 19) dX11_endsHill_67 inG11 rfl (by decide) k1283 wc_162 rfl ?_
              refine J_iconst (v := 1) dX11_endsHill_70 (by decide) ?_
              refine J_iald dX11_endsHill_71 wc_170 (vin (bd_c (v := 1) (lo := 1) (hi := 1) (by decide)) (by decide)) ?_
              refine J_ci (v := u 170 1) rfl ?_
              refine J_if_ne (tgt := 98) dX11_endsHill_72 (by decide) (fun c37 => ?_) (fun c37 => ?_)
              · exact J_vret hq dX11_endsHill_98 rfl wlen (Nat.le_refl _) (Nat.le_refl _) ⟨u, rfl, rfl, hp0, (fun _ => ((rcf_3 (f := u 170) (bd_le_hi (bd_lt_lo (bd_lt_lo (bd_lt_lo (hp0).2.2.1 (i_nle c1) (bd_c (v := 0) (lo := 0) (hi := 0) (by decide))) (i_nle c10) (bd_c (v := 1) (lo := 1) (hi := 1) (by decide))) (i_nle c22) (bd_c (v := 2) (lo := 2) (hi := 2) (by decide))) c34 (bd_c (v := 3) (lo := 3) (hi := 3) (by decide))) (hp0).2.2.2.2.1 (hp0).2.2.2.2.2.1 (hp0).2.2.2.2.2.2.1 (hp0).2.2.2.2.2.2.2 c36))), (fun c k0_ k1_ => rfl), (fun j k15_ k16_ => rfl)⟩
              · exact (bd_neq c37 (bd_le_hi (bd_lt_lo (bd_lt_lo (bd_lt_lo (hp0).2.2.1 (i_nle c1) (bd_c (v := 0) (lo := 0) (hi := 0) (by decide))) (i_nle c10) (bd_c (v := 1) (lo := 1) (hi := 1) (by decide))) (i_nle c22) (bd_c (v := 2) (lo := 2) (hi := 2) (by decide))) c34 (bd_c (v := 3) (lo := 3) (hi := 3) (by decide))) (bd_c (v := 0) (lo := 0) (hi := 0) (by decide)) (by decide)).elim
            · refine J_aload_n (i := 0) (j := 2) dX11_endsHill_50 rfl rfl ?_
              refine J_get (C := RX11) (T := TX11) (Z := 43) (ci := 11) (f := 15) dX11_endsHill_51 inG11 rfl (by decide) k1279 wc_162 rfl ?_
              refine J_if_ne (tgt := 66) dX11_endsHill_54 (by decide) (fun c38 => ?_) (fun c38 => ?_)
              · refine J_aload_n (i := 0) (j := 2) dX11_endsHill_66 rfl rfl ?_
                refine J_get (C := RX11) (T := TX11) (Z := 43) (ci := 11) (f := 19) dX11_endsHill_67 inG11 rfl (by decide) k1283 wc_162 rfl ?_
                refine J_iconst (v := 1) dX11_endsHill_70 (by decide) ?_
                refine J_iald dX11_endsHill_71 wc_170 (vin (bd_c (v := 1) (lo := 1) (hi := 1) (by decide)) (by decide)) ?_
                refine J_ci (v := u 170 1) rfl ?_
                refine J_if_ne (tgt := 98) dX11_endsHill_72 (by decide) (fun c39 => ?_) (fun c39 => ?_)
                · exact J_vret hq dX11_endsHill_98 rfl wlen (Nat.le_refl _) (Nat.le_refl _) ⟨u, rfl, rfl, hp0, (fun q => absurd q c38), (fun c k0_ k1_ => rfl), (fun j k15_ k16_ => rfl)⟩
                · exact (bd_neq c39 (bd_le_hi (bd_lt_lo (bd_lt_lo (bd_lt_lo (hp0).2.2.1 (i_nle c1) (bd_c (v := 0) (lo := 0) (hi := 0) (by decide))) (i_nle c10) (bd_c (v := 1) (lo := 1) (hi := 1) (by decide))) (i_nle c22) (bd_c (v := 2) (lo := 2) (hi := 2) (by decide))) c34 (bd_c (v := 3) (lo := 3) (hi := 3) (by decide))) (bd_c (v := 0) (lo := 0) (hi := 0) (by decide)) (by decide)).elim
              · refine J_aload_n (i := 0) (j := 2) dX11_endsHill_57 rfl rfl ?_
                refine J_iconst (v := 4) dX11_endsHill_58 (by decide) ?_
                refine J_aload_n (i := 0) (j := 2) dX11_endsHill_59 rfl rfl ?_
                refine J_get (C := RX11) (T := TX11) (Z := 43) (ci := 11) (f := 10) dX11_endsHill_60 inG11 rfl (by decide) k1274 wc_162 rfl ?_
                refine J_callV (As := [.int 4, .int (u 162 10)]) (rest := []) dX11_endsHill_63 (c_M_later (d := 0) (u := u) (g := g) (ex := ex) (f := 4) (place := u 162 10)  (by decide) ) hq.n k1452 k1454 k43 wc_162 rfl rfl k97 k1455 np_X11_later (Nat.le_trans (by decide) hd) (by decide) (Nat.le_refl _) (Nat.le_refl _) wlen rfl (Nat.le_of_ble_eq_true rfl) (fun r_ h_ p40 => ?_)
                obtain ⟨u41, rfl, rfl, h42, fr43, fc44⟩ := p40
                refine J_aload_n (i := 0) (j := 2) dX11_endsHill_66 rfl rfl ?_
                refine J_get (C := RX11) (T := TX11) (Z := 43) (ci := 11) (f := 19) dX11_endsHill_67 inG11 rfl (by decide) k1283 wc_162 rfl ?_
                refine J_iconst (v := 1) dX11_endsHill_70 (by decide) ?_
                refine J_iald dX11_endsHill_71 wc_170 (vin (bd_c (v := 1) (lo := 1) (hi := 1) (by decide)) (by decide)) ?_
                refine J_ci (v := u 170 1) (congrFun (fr43 170 (by decide)) 1) ?_
                refine J_if_ne (tgt := 98) dX11_endsHill_72 (by decide) (fun c45 => ?_) (fun c45 => ?_)
                · exact J_vret hq dX11_endsHill_98 rfl wlen (Nat.le_refl _) (Nat.le_refl _) ⟨u41, rfl, rfl, (rh_c (fr43 170 (by decide)) hp0), (fun q => absurd (h42 q) (by decide)), (fun c k0_ k1_ => (fr43 c k0_)), (fun j k15_ k16_ => (fc44 j k15_ k16_))⟩
                · exact (bd_neq c45 (bd_le_hi (bd_lt_lo (bd_lt_lo (bd_lt_lo (hp0).2.2.1 (i_nle c1) (bd_c (v := 0) (lo := 0) (hi := 0) (by decide))) (i_nle c10) (bd_c (v := 1) (lo := 1) (hi := 1) (by decide))) (i_nle c22) (bd_c (v := 2) (lo := 2) (hi := 2) (by decide))) c34 (bd_c (v := 3) (lo := 3) (hi := 3) (by decide))) (bd_c (v := 0) (lo := 0) (hi := 0) (by decide)) (by decide)).elim
        · refine J_iload_n (i := 1) (j := 1) dX11_endsHill_14 rfl rfl ?_
          refine J_aload_n (i := 0) (j := 2) dX11_endsHill_15 rfl rfl ?_
          refine J_get (C := RX11) (T := TX11) (Z := 43) (ci := 11) (f := 19) dX11_endsHill_16 inG11 rfl (by decide) k1283 wc_162 rfl ?_
          refine J_iconst (v := 5) dX11_endsHill_19 (by decide) ?_
          refine J_iconst (v := 2) dX11_endsHill_20 (by decide) ?_
          refine J_iload_n (i := 2) (j := 0) dX11_endsHill_21 rfl rfl ?_
          refine J_imul dX11_endsHill_22 ?_
          refine J_ci (v := 6) (by decide) ?_
          refine J_iadd dX11_endsHill_23 ?_
          refine J_ci (v := 11) (by decide) ?_
          refine J_iconst (v := 1) dX11_endsHill_24 (by decide) ?_
          refine J_iadd dX11_endsHill_25 ?_
          refine J_ci (v := 12) (by decide) ?_
          refine J_iald dX11_endsHill_26 wc_170 (vin (bd_c (v := 12) (lo := 12) (hi := 12) (by decide)) (by decide)) ?_
          refine J_ci (v := u 170 12) rfl ?_
          refine J_iadd dX11_endsHill_27 ?_
          refine J_istore_n (i := 1) (lw := [(1, .int (((((0 : Int32) + (u 170 6)) + (u 170 8)) + (u 170 10)) + (u 170 12))), (2, .int 3), (0, .ref 162)]) dX11_endsHill_28 rfl (by decide) rfl ?_
          refine J_iinc (i := 2) (j := 1) (v := 4) (lw := [(2, .int 4), (1, .int (((((0 : Int32) + (u 170 6)) + (u 170 8)) + (u 170 10)) + (u 170 12))), (0, .ref 162)]) dX11_endsHill_29 rfl (by decide) (by decide) rfl ?_
          refine J_goto (tgt := 4) dX11_endsHill_32 (by decide) ?_
          refine J_iload_n (i := 2) (j := 0) dX11_endsHill_4 rfl rfl ?_
          refine J_aload_n (i := 0) (j := 2) dX11_endsHill_5 rfl rfl ?_
          refine J_get (C := RX11) (T := TX11) (Z := 43) (ci := 11) (f := 19) dX11_endsHill_6 inG11 rfl (by decide) k1283 wc_162 rfl ?_
          refine J_iconst (v := 1) dX11_endsHill_9 (by decide) ?_
          refine J_iald dX11_endsHill_10 wc_170 (vin (bd_c (v := 1) (lo := 1) (hi := 1) (by decide)) (by decide)) ?_
          refine J_ci (v := u 170 1) rfl ?_
          refine J_icmp_ge (tgt := 35) dX11_endsHill_11 (by decide) (fun c46 => ?_) (fun c46 => ?_)
          · refine J_aload_n (i := 0) (j := 2) dX11_endsHill_35 rfl rfl ?_
            refine J_get (C := RX11) (T := TX11) (Z := 43) (ci := 11) (f := 19) dX11_endsHill_36 inG11 rfl (by decide) k1283 wc_162 rfl ?_
            refine J_iconst (v := 1) dX11_endsHill_39 (by decide) ?_
            refine J_iald dX11_endsHill_40 wc_170 (vin (bd_c (v := 1) (lo := 1) (hi := 1) (by decide)) (by decide)) ?_
            refine J_ci (v := u 170 1) rfl ?_
            refine J_if_le (tgt := 66) dX11_endsHill_41 (by decide) (fun c47 => ?_) (fun c47 => ?_)
            · exact (bd_no (bd_le_hi (bd_lt_lo (bd_lt_lo (bd_lt_lo (bd_lt_lo (hp0).2.2.1 (i_nle c1) (bd_c (v := 0) (lo := 0) (hi := 0) (by decide))) (i_nle c10) (bd_c (v := 1) (lo := 1) (hi := 1) (by decide))) (i_nle c22) (bd_c (v := 2) (lo := 2) (hi := 2) (by decide))) (i_nle c34) (bd_c (v := 3) (lo := 3) (hi := 3) (by decide))) c47 (bd_c (v := 0) (lo := 0) (hi := 0) (by decide))) (by decide)).elim
            · refine J_iload_n (i := 1) (j := 1) dX11_endsHill_44 rfl rfl ?_
              refine J_bipush (v := 100) dX11_endsHill_45 (by decide) ?_
              refine J_icmp_eq (tgt := 66) dX11_endsHill_47 (by decide) (fun c48 => ?_) (fun c48 => ?_)
              · refine J_aload_n (i := 0) (j := 2) dX11_endsHill_66 rfl rfl ?_
                refine J_get (C := RX11) (T := TX11) (Z := 43) (ci := 11) (f := 19) dX11_endsHill_67 inG11 rfl (by decide) k1283 wc_162 rfl ?_
                refine J_iconst (v := 1) dX11_endsHill_70 (by decide) ?_
                refine J_iald dX11_endsHill_71 wc_170 (vin (bd_c (v := 1) (lo := 1) (hi := 1) (by decide)) (by decide)) ?_
                refine J_ci (v := u 170 1) rfl ?_
                refine J_if_ne (tgt := 98) dX11_endsHill_72 (by decide) (fun c49 => ?_) (fun c49 => ?_)
                · exact J_vret hq dX11_endsHill_98 rfl wlen (Nat.le_refl _) (Nat.le_refl _) ⟨u, rfl, rfl, hp0, (fun _ => ((rcf_4 (f := u 170) (bd_lt_lo (bd_lt_lo (bd_lt_lo (bd_lt_lo (hp0).2.2.1 (i_nle c1) (bd_c (v := 0) (lo := 0) (hi := 0) (by decide))) (i_nle c10) (bd_c (v := 1) (lo := 1) (hi := 1) (by decide))) (i_nle c22) (bd_c (v := 2) (lo := 2) (hi := 2) (by decide))) (i_nle c34) (bd_c (v := 3) (lo := 3) (hi := 3) (by decide))) (hp0).2.2.2.2.1 (hp0).2.2.2.2.2.1 (hp0).2.2.2.2.2.2.1 (hp0).2.2.2.2.2.2.2 c48))), (fun c k0_ k1_ => rfl), (fun j k15_ k16_ => rfl)⟩
                · exact (bd_neq c49 (bd_lt_lo (bd_lt_lo (bd_lt_lo (bd_lt_lo (hp0).2.2.1 (i_nle c1) (bd_c (v := 0) (lo := 0) (hi := 0) (by decide))) (i_nle c10) (bd_c (v := 1) (lo := 1) (hi := 1) (by decide))) (i_nle c22) (bd_c (v := 2) (lo := 2) (hi := 2) (by decide))) (i_nle c34) (bd_c (v := 3) (lo := 3) (hi := 3) (by decide))) (bd_c (v := 0) (lo := 0) (hi := 0) (by decide)) (by decide)).elim
              · refine J_aload_n (i := 0) (j := 2) dX11_endsHill_50 rfl rfl ?_
                refine J_get (C := RX11) (T := TX11) (Z := 43) (ci := 11) (f := 15) dX11_endsHill_51 inG11 rfl (by decide) k1279 wc_162 rfl ?_
                refine J_if_ne (tgt := 66) dX11_endsHill_54 (by decide) (fun c50 => ?_) (fun c50 => ?_)
                · refine J_aload_n (i := 0) (j := 2) dX11_endsHill_66 rfl rfl ?_
                  refine J_get (C := RX11) (T := TX11) (Z := 43) (ci := 11) (f := 19) dX11_endsHill_67 inG11 rfl (by decide) k1283 wc_162 rfl ?_
                  refine J_iconst (v := 1) dX11_endsHill_70 (by decide) ?_
                  refine J_iald dX11_endsHill_71 wc_170 (vin (bd_c (v := 1) (lo := 1) (hi := 1) (by decide)) (by decide)) ?_
                  refine J_ci (v := u 170 1) rfl ?_
                  refine J_if_ne (tgt := 98) dX11_endsHill_72 (by decide) (fun c51 => ?_) (fun c51 => ?_)
                  · exact J_vret hq dX11_endsHill_98 rfl wlen (Nat.le_refl _) (Nat.le_refl _) ⟨u, rfl, rfl, hp0, (fun q => absurd q c50), (fun c k0_ k1_ => rfl), (fun j k15_ k16_ => rfl)⟩
                  · exact (bd_neq c51 (bd_lt_lo (bd_lt_lo (bd_lt_lo (bd_lt_lo (hp0).2.2.1 (i_nle c1) (bd_c (v := 0) (lo := 0) (hi := 0) (by decide))) (i_nle c10) (bd_c (v := 1) (lo := 1) (hi := 1) (by decide))) (i_nle c22) (bd_c (v := 2) (lo := 2) (hi := 2) (by decide))) (i_nle c34) (bd_c (v := 3) (lo := 3) (hi := 3) (by decide))) (bd_c (v := 0) (lo := 0) (hi := 0) (by decide)) (by decide)).elim
                · refine J_aload_n (i := 0) (j := 2) dX11_endsHill_57 rfl rfl ?_
                  refine J_iconst (v := 4) dX11_endsHill_58 (by decide) ?_
                  refine J_aload_n (i := 0) (j := 2) dX11_endsHill_59 rfl rfl ?_
                  refine J_get (C := RX11) (T := TX11) (Z := 43) (ci := 11) (f := 10) dX11_endsHill_60 inG11 rfl (by decide) k1274 wc_162 rfl ?_
                  refine J_callV (As := [.int 4, .int (u 162 10)]) (rest := []) dX11_endsHill_63 (c_M_later (d := 0) (u := u) (g := g) (ex := ex) (f := 4) (place := u 162 10)  (by decide) ) hq.n k1452 k1454 k43 wc_162 rfl rfl k97 k1455 np_X11_later (Nat.le_trans (by decide) hd) (by decide) (Nat.le_refl _) (Nat.le_refl _) wlen rfl (Nat.le_of_ble_eq_true rfl) (fun r_ h_ p52 => ?_)
                  obtain ⟨u53, rfl, rfl, h54, fr55, fc56⟩ := p52
                  refine J_aload_n (i := 0) (j := 2) dX11_endsHill_66 rfl rfl ?_
                  refine J_get (C := RX11) (T := TX11) (Z := 43) (ci := 11) (f := 19) dX11_endsHill_67 inG11 rfl (by decide) k1283 wc_162 rfl ?_
                  refine J_iconst (v := 1) dX11_endsHill_70 (by decide) ?_
                  refine J_iald dX11_endsHill_71 wc_170 (vin (bd_c (v := 1) (lo := 1) (hi := 1) (by decide)) (by decide)) ?_
                  refine J_ci (v := u 170 1) (congrFun (fr55 170 (by decide)) 1) ?_
                  refine J_if_ne (tgt := 98) dX11_endsHill_72 (by decide) (fun c57 => ?_) (fun c57 => ?_)
                  · exact J_vret hq dX11_endsHill_98 rfl wlen (Nat.le_refl _) (Nat.le_refl _) ⟨u53, rfl, rfl, (rh_c (fr55 170 (by decide)) hp0), (fun q => absurd (h54 q) (by decide)), (fun c k0_ k1_ => (fr55 c k0_)), (fun j k15_ k16_ => (fc56 j k15_ k16_))⟩
                  · exact (bd_neq c57 (bd_lt_lo (bd_lt_lo (bd_lt_lo (bd_lt_lo (hp0).2.2.1 (i_nle c1) (bd_c (v := 0) (lo := 0) (hi := 0) (by decide))) (i_nle c10) (bd_c (v := 1) (lo := 1) (hi := 1) (by decide))) (i_nle c22) (bd_c (v := 2) (lo := 2) (hi := 2) (by decide))) (i_nle c34) (bd_c (v := 3) (lo := 3) (hi := 3) (by decide))) (bd_c (v := 0) (lo := 0) (hi := 0) (by decide)) (by decide)).elim
          · exact (bd_no (bd_lt_lo (bd_lt_lo (bd_lt_lo (bd_lt_lo (bd_lt_lo (hp0).2.2.1 (i_nle c1) (bd_c (v := 0) (lo := 0) (hi := 0) (by decide))) (i_nle c10) (bd_c (v := 1) (lo := 1) (hi := 1) (by decide))) (i_nle c22) (bd_c (v := 2) (lo := 2) (hi := 2) (by decide))) (i_nle c34) (bd_c (v := 3) (lo := 3) (hi := 3) (by decide))) (i_nle c46) (bd_c (v := 4) (lo := 4) (hi := 4) (by decide))) (by decide)).elim
set_option maxHeartbeats 4000000 in
set_option maxRecDepth 100000 in
theorem c_M_readText0 {d : Nat} {u : Nat → Nat → Int32} {g : Nat → Nat → Int64} {ex : List MC}  (hd : 6 ≤ d) (hp0 : Bd 0 600 (u 162 9)) (hp1 : Bd 0 999 (u 162 12)) (hp2 : Bd 0 999 (u 162 17)) (hp3 : AB u 171 (-1) 999) (hp4 : AB u 170 (-1) 999) : CT con0 d 0 0 yX11_readText cX11_readText 4 (some .boolean) [.ref 162, .int 0] (Wd u g ex) (fun r h2 => ∃ (z : Bool) (u2 : Nat → Nat → Int32) (g2 : Nat → Nat → Int64), r = some (.int (bI z)) ∧ h2 = Wd u2 g2 ex ∧ Bd 0 600 (u2 162 8) ∧ Bd 0 999 (u2 162 12) ∧ Bd 0 999 (u2 162 17) ∧ AB u2 171 (-1) 999 ∧ (RH u2) ∧ (z = true → RCf (u2 170)) ∧ (∀ c, c ≠ 162 → c ≠ 165 → c ≠ 166 → c ≠ 170 → c ≠ 171 → u2 c = u c) ∧ (∀ j, j ≠ 8 → j ≠ 10 → j ≠ 11 → j ≠ 12 → j ≠ 14 → j ≠ 15 → j ≠ 16 → j ≠ 17 → j ≠ 18 → u2 162 j = u 162 j)) := by
  refine CT_of (by decide) (Nat.le_of_ble_eq_true rfl) (fun x hq => ?_)
  show J x yX11_readText cX11_readText 4 (some .boolean) d 0 0 (Wd u g ex).length 0 [(0, .ref 162), (1, .int 0)] [] (Wd u g ex) 0 0
  refine J_iconst (v := 0) dX11_readText_0 (by decide) ?_
  refine J_istore_n (i := 2) (lw := [(2, .int 0), (0, .ref 162), (1, .int 0)]) dX11_readText_1 rfl (by decide) rfl ?_
  have lp449 : ∀ (n450 : Nat) (w98 : Int32) (u99 : Nat → Nat → Int32), Bd 0 157 w98 → (∀ c, c ≠ 170 → u99 c = u c) → AB u99 170 (-1) 999 → ZI u99 w98 → (157 - w98.toInt).toNat < n450 → J x yX11_readText cX11_readText 4 (some .boolean) d 0 0 (Wd u g ex).length 2 [(0, .ref 162), (1, .int 0), (2, .int w98)] [] (Wd u99 g ex) 0 0 := by
    intro n450
    induction n450 with
    | zero => intro w98 u99 bw98 fr100 ab101 hI453 hm452; exact absurd hm452 (Nat.not_lt_zero _)
    | succ n450 ih451 =>
      intro w98 u99 bw98 fr100 ab101 hI453 hm452
      refine J_iload_n (i := 2) (j := 2) dX11_readText_2 rfl rfl ?_
      refine J_sipush (v := 157) dX11_readText_3 (by decide) ?_
      refine J_icmp_ge (tgt := 39) dX11_readText_6 (by decide) (fun c454 => ?_) (fun c454 => ?_)
      · have hz464 := zi_e hI453 (bd_le_lo bw98 c454 (bd_c (v := 157) (lo := 157) (hi := 157) (by decide))) ab101
        refine J_aload_n (i := 0) (j := 0) dX11_readText_39 rfl rfl ?_
        refine J_iconst (v := 0) dX11_readText_40 (by decide) ?_
        obtain ⟨u465, e466⟩ : ∃ z, z = ms u99 162 8 0 := ⟨_, rfl⟩
        refine J_put (C := RX11) (T := TX11) (Z := 43) (ci := 11) (f := 8) (ty0 := tyX11) dX11_readText_41 inG11 rfl tyX11_ok nmX11 (by decide) k1272 rfl rfl wc_162 (Nat.le_of_ble_eq_true rfl) (fun _ _ => ⟨rfl, rfl⟩) (ws e466 wk_162 rfl) ?_
        refine J_aload_n (i := 0) (j := 0) dX11_readText_44 rfl rfl ?_
        refine J_iconst (v := 0) dX11_readText_45 (by decide) ?_
        obtain ⟨u467, e468⟩ : ∃ z, z = ms u465 162 15 0 := ⟨_, rfl⟩
        refine J_put (C := RX11) (T := TX11) (Z := 43) (ci := 11) (f := 15) (ty0 := tyX11) dX11_readText_46 inG11 rfl tyX11_ok nmX11 (by decide) k1279 rfl rfl wc_162 (Nat.le_of_ble_eq_true rfl) (fun _ _ => ⟨rfl, rfl⟩) (ws e468 wk_162 rfl) ?_
        refine J_iconst (v := 1) dX11_readText_49 (by decide) ?_
        refine J_istore_n (i := 2) (lw := [(2, .int 1), (0, .ref 162), (1, .int 0)]) dX11_readText_50 rfl (by decide) rfl ?_
        refine J_aload_n (i := 0) (j := 1) dX11_readText_51 rfl rfl ?_
        refine J_callV (As := []) (rest := []) dX11_readText_52 (c_M_token (d := 1) (u := u467) (g := g) (ex := ex)   (by decide) (bd_r ((ms_i e468 (by decide)).trans (ms_e e466)) (bd_w (l := 0) (h := 600) (bd_c (v := 0) (lo := 0) (hi := 0) (by decide)) (by decide))) (bd_r ((ms_i e468 (by decide)).trans ((ms_i e466 (by decide)).trans (congrFun (fr100 162 (by decide)) 9))) hp0) (bd_r ((ms_i e468 (by decide)).trans ((ms_i e466 (by decide)).trans (congrFun (fr100 162 (by decide)) 12))) hp1)) hq.n k1417 k1419 k38 wc_162 rfl rfl k97 k1420 np_X11_token (Nat.le_trans (by decide) hd) (by decide) (Nat.le_refl _) (Nat.le_refl _) wlen rfl (Nat.le_of_ble_eq_true rfl) (fun r_ h_ p469 => ?_)
        obtain ⟨u470, g471, rfl, rfl, h472, h473, h474, h475, h476, fr477, fc478⟩ := p469
        have lp688 : ∀ (n689 : Nat) (w576 : Int32) (u577 : Nat → Nat → Int32) (g588 : Nat → Nat → Int64), Bd 0 1 w576 → (∀ c, c ≠ 162 → c ≠ 170 → c ≠ 171 → u577 c = u470 c) → (∀ j, j ≠ 8 → j ≠ 10 → j ≠ 11 → j ≠ 12 → j ≠ 14 → j ≠ 15 → j ≠ 16 → j ≠ 17 → j ≠ 18 → u577 162 j = u470 162 j) → Bd 0 600 (u577 162 8) → Bd 0 600 (u577 162 10) → Bd 0 4 (u577 162 11) → Bd 0 999 (u577 162 12) → Bd 0 999 (u577 162 17) → AB u577 170 (-1) 999 → AB u577 171 (-1) 999 → RH u577 → True → (600 - (u577 162 8).toInt).toNat < n689 → J x yX11_readText cX11_readText 4 (some .boolean) d 0 0 (Wd u g ex).length 55 [(0, .ref 162), (1, .int 0), (2, .int w576)] [] (Wd u577 g588 ex) 0 0 := by
          intro n689
          induction n689 with
          | zero => intro w576 u577 g588 bw576 fr578 fc579 bm580 bm581 bm582 bm583 bm584 ab585 ab586 rf587 hI692 hm691; exact absurd hm691 (Nat.not_lt_zero _)
          | succ n689 ih690 =>
            intro w576 u577 g588 bw576 fr578 fc579 bm580 bm581 bm582 bm583 bm584 ab585 ab586 rf587 hI692 hm691
            refine J_iload_n (i := 2) (j := 2) dX11_readText_55 rfl rfl ?_
            have jn736 : ∀ (w725 : Int32) (u726 : Nat → Nat → Int32) (g735 : Nat → Nat → Int64), Bd 0 1 w725 → (∀ c, c ≠ 162 → c ≠ 170 → c ≠ 171 → u726 c = u577 c) → (∀ j, j ≠ 8 → j ≠ 10 → j ≠ 11 → j ≠ 12 → j ≠ 14 → j ≠ 15 → j ≠ 16 → j ≠ 17 → j ≠ 18 → u726 162 j = u577 162 j) → Bd 0 600 (u726 162 8) → Bd 0 999 (u726 162 12) → Bd 0 999 (u726 162 17) → AB u726 170 (-1) 999 → AB u726 171 (-1) 999 → RH u726 → J x yX11_readText cX11_readText 4 (some .boolean) d 0 0 (Wd u g ex).length 122 [(0, .ref 162), (1, .int 0), (2, .int w725)] [] (Wd u726 g735 ex) 0 0 := by
              intro w725 u726 g735 bw725 fr727 fc728 bm729 bm730 bm731 ab732 ab733 rf734
              refine J_iload_n (i := 2) (j := 2) dX11_readText_122 rfl rfl ?_
              refine J_if_eq (tgt := 134) dX11_readText_123 (by decide) (fun c737 => ?_) (fun c737 => ?_)
              · refine J_aload_n (i := 0) (j := 0) dX11_readText_134 rfl rfl ?_
                refine J_get (C := RX11) (T := TX11) (Z := 43) (ci := 11) (f := 3) dX11_readText_135 inG11 rfl (by decide) k1267 wc_162 rfl ?_
                refine J_iconst (v := 0) dX11_readText_138 (by decide) ?_
                refine J_iload_n (i := 2) (j := 2) dX11_readText_139 rfl rfl ?_
                refine J_if_eq (tgt := 150) dX11_readText_140 (by decide) (fun c738 => ?_) (fun c738 => ?_)
                · refine J_iconst (v := 1) dX11_readText_150 (by decide) ?_
                  obtain ⟨u739, e740⟩ : ∃ z, z = ms u726 165 0 1 := ⟨_, rfl⟩
                  refine J_iast dX11_readText_151 wc_165 (vin (bd_c (v := 0) (lo := 0) (hi := 0) (by decide)) (by decide)) (ws e740 wk_165 rfl) ?_
                  refine J_aload_n (i := 0) (j := 0) dX11_readText_152 rfl rfl ?_
                  refine J_get (C := RX11) (T := TX11) (Z := 43) (ci := 11) (f := 4) dX11_readText_153 inG11 rfl (by decide) k1268 wc_162 rfl ?_
                  refine J_iconst (v := 0) dX11_readText_156 (by decide) ?_
                  refine J_iload_n (i := 2) (j := 2) dX11_readText_157 rfl rfl ?_
                  refine J_if_ne (tgt := 168) dX11_readText_158 (by decide) (fun c741 => ?_) (fun c741 => ?_)
                  · exact (bd_no (bd_ne_lo (bd_r c737 (bd_c (v := 0) (lo := 0) (hi := 0) (by decide))) c741 (by decide)) (by decide)).elim
                  · refine J_aload_n (i := 0) (j := 0) dX11_readText_161 rfl rfl ?_
                    refine J_get (C := RX11) (T := TX11) (Z := 43) (ci := 11) (f := 14) dX11_readText_162 inG11 rfl (by decide) k1278 wc_162 rfl ?_
                    refine J_ci (v := u726 162 14) (congrFun (ms_c e740 (by decide)) 14) ?_
                    refine J_goto (tgt := 183) dX11_readText_165 (by decide) ?_
                    obtain ⟨u742, e743⟩ : ∃ z, z = ms u739 166 0 (u726 162 14) := ⟨_, rfl⟩
                    refine J_iast dX11_readText_183 wc_166 (vin (bd_c (v := 0) (lo := 0) (hi := 0) (by decide)) (by decide)) (ws e743 wk_166 rfl) ?_
                    refine J_aload_n (i := 0) (j := 0) dX11_readText_184 rfl rfl ?_
                    refine J_get (C := RX11) (T := TX11) (Z := 43) (ci := 11) (f := 3) dX11_readText_185 inG11 rfl (by decide) k1267 wc_162 rfl ?_
                    refine J_iconst (v := 0) dX11_readText_188 (by decide) ?_
                    refine J_iald dX11_readText_189 wc_165 (vin (bd_c (v := 0) (lo := 0) (hi := 0) (by decide)) (by decide)) ?_
                    refine J_ci (v := 1) ((congrFun (ms_c e743 (by decide)) 0).trans (ms_e e740)) ?_
                    refine J_if_ne (tgt := 197) dX11_readText_190 (by decide) (fun _ => ?_) (fun q => absurd q (by decide))
                    refine J_iconst (v := 0) dX11_readText_197 (by decide) ?_
                    exact J_zret hq dX11_readText_198 rfl rfl wlen (Nat.le_refl _) (Nat.le_refl _) ⟨false, u742, g735, rfl, rfl, (bd_r ((congrFun (ms_c e743 (by decide)) 8).trans (congrFun (ms_c e740 (by decide)) 8)) bm729), (bd_r ((congrFun (ms_c e743 (by decide)) 12).trans (congrFun (ms_c e740 (by decide)) 12)) bm730), (bd_r ((congrFun (ms_c e743 (by decide)) 17).trans (congrFun (ms_c e740 (by decide)) 17)) bm731), (ab_c ((ms_c e743 (by decide)).trans (ms_c e740 (by decide))) ab733), (rh_c ((ms_c e743 (by decide)).trans (ms_c e740 (by decide))) rf734), (fun q => absurd q (by decide)), (fun c k0_ k1_ k2_ k3_ k4_ => ((ms_c e743 k2_).trans ((ms_c e740 k1_).trans ((fr727 c k0_ k3_ k4_).trans ((fr578 c k0_ k3_ k4_).trans ((fr477 c k0_).trans ((ms_c e468 k0_).trans ((ms_c e466 k0_).trans (fr100 c k3_))))))))), (fun j k8_ k10_ k11_ k12_ k14_ k15_ k16_ k17_ k18_ => ((congrFun (ms_c e743 (by decide)) j).trans ((congrFun (ms_c e740 (by decide)) j).trans ((fc728 j k8_ k10_ k11_ k12_ k14_ k15_ k16_ k17_ k18_).trans ((fc579 j k8_ k10_ k11_ k12_ k14_ k15_ k16_ k17_ k18_).trans ((fc478 j k8_ k10_ k11_ k12_).trans ((ms_i e468 k15_).trans ((ms_i e466 k8_).trans (congrFun (fr100 162 (by decide)) j)))))))))⟩
                · exact (bd_no (bd_ne_lo (bd_r c737 (bd_c (v := 0) (lo := 0) (hi := 0) (by decide))) c738 (by decide)) (by decide)).elim
              · refine J_iload_n (i := 1) (j := 1) dX11_readText_126 rfl rfl ?_
                refine J_if_ne (tgt := 134) dX11_readText_127 (by decide) (fun q => absurd (by decide) q) (fun _ => ?_)
                refine J_aload_n (i := 0) (j := 0) dX11_readText_130 rfl rfl ?_
                refine J_callV (As := []) (rest := []) dX11_readText_131 (c_M_endsHill (d := 1) (u := u726) (g := g735) (ex := ex)   (by decide) rf734) hq.n k1483 k1485 k50 wc_162 rfl rfl k97 k1486 np_X11_endsHill (Nat.le_trans (by decide) hd) (by decide) (Nat.le_refl _) (Nat.le_refl _) wlen rfl (Nat.le_of_ble_eq_true rfl) (fun r_ h_ p744 => ?_)
                obtain ⟨u745, rfl, rfl, h746, h747, fr748, fc749⟩ := p744
                refine J_aload_n (i := 0) (j := 0) dX11_readText_134 rfl rfl ?_
                refine J_get (C := RX11) (T := TX11) (Z := 43) (ci := 11) (f := 3) dX11_readText_135 inG11 rfl (by decide) k1267 wc_162 rfl ?_
                refine J_iconst (v := 0) dX11_readText_138 (by decide) ?_
                refine J_iload_n (i := 2) (j := 2) dX11_readText_139 rfl rfl ?_
                refine J_if_eq (tgt := 150) dX11_readText_140 (by decide) (fun c750 => ?_) (fun c750 => ?_)
                · exact (bd_neq c750 (bd_ne_lo bw725 c737 (by decide)) (bd_c (v := 0) (lo := 0) (hi := 0) (by decide)) (by decide)).elim
                · refine J_aload_n (i := 0) (j := 0) dX11_readText_143 rfl rfl ?_
                  refine J_get (C := RX11) (T := TX11) (Z := 43) (ci := 11) (f := 15) dX11_readText_144 inG11 rfl (by decide) k1279 wc_162 rfl ?_
                  refine J_goto (tgt := 151) dX11_readText_147 (by decide) ?_
                  obtain ⟨u751, e752⟩ : ∃ z, z = ms u745 165 0 (u745 162 15) := ⟨_, rfl⟩
                  refine J_iast dX11_readText_151 wc_165 (vin (bd_c (v := 0) (lo := 0) (hi := 0) (by decide)) (by decide)) (ws e752 wk_165 rfl) ?_
                  refine J_aload_n (i := 0) (j := 0) dX11_readText_152 rfl rfl ?_
                  refine J_get (C := RX11) (T := TX11) (Z := 43) (ci := 11) (f := 4) dX11_readText_153 inG11 rfl (by decide) k1268 wc_162 rfl ?_
                  refine J_iconst (v := 0) dX11_readText_156 (by decide) ?_
                  refine J_iload_n (i := 2) (j := 2) dX11_readText_157 rfl rfl ?_
                  refine J_if_ne (tgt := 168) dX11_readText_158 (by decide) (fun c753 => ?_) (fun c753 => ?_)
                  · refine J_aload_n (i := 0) (j := 0) dX11_readText_168 rfl rfl ?_
                    refine J_get (C := RX11) (T := TX11) (Z := 43) (ci := 11) (f := 15) dX11_readText_169 inG11 rfl (by decide) k1279 wc_162 rfl ?_
                    refine J_ci (v := u745 162 15) (congrFun (ms_c e752 (by decide)) 15) ?_
                    refine J_if_le (tgt := 182) dX11_readText_172 (by decide) (fun c754 => ?_) (fun c754 => ?_)
                    · refine J_iconst (v := (-1)) dX11_readText_182 (by decide) ?_
                      obtain ⟨u755, e756⟩ : ∃ z, z = ms u751 166 0 (-1) := ⟨_, rfl⟩
                      refine J_iast dX11_readText_183 wc_166 (vin (bd_c (v := 0) (lo := 0) (hi := 0) (by decide)) (by decide)) (ws e756 wk_166 rfl) ?_
                      refine J_aload_n (i := 0) (j := 0) dX11_readText_184 rfl rfl ?_
                      refine J_get (C := RX11) (T := TX11) (Z := 43) (ci := 11) (f := 3) dX11_readText_185 inG11 rfl (by decide) k1267 wc_162 rfl ?_
                      refine J_iconst (v := 0) dX11_readText_188 (by decide) ?_
                      refine J_iald dX11_readText_189 wc_165 (vin (bd_c (v := 0) (lo := 0) (hi := 0) (by decide)) (by decide)) ?_
                      refine J_ci (v := u745 162 15) ((congrFun (ms_c e756 (by decide)) 0).trans (ms_e e752)) ?_
                      refine J_if_ne (tgt := 197) dX11_readText_190 (by decide) (fun c757 => ?_) (fun c757 => ?_)
                      · refine J_iconst (v := 0) dX11_readText_197 (by decide) ?_
                        exact J_zret hq dX11_readText_198 rfl rfl wlen (Nat.le_refl _) (Nat.le_refl _) ⟨false, u755, g735, rfl, rfl, (bd_r ((congrFun (ms_c e756 (by decide)) 8).trans ((congrFun (ms_c e752 (by decide)) 8).trans (fc749 8 (by decide) (by decide)))) bm729), (bd_r ((congrFun (ms_c e756 (by decide)) 12).trans ((congrFun (ms_c e752 (by decide)) 12).trans (fc749 12 (by decide) (by decide)))) bm730), (bd_r ((congrFun (ms_c e756 (by decide)) 17).trans ((congrFun (ms_c e752 (by decide)) 17).trans (fc749 17 (by decide) (by decide)))) bm731), (ab_c ((ms_c e756 (by decide)).trans ((ms_c e752 (by decide)).trans (fr748 171 (by decide) (by decide)))) ab733), (rh_c ((ms_c e756 (by decide)).trans (ms_c e752 (by decide))) h746), (fun q => absurd q (by decide)), (fun c k0_ k1_ k2_ k3_ k4_ => ((ms_c e756 k2_).trans ((ms_c e752 k1_).trans ((fr748 c k0_ k3_).trans ((fr727 c k0_ k3_ k4_).trans ((fr578 c k0_ k3_ k4_).trans ((fr477 c k0_).trans ((ms_c e468 k0_).trans ((ms_c e466 k0_).trans (fr100 c k3_)))))))))), (fun j k8_ k10_ k11_ k12_ k14_ k15_ k16_ k17_ k18_ => ((congrFun (ms_c e756 (by decide)) j).trans ((congrFun (ms_c e752 (by decide)) j).trans ((fc749 j k15_ k16_).trans ((fc728 j k8_ k10_ k11_ k12_ k14_ k15_ k16_ k17_ k18_).trans ((fc579 j k8_ k10_ k11_ k12_ k14_ k15_ k16_ k17_ k18_).trans ((fc478 j k8_ k10_ k11_ k12_).trans ((ms_i e468 k15_).trans ((ms_i e466 k8_).trans (congrFun (fr100 162 (by decide)) j))))))))))⟩
                      · refine J_iconst (v := 1) dX11_readText_193 (by decide) ?_
                        refine J_goto (tgt := 198) dX11_readText_194 (by decide) ?_
                        exact J_zret hq dX11_readText_198 rfl rfl wlen (Nat.le_refl _) (Nat.le_refl _) ⟨true, u755, g735, rfl, rfl, (bd_r ((congrFun (ms_c e756 (by decide)) 8).trans ((congrFun (ms_c e752 (by decide)) 8).trans (fc749 8 (by decide) (by decide)))) bm729), (bd_r ((congrFun (ms_c e756 (by decide)) 12).trans ((congrFun (ms_c e752 (by decide)) 12).trans (fc749 12 (by decide) (by decide)))) bm730), (bd_r ((congrFun (ms_c e756 (by decide)) 17).trans ((congrFun (ms_c e752 (by decide)) 17).trans (fc749 17 (by decide) (by decide)))) bm731), (ab_c ((ms_c e756 (by decide)).trans ((ms_c e752 (by decide)).trans (fr748 171 (by decide) (by decide)))) ab733), (rh_c ((ms_c e756 (by decide)).trans (ms_c e752 (by decide))) h746), (fun _ => rcf_t ((ms_c e756 (by decide)).trans (ms_c e752 (by decide))) (h747 c757)), (fun c k0_ k1_ k2_ k3_ k4_ => ((ms_c e756 k2_).trans ((ms_c e752 k1_).trans ((fr748 c k0_ k3_).trans ((fr727 c k0_ k3_ k4_).trans ((fr578 c k0_ k3_ k4_).trans ((fr477 c k0_).trans ((ms_c e468 k0_).trans ((ms_c e466 k0_).trans (fr100 c k3_)))))))))), (fun j k8_ k10_ k11_ k12_ k14_ k15_ k16_ k17_ k18_ => ((congrFun (ms_c e756 (by decide)) j).trans ((congrFun (ms_c e752 (by decide)) j).trans ((fc749 j k15_ k16_).trans ((fc728 j k8_ k10_ k11_ k12_ k14_ k15_ k16_ k17_ k18_).trans ((fc579 j k8_ k10_ k11_ k12_ k14_ k15_ k16_ k17_ k18_).trans ((fc478 j k8_ k10_ k11_ k12_).trans ((ms_i e468 k15_).trans ((ms_i e466 k8_).trans (congrFun (fr100 162 (by decide)) j))))))))))⟩
                    · refine J_aload_n (i := 0) (j := 0) dX11_readText_175 rfl rfl ?_
                      refine J_get (C := RX11) (T := TX11) (Z := 43) (ci := 11) (f := 16) dX11_readText_176 inG11 rfl (by decide) k1280 wc_162 rfl ?_
                      refine J_ci (v := u745 162 16) (congrFun (ms_c e752 (by decide)) 16) ?_
                      refine J_goto (tgt := 183) dX11_readText_179 (by decide) ?_
                      obtain ⟨u758, e759⟩ : ∃ z, z = ms u751 166 0 (u745 162 16) := ⟨_, rfl⟩
                      refine J_iast dX11_readText_183 wc_166 (vin (bd_c (v := 0) (lo := 0) (hi := 0) (by decide)) (by decide)) (ws e759 wk_166 rfl) ?_
                      refine J_aload_n (i := 0) (j := 0) dX11_readText_184 rfl rfl ?_
                      refine J_get (C := RX11) (T := TX11) (Z := 43) (ci := 11) (f := 3) dX11_readText_185 inG11 rfl (by decide) k1267 wc_162 rfl ?_
                      refine J_iconst (v := 0) dX11_readText_188 (by decide) ?_
                      refine J_iald dX11_readText_189 wc_165 (vin (bd_c (v := 0) (lo := 0) (hi := 0) (by decide)) (by decide)) ?_
                      refine J_ci (v := u745 162 15) ((congrFun (ms_c e759 (by decide)) 0).trans (ms_e e752)) ?_
                      refine J_if_ne (tgt := 197) dX11_readText_190 (by decide) (fun c760 => ?_) (fun c760 => ?_)
                      · refine J_iconst (v := 0) dX11_readText_197 (by decide) ?_
                        exact J_zret hq dX11_readText_198 rfl rfl wlen (Nat.le_refl _) (Nat.le_refl _) ⟨false, u758, g735, rfl, rfl, (bd_r ((congrFun (ms_c e759 (by decide)) 8).trans ((congrFun (ms_c e752 (by decide)) 8).trans (fc749 8 (by decide) (by decide)))) bm729), (bd_r ((congrFun (ms_c e759 (by decide)) 12).trans ((congrFun (ms_c e752 (by decide)) 12).trans (fc749 12 (by decide) (by decide)))) bm730), (bd_r ((congrFun (ms_c e759 (by decide)) 17).trans ((congrFun (ms_c e752 (by decide)) 17).trans (fc749 17 (by decide) (by decide)))) bm731), (ab_c ((ms_c e759 (by decide)).trans ((ms_c e752 (by decide)).trans (fr748 171 (by decide) (by decide)))) ab733), (rh_c ((ms_c e759 (by decide)).trans (ms_c e752 (by decide))) h746), (fun q => absurd q (by decide)), (fun c k0_ k1_ k2_ k3_ k4_ => ((ms_c e759 k2_).trans ((ms_c e752 k1_).trans ((fr748 c k0_ k3_).trans ((fr727 c k0_ k3_ k4_).trans ((fr578 c k0_ k3_ k4_).trans ((fr477 c k0_).trans ((ms_c e468 k0_).trans ((ms_c e466 k0_).trans (fr100 c k3_)))))))))), (fun j k8_ k10_ k11_ k12_ k14_ k15_ k16_ k17_ k18_ => ((congrFun (ms_c e759 (by decide)) j).trans ((congrFun (ms_c e752 (by decide)) j).trans ((fc749 j k15_ k16_).trans ((fc728 j k8_ k10_ k11_ k12_ k14_ k15_ k16_ k17_ k18_).trans ((fc579 j k8_ k10_ k11_ k12_ k14_ k15_ k16_ k17_ k18_).trans ((fc478 j k8_ k10_ k11_ k12_).trans ((ms_i e468 k15_).trans ((ms_i e466 k8_).trans (congrFun (fr100 162 (by decide)) j))))))))))⟩
                      · exact (bd_neq c760 (bd_lt_lo (bd_any (u745 162 15)) (i_nle c754) (bd_c (v := 0) (lo := 0) (hi := 0) (by decide))) (bd_c (v := 0) (lo := 0) (hi := 0) (by decide)) (by decide)).elim
                  · exact (bd_neq c753 (bd_ne_lo bw725 c737 (by decide)) (bd_c (v := 0) (lo := 0) (hi := 0) (by decide)) (by decide)).elim
            refine J_if_eq (tgt := 122) dX11_readText_56 (by decide) (fun c693 => ?_) (fun c693 => ?_)
            · refine J_lv [0, 1, 2] rfl ?_
              exact jn736 w576 u577 g588 (bd_w (l := 0) (h := 1) (bd_r c693 (bd_c (v := 0) (lo := 0) (hi := 0) (by decide))) (by decide)) (fun c k0_ k1_ k2_ => rfl) (fun j k8_ k10_ k11_ k12_ k14_ k15_ k16_ k17_ k18_ => rfl) bm580 bm583 bm584 ab585 ab586 rf587
            · refine J_aload_n (i := 0) (j := 0) dX11_readText_59 rfl rfl ?_
              refine J_get (C := RX11) (T := TX11) (Z := 43) (ci := 11) (f := 11) dX11_readText_60 inG11 rfl (by decide) k1275 wc_162 rfl ?_
              refine J_if_eq (tgt := 122) dX11_readText_63 (by decide) (fun c761 => ?_) (fun c761 => ?_)
              · refine J_lv [0, 1, 2] rfl ?_
                exact jn736 w576 u577 g588 (bd_w (l := 0) (h := 1) (bd_ne_lo bw576 c693 (by decide)) (by decide)) (fun c k0_ k1_ k2_ => rfl) (fun j k8_ k10_ k11_ k12_ k14_ k15_ k16_ k17_ k18_ => rfl) bm580 bm583 bm584 ab585 ab586 rf587
              · refine J_aload_n (i := 0) (j := 0) dX11_readText_66 rfl rfl ?_
                refine J_get (C := RX11) (T := TX11) (Z := 43) (ci := 11) (f := 10) dX11_readText_67 inG11 rfl (by decide) k1274 wc_162 rfl ?_
                refine J_istore_n (i := 3) (lw := [(3, .int (u577 162 10)), (0, .ref 162), (1, .int 0), (2, .int w576)]) dX11_readText_70 rfl (by decide) rfl ?_
                refine J_aload_n (i := 0) (j := 1) dX11_readText_71 rfl rfl ?_
                refine J_iconst (v := 1) dX11_readText_72 (by decide) ?_
                obtain ⟨u762, e763⟩ : ∃ z, z = ms u577 162 18 1 := ⟨_, rfl⟩
                refine J_put (C := RX11) (T := TX11) (Z := 43) (ci := 11) (f := 18) (ty0 := tyX11) dX11_readText_73 inG11 rfl tyX11_ok nmX11 (by decide) k1282 rfl rfl wc_162 (Nat.le_of_ble_eq_true rfl) (fun _ _ => ⟨rfl, rfl⟩) (ws e763 wk_162 rfl) ?_
                refine J_iload_n (i := 1) (j := 2) dX11_readText_76 rfl rfl ?_
                refine J_if_ne (tgt := 88) dX11_readText_77 (by decide) (fun q => absurd (by decide) q) (fun _ => ?_)
                refine J_aload_n (i := 0) (j := 1) dX11_readText_80 rfl rfl ?_
                refine J_iload_n (i := 3) (j := 0) dX11_readText_81 rfl rfl ?_
                refine J_callV (As := [.int (u577 162 10)]) (rest := []) dX11_readText_82 (c_M_hillLine (d := 5) (u := u762) (g := g588) (ex := ex) (at0 := u577 162 10)  (by decide) (bd_r (ms_i e763 (by decide)) bm580) (bd_r ((ms_i e763 (by decide)).trans ((fc579 9 (by decide) (by decide) (by decide) (by decide) (by decide) (by decide) (by decide) (by decide) (by decide)).trans ((fc478 9 (by decide) (by decide) (by decide) (by decide)).trans ((ms_i e468 (by decide)).trans ((ms_i e466 (by decide)).trans (congrFun (fr100 162 (by decide)) 9)))))) hp0) (bd_r (ms_i e763 (by decide)) bm583) (bd_r (ms_i e763 (by decide)) bm584) (ab_c (ms_c e763 (by decide)) ab586) (rh_c (ms_c e763 (by decide)) rf587)) hq.n k1425 k1427 k40 wc_162 rfl rfl k97 k1428 np_X11_hillLine (Nat.le_trans (by decide) hd) (by decide) (Nat.le_refl _) (Nat.le_refl _) wlen rfl (Nat.le_of_ble_eq_true rfl) (fun r_ h_ p764 => ?_)
                obtain ⟨t765, u766, g767, rfl, rfl, h768, h769, h770, h771, h772, h773, fr774, fc775⟩ := p764
                refine J_goto (tgt := 93) dX11_readText_85 (by decide) ?_
                refine J_istore_n (i := 2) (lw := [(2, .int (bI t765)), (3, .int (u577 162 10)), (0, .ref 162), (1, .int 0)]) dX11_readText_93 rfl (by decide) rfl ?_
                refine J_iload_n (i := 2) (j := 0) dX11_readText_94 rfl rfl ?_
                refine J_ifB_eq (tgt := 111) dX11_readText_95 (by decide) (fun c776 => ?_) (fun c776 => ?_)
                · refine J_iload_n (i := 2) (j := 0) dX11_readText_111 rfl rfl ?_
                  refine J_ifB_eq (tgt := 119) dX11_readText_112 (by decide) (fun _ => ?_) (fun q => absurd (c776.symm.trans q) (by decide))
                  refine J_goto (tgt := 55) dX11_readText_119 (by decide) ?_
                  refine J_iload_n (i := 2) (j := 0) dX11_readText_55 rfl rfl ?_
                  refine J_ifB_eq (tgt := 122) dX11_readText_56 (by decide) (fun _ => ?_) (fun q => absurd (c776.symm.trans q) (by decide))
                  refine J_lv [2, 3, 0] rfl ?_
                  exact jn736 (bI t765) u766 g767 (bd_bI t765) (fun c k0_ k1_ k2_ => ((fr774 c k0_ k1_ k2_).trans (ms_c e763 k0_))) (fun j k8_ k10_ k11_ k12_ k14_ k15_ k16_ k17_ k18_ => ((fc775 j k8_ k10_ k11_ k12_ k14_ k15_ k16_ k17_ k18_).trans (ms_i e763 k18_))) h768 h769 h770 (h772).1 h771 h772
                · refine J_aload_n (i := 0) (j := 2) dX11_readText_98 rfl rfl ?_
                  refine J_get (C := RX11) (T := TX11) (Z := 43) (ci := 11) (f := 11) dX11_readText_99 inG11 rfl (by decide) k1275 wc_162 rfl ?_
                  refine J_iconst (v := 4) dX11_readText_102 (by decide) ?_
                  refine J_icmp_eq (tgt := 111) dX11_readText_103 (by decide) (fun c777 => ?_) (fun c777 => ?_)
                  · refine J_iload_n (i := 2) (j := 0) dX11_readText_111 rfl rfl ?_
                    refine J_ifB_eq (tgt := 119) dX11_readText_112 (by decide) (fun q => absurd (c776.symm.trans q) (by decide)) (fun _ => ?_)
                    refine J_aload_n (i := 0) (j := 2) dX11_readText_115 rfl rfl ?_
                    refine J_callV (As := []) (rest := []) dX11_readText_116 (c_M_token (d := 1) (u := u766) (g := g767) (ex := ex)   (by decide) h768 (bd_r ((fc775 9 (by decide) (by decide) (by decide) (by decide) (by decide) (by decide) (by decide) (by decide) (by decide)).trans ((ms_i e763 (by decide)).trans ((fc579 9 (by decide) (by decide) (by decide) (by decide) (by decide) (by decide) (by decide) (by decide) (by decide)).trans ((fc478 9 (by decide) (by decide) (by decide) (by decide)).trans ((ms_i e468 (by decide)).trans ((ms_i e466 (by decide)).trans (congrFun (fr100 162 (by decide)) 9))))))) hp0) h769) hq.n k1417 k1419 k38 wc_162 rfl rfl k97 k1420 np_X11_token (Nat.le_trans (by decide) hd) (by decide) (Nat.le_refl _) (Nat.le_refl _) wlen rfl (Nat.le_of_ble_eq_true rfl) (fun r_ h_ p778 => ?_)
                    obtain ⟨u779, g780, rfl, rfl, h781, h782, h783, h784, h785, fr786, fc787⟩ := p778
                    refine J_goto (tgt := 55) dX11_readText_119 (by decide) ?_
                    refine J_lv [2, 3, 0] rfl ?_
                    exact ih690 (bI t765) u779 g780 (bd_bI t765) (fun c k0_ k1_ k2_ => ((fr786 c k0_).trans ((fr774 c k0_ k1_ k2_).trans ((ms_c e763 k0_).trans (fr578 c k0_ k1_ k2_))))) (fun j k8_ k10_ k11_ k12_ k14_ k15_ k16_ k17_ k18_ => ((fc787 j k8_ k10_ k11_ k12_).trans ((fc775 j k8_ k10_ k11_ k12_ k14_ k15_ k16_ k17_ k18_).trans ((ms_i e763 k18_).trans (fc579 j k8_ k10_ k11_ k12_ k14_ k15_ k16_ k17_ k18_))))) h781 h782 h783 h784 (bd_r (fc787 17 (by decide) (by decide) (by decide) (by decide)) h770) (ab_c (fr786 170 (by decide)) (h772).1) (ab_c (fr786 171 (by decide)) h771) (rh_c (fr786 170 (by decide)) h772) trivial (mu_gv (gv_r (ms_i e763 (by decide)).symm rfl rfl (h773 c776)) c777 h785 h781 hm691)
                  · refine J_aload_n (i := 0) (j := 2) dX11_readText_106 rfl rfl ?_
                    refine J_callV (As := []) (rest := []) dX11_readText_107 (c_M_stops (d := 0) (u := u766) (g := g767) (ex := ex)   (by decide) ) hq.n k1444 k1446 k41 wc_162 rfl rfl k97 k1447 np_X11_stops (Nat.le_trans (by decide) hd) (by decide) (Nat.le_refl _) (Nat.le_refl _) wlen rfl (Nat.le_of_ble_eq_true rfl) (fun r_ h_ p788 => ?_)
                    obtain ⟨u789, rfl, rfl, fr790, fc791⟩ := p788
                    refine J_istore_n (i := 2) (lw := [(2, .int 0), (3, .int (u577 162 10)), (0, .ref 162), (1, .int 0)]) dX11_readText_110 rfl (by decide) rfl ?_
                    refine J_iload_n (i := 2) (j := 0) dX11_readText_111 rfl rfl ?_
                    refine J_if_eq (tgt := 119) dX11_readText_112 (by decide) (fun _ => ?_) (fun q => absurd (by decide) q)
                    refine J_goto (tgt := 55) dX11_readText_119 (by decide) ?_
                    refine J_iload_n (i := 2) (j := 0) dX11_readText_55 rfl rfl ?_
                    refine J_if_eq (tgt := 122) dX11_readText_56 (by decide) (fun _ => ?_) (fun q => absurd (by decide) q)
                    refine J_lv [2, 3, 0] rfl ?_
                    exact jn736 (0 : Int32) u789 g767 (bd_w (l := 0) (h := 1) (bd_c (v := 0) (lo := 0) (hi := 0) (by decide)) (by decide)) (fun c k0_ k1_ k2_ => ((fr790 c k0_).trans ((fr774 c k0_ k1_ k2_).trans (ms_c e763 k0_)))) (fun j k8_ k10_ k11_ k12_ k14_ k15_ k16_ k17_ k18_ => ((fc791 j k14_).trans ((fc775 j k8_ k10_ k11_ k12_ k14_ k15_ k16_ k17_ k18_).trans (ms_i e763 k18_)))) (bd_r (fc791 8 (by decide)) h768) (bd_r (fc791 12 (by decide)) h769) (bd_r (fc791 17 (by decide)) h770) (ab_c (fr790 170 (by decide)) (h772).1) (ab_c (fr790 171 (by decide)) h771) (rh_c (fr790 170 (by decide)) h772)
        refine J_lv [1, 2, 0] rfl ?_
        exact lp688 _ (1 : Int32) u470 g471 (bd_w (l := 0) (h := 1) (bd_c (v := 1) (lo := 1) (hi := 1) (by decide)) (by decide)) (fun c k0_ k1_ k2_ => rfl) (fun j k8_ k10_ k11_ k12_ k14_ k15_ k16_ k17_ k18_ => rfl) h472 h473 h474 h475 (bd_r ((fc478 17 (by decide) (by decide) (by decide) (by decide)).trans ((ms_i e468 (by decide)).trans ((ms_i e466 (by decide)).trans (congrFun (fr100 162 (by decide)) 17)))) hp2) (ab_c ((fr477 170 (by decide)).trans ((ms_c e468 (by decide)).trans (ms_c e466 (by decide)))) ab101) (ab_c ((fr477 171 (by decide)).trans ((ms_c e468 (by decide)).trans ((ms_c e466 (by decide)).trans (fr100 171 (by decide))))) hp3) (rh_c ((fr477 170 (by decide)).trans ((ms_c e468 (by decide)).trans (ms_c e466 (by decide)))) (rz_h hz464)) trivial (Nat.lt_succ_self _)
      · refine J_aload_n (i := 0) (j := 0) dX11_readText_9 rfl rfl ?_
        refine J_get (C := RX11) (T := TX11) (Z := 43) (ci := 11) (f := 19) dX11_readText_10 inG11 rfl (by decide) k1283 wc_162 rfl ?_
        refine J_iload_n (i := 2) (j := 2) dX11_readText_13 rfl rfl ?_
        refine J_iload_n (i := 1) (j := 1) dX11_readText_14 rfl rfl ?_
        refine J_if_ne (tgt := 31) dX11_readText_15 (by decide) (fun q => absurd (by decide) q) (fun _ => ?_)
        refine J_iload_n (i := 2) (j := 2) dX11_readText_18 rfl rfl ?_
        refine J_iconst (v := 2) dX11_readText_19 (by decide) ?_
        refine J_iconst (v := 4) dX11_readText_20 (by decide) ?_
        refine J_callS (As := [.int w98, .int 2, .int 4]) (rest := [.int w98, .ref 170]) dX11_readText_21 (c_M_in (d := 0) (u := u99) (g := g) (ex := ex) (v := w98) (low := 2) (high := 4)  (by decide) ) hq.n k1406 k1407 k97 k1408 np_X11_in (Nat.le_trans (by decide) hd) (by decide) (Nat.le_refl _) (Nat.le_refl _) wlen rfl (Nat.le_of_ble_eq_true rfl) (fun r_ h_ p792 => ?_)
        obtain ⟨t793, rfl, rfl, h794, h795⟩ := p792
        have jn798 : ∀ (w797 : Int32), Bd 0 1 w797 → J x yX11_readText cX11_readText 4 (some .boolean) d 0 0 (Wd u g ex).length 32 [(0, .ref 162), (1, .int 0), (2, .int w98)] [.int w797, .int w98, .ref 170] (Wd u99 g ex) 0 0 := by
          intro w797 bw797
          obtain ⟨u799, e800⟩ : ∃ z, z = ms u99 170 w98.toNatClampNeg w797 := ⟨_, rfl⟩
          refine J_iast dX11_readText_32 wc_170 (vin (bd_lt_hi bw98 (i_nle c454) (bd_c (v := 157) (lo := 157) (hi := 157) (by decide))) (by decide)) (ws e800 wk_170 rfl) ?_
          refine J_iinc (i := 2) (j := 2) (v := (w98 + 1)) (lw := [(2, .int (w98 + 1)), (0, .ref 162), (1, .int 0)]) dX11_readText_33 rfl rfl (by decide) rfl ?_
          refine J_goto (tgt := 2) dX11_readText_36 (by decide) ?_
          refine J_lv [1, 2, 0] rfl ?_
          exact ih451 (w98 + 1) u799 (bd_w (l := 0) (h := 157) (bd_add (l := 1) (h := 157) (bd_lt_hi bw98 (i_nle c454) (bd_c (v := 157) (lo := 157) (hi := 157) (by decide))) (bd_c (v := 1) (lo := 1) (hi := 1) (by decide)) (by decide)) (by decide)) (fun c k0_ => ((ms_c e800 k0_).trans (fr100 c k0_))) (ab_s e800 ab101 (bd_w (l := (-1)) (h := 999) bw797 (by decide))) (zi_s e800 (bd_lt_hi bw98 (i_nle c454) (bd_c (v := 157) (lo := 157) (hi := 157) (by decide))) bw797 hI453) (mu_up 1 bw98 rfl (by decide) (bd_w (l := 1) (h := 157) (bd_add (l := 1) (h := 157) (bd_lt_hi bw98 (i_nle c454) (bd_c (v := 157) (lo := 157) (hi := 157) (by decide))) (bd_c (v := 1) (lo := 1) (hi := 1) (by decide)) (by decide)) (by decide)) hm452)
        refine J_ifB_eq (tgt := 31) dX11_readText_24 (by decide) (fun c796 => ?_) (fun c796 => ?_)
        · refine J_iconst (v := 0) dX11_readText_31 (by decide) ?_
          refine J_lv [0, 1, 2] rfl ?_
          exact jn798 (0 : Int32) (bd_w (l := 0) (h := 1) (bd_c (v := 0) (lo := 0) (hi := 0) (by decide)) (by decide))
        · refine J_iconst (v := 1) dX11_readText_27 (by decide) ?_
          refine J_goto (tgt := 32) dX11_readText_28 (by decide) ?_
          refine J_lv [0, 1, 2] rfl ?_
          exact jn798 (1 : Int32) (bd_w (l := 0) (h := 1) (bd_c (v := 1) (lo := 1) (hi := 1) (by decide)) (by decide))
  refine J_lv [1, 2, 0] rfl ?_
  exact lp449 _ (0 : Int32) u (bd_w (l := 0) (h := 157) (bd_c (v := 0) (lo := 0) (hi := 0) (by decide)) (by decide)) (fun c k0_ => rfl) hp4 zi_0 (Nat.lt_succ_self _)
set_option maxHeartbeats 4000000 in
set_option maxRecDepth 100000 in
theorem c_M_readText1 {d : Nat} {u : Nat → Nat → Int32} {g : Nat → Nat → Int64} {ex : List MC}  (hd : 5 ≤ d) (hp0 : Bd 0 600 (u 162 9)) (hp1 : Bd 0 999 (u 162 12)) (hp2 : Bd 0 999 (u 162 17)) (hp3 : AB u 171 (-1) 999) (hp4 : AB u 170 (-1) 999) : CT con0 d 0 0 yX11_readText cX11_readText 4 (some .boolean) [.ref 162, .int 1] (Wd u g ex) (fun r h2 => ∃ (z : Bool) (u2 : Nat → Nat → Int32) (g2 : Nat → Nat → Int64), r = some (.int (bI z)) ∧ h2 = Wd u2 g2 ex ∧ Bd 0 600 (u2 162 8) ∧ Bd 0 999 (u2 162 12) ∧ Bd 0 999 (u2 162 17) ∧ AB u2 171 (-1) 999 ∧ (RP u2) ∧ (∀ c, c ≠ 162 → c ≠ 165 → c ≠ 166 → c ≠ 170 → c ≠ 171 → u2 c = u c) ∧ (∀ j, j ≠ 8 → j ≠ 10 → j ≠ 11 → j ≠ 12 → j ≠ 14 → j ≠ 15 → j ≠ 16 → j ≠ 17 → j ≠ 18 → u2 162 j = u 162 j)) := by
  refine CT_of (by decide) (Nat.le_of_ble_eq_true rfl) (fun x hq => ?_)
  show J x yX11_readText cX11_readText 4 (some .boolean) d 0 0 (Wd u g ex).length 0 [(0, .ref 162), (1, .int 1)] [] (Wd u g ex) 0 0
  refine J_iconst (v := 0) dX11_readText_0 (by decide) ?_
  refine J_istore_n (i := 2) (lw := [(2, .int 0), (0, .ref 162), (1, .int 1)]) dX11_readText_1 rfl (by decide) rfl ?_
  have lp358 : ∀ (n359 : Nat) (w39 : Int32) (u40 : Nat → Nat → Int32), Bd 0 157 w39 → (∀ c, c ≠ 170 → u40 c = u c) → AB u40 170 (-1) 999 → ZI u40 w39 → (157 - w39.toInt).toNat < n359 → J x yX11_readText cX11_readText 4 (some .boolean) d 0 0 (Wd u g ex).length 2 [(0, .ref 162), (1, .int 1), (2, .int w39)] [] (Wd u40 g ex) 0 0 := by
    intro n359
    induction n359 with
    | zero => intro w39 u40 bw39 fr41 ab42 hI362 hm361; exact absurd hm361 (Nat.not_lt_zero _)
    | succ n359 ih360 =>
      intro w39 u40 bw39 fr41 ab42 hI362 hm361
      refine J_iload_n (i := 2) (j := 2) dX11_readText_2 rfl rfl ?_
      refine J_sipush (v := 157) dX11_readText_3 (by decide) ?_
      refine J_icmp_ge (tgt := 39) dX11_readText_6 (by decide) (fun c363 => ?_) (fun c363 => ?_)
      · have hz366 := zi_e hI362 (bd_le_lo bw39 c363 (bd_c (v := 157) (lo := 157) (hi := 157) (by decide))) ab42
        refine J_aload_n (i := 0) (j := 0) dX11_readText_39 rfl rfl ?_
        refine J_iconst (v := 0) dX11_readText_40 (by decide) ?_
        obtain ⟨u367, e368⟩ : ∃ z, z = ms u40 162 8 0 := ⟨_, rfl⟩
        refine J_put (C := RX11) (T := TX11) (Z := 43) (ci := 11) (f := 8) (ty0 := tyX11) dX11_readText_41 inG11 rfl tyX11_ok nmX11 (by decide) k1272 rfl rfl wc_162 (Nat.le_of_ble_eq_true rfl) (fun _ _ => ⟨rfl, rfl⟩) (ws e368 wk_162 rfl) ?_
        refine J_aload_n (i := 0) (j := 0) dX11_readText_44 rfl rfl ?_
        refine J_iconst (v := 0) dX11_readText_45 (by decide) ?_
        obtain ⟨u369, e370⟩ : ∃ z, z = ms u367 162 15 0 := ⟨_, rfl⟩
        refine J_put (C := RX11) (T := TX11) (Z := 43) (ci := 11) (f := 15) (ty0 := tyX11) dX11_readText_46 inG11 rfl tyX11_ok nmX11 (by decide) k1279 rfl rfl wc_162 (Nat.le_of_ble_eq_true rfl) (fun _ _ => ⟨rfl, rfl⟩) (ws e370 wk_162 rfl) ?_
        refine J_iconst (v := 1) dX11_readText_49 (by decide) ?_
        refine J_istore_n (i := 2) (lw := [(2, .int 1), (0, .ref 162), (1, .int 1)]) dX11_readText_50 rfl (by decide) rfl ?_
        refine J_aload_n (i := 0) (j := 1) dX11_readText_51 rfl rfl ?_
        refine J_callV (As := []) (rest := []) dX11_readText_52 (c_M_token (d := 1) (u := u369) (g := g) (ex := ex)   (by decide) (bd_r ((ms_i e370 (by decide)).trans (ms_e e368)) (bd_w (l := 0) (h := 600) (bd_c (v := 0) (lo := 0) (hi := 0) (by decide)) (by decide))) (bd_r ((ms_i e370 (by decide)).trans ((ms_i e368 (by decide)).trans (congrFun (fr41 162 (by decide)) 9))) hp0) (bd_r ((ms_i e370 (by decide)).trans ((ms_i e368 (by decide)).trans (congrFun (fr41 162 (by decide)) 12))) hp1)) hq.n k1417 k1419 k38 wc_162 rfl rfl k97 k1420 np_X11_token (Nat.le_trans (by decide) hd) (by decide) (Nat.le_refl _) (Nat.le_refl _) wlen rfl (Nat.le_of_ble_eq_true rfl) (fun r_ h_ p371 => ?_)
        obtain ⟨u372, g373, rfl, rfl, h374, h375, h376, h377, h378, fr379, fc380⟩ := p371
        have lp578 : ∀ (n579 : Nat) (w472 : Int32) (u473 : Nat → Nat → Int32) (g484 : Nat → Nat → Int64), Bd 0 1 w472 → (∀ c, c ≠ 162 → c ≠ 170 → c ≠ 171 → u473 c = u372 c) → (∀ j, j ≠ 8 → j ≠ 10 → j ≠ 11 → j ≠ 12 → j ≠ 14 → j ≠ 15 → j ≠ 16 → j ≠ 17 → j ≠ 18 → u473 162 j = u372 162 j) → Bd 0 600 (u473 162 8) → Bd 0 600 (u473 162 10) → Bd 0 4 (u473 162 11) → Bd 0 999 (u473 162 12) → Bd 0 999 (u473 162 17) → AB u473 170 (-1) 999 → AB u473 171 (-1) 999 → RP u473 → True → (600 - (u473 162 8).toInt).toNat < n579 → J x yX11_readText cX11_readText 4 (some .boolean) d 0 0 (Wd u g ex).length 55 [(0, .ref 162), (1, .int 1), (2, .int w472)] [] (Wd u473 g484 ex) 0 0 := by
          intro n579
          induction n579 with
          | zero => intro w472 u473 g484 bw472 fr474 fc475 bm476 bm477 bm478 bm479 bm480 ab481 ab482 rf483 hI582 hm581; exact absurd hm581 (Nat.not_lt_zero _)
          | succ n579 ih580 =>
            intro w472 u473 g484 bw472 fr474 fc475 bm476 bm477 bm478 bm479 bm480 ab481 ab482 rf483 hI582 hm581
            refine J_iload_n (i := 2) (j := 2) dX11_readText_55 rfl rfl ?_
            have jn626 : ∀ (w615 : Int32) (u616 : Nat → Nat → Int32) (g625 : Nat → Nat → Int64), Bd 0 1 w615 → (∀ c, c ≠ 162 → c ≠ 170 → c ≠ 171 → u616 c = u473 c) → (∀ j, j ≠ 8 → j ≠ 10 → j ≠ 11 → j ≠ 12 → j ≠ 14 → j ≠ 15 → j ≠ 16 → j ≠ 17 → j ≠ 18 → u616 162 j = u473 162 j) → Bd 0 600 (u616 162 8) → Bd 0 999 (u616 162 12) → Bd 0 999 (u616 162 17) → AB u616 170 (-1) 999 → AB u616 171 (-1) 999 → RP u616 → J x yX11_readText cX11_readText 4 (some .boolean) d 0 0 (Wd u g ex).length 122 [(0, .ref 162), (1, .int 1), (2, .int w615)] [] (Wd u616 g625 ex) 0 0 := by
              intro w615 u616 g625 bw615 fr617 fc618 bm619 bm620 bm621 ab622 ab623 rf624
              refine J_iload_n (i := 2) (j := 2) dX11_readText_122 rfl rfl ?_
              refine J_if_eq (tgt := 134) dX11_readText_123 (by decide) (fun c627 => ?_) (fun c627 => ?_)
              · refine J_aload_n (i := 0) (j := 0) dX11_readText_134 rfl rfl ?_
                refine J_get (C := RX11) (T := TX11) (Z := 43) (ci := 11) (f := 3) dX11_readText_135 inG11 rfl (by decide) k1267 wc_162 rfl ?_
                refine J_iconst (v := 0) dX11_readText_138 (by decide) ?_
                refine J_iload_n (i := 2) (j := 2) dX11_readText_139 rfl rfl ?_
                refine J_if_eq (tgt := 150) dX11_readText_140 (by decide) (fun c628 => ?_) (fun c628 => ?_)
                · refine J_iconst (v := 1) dX11_readText_150 (by decide) ?_
                  obtain ⟨u629, e630⟩ : ∃ z, z = ms u616 165 0 1 := ⟨_, rfl⟩
                  refine J_iast dX11_readText_151 wc_165 (vin (bd_c (v := 0) (lo := 0) (hi := 0) (by decide)) (by decide)) (ws e630 wk_165 rfl) ?_
                  refine J_aload_n (i := 0) (j := 0) dX11_readText_152 rfl rfl ?_
                  refine J_get (C := RX11) (T := TX11) (Z := 43) (ci := 11) (f := 4) dX11_readText_153 inG11 rfl (by decide) k1268 wc_162 rfl ?_
                  refine J_iconst (v := 0) dX11_readText_156 (by decide) ?_
                  refine J_iload_n (i := 2) (j := 2) dX11_readText_157 rfl rfl ?_
                  refine J_if_ne (tgt := 168) dX11_readText_158 (by decide) (fun c631 => ?_) (fun c631 => ?_)
                  · exact (bd_no (bd_ne_lo (bd_r c627 (bd_c (v := 0) (lo := 0) (hi := 0) (by decide))) c631 (by decide)) (by decide)).elim
                  · refine J_aload_n (i := 0) (j := 0) dX11_readText_161 rfl rfl ?_
                    refine J_get (C := RX11) (T := TX11) (Z := 43) (ci := 11) (f := 14) dX11_readText_162 inG11 rfl (by decide) k1278 wc_162 rfl ?_
                    refine J_ci (v := u616 162 14) (congrFun (ms_c e630 (by decide)) 14) ?_
                    refine J_goto (tgt := 183) dX11_readText_165 (by decide) ?_
                    obtain ⟨u632, e633⟩ : ∃ z, z = ms u629 166 0 (u616 162 14) := ⟨_, rfl⟩
                    refine J_iast dX11_readText_183 wc_166 (vin (bd_c (v := 0) (lo := 0) (hi := 0) (by decide)) (by decide)) (ws e633 wk_166 rfl) ?_
                    refine J_aload_n (i := 0) (j := 0) dX11_readText_184 rfl rfl ?_
                    refine J_get (C := RX11) (T := TX11) (Z := 43) (ci := 11) (f := 3) dX11_readText_185 inG11 rfl (by decide) k1267 wc_162 rfl ?_
                    refine J_iconst (v := 0) dX11_readText_188 (by decide) ?_
                    refine J_iald dX11_readText_189 wc_165 (vin (bd_c (v := 0) (lo := 0) (hi := 0) (by decide)) (by decide)) ?_
                    refine J_ci (v := 1) ((congrFun (ms_c e633 (by decide)) 0).trans (ms_e e630)) ?_
                    refine J_if_ne (tgt := 197) dX11_readText_190 (by decide) (fun _ => ?_) (fun q => absurd q (by decide))
                    refine J_iconst (v := 0) dX11_readText_197 (by decide) ?_
                    exact J_zret hq dX11_readText_198 rfl rfl wlen (Nat.le_refl _) (Nat.le_refl _) ⟨false, u632, g625, rfl, rfl, (bd_r ((congrFun (ms_c e633 (by decide)) 8).trans (congrFun (ms_c e630 (by decide)) 8)) bm619), (bd_r ((congrFun (ms_c e633 (by decide)) 12).trans (congrFun (ms_c e630 (by decide)) 12)) bm620), (bd_r ((congrFun (ms_c e633 (by decide)) 17).trans (congrFun (ms_c e630 (by decide)) 17)) bm621), (ab_c ((ms_c e633 (by decide)).trans (ms_c e630 (by decide))) ab623), (rp_c ((ms_c e633 (by decide)).trans (ms_c e630 (by decide))) rf624), (fun c k0_ k1_ k2_ k3_ k4_ => ((ms_c e633 k2_).trans ((ms_c e630 k1_).trans ((fr617 c k0_ k3_ k4_).trans ((fr474 c k0_ k3_ k4_).trans ((fr379 c k0_).trans ((ms_c e370 k0_).trans ((ms_c e368 k0_).trans (fr41 c k3_))))))))), (fun j k8_ k10_ k11_ k12_ k14_ k15_ k16_ k17_ k18_ => ((congrFun (ms_c e633 (by decide)) j).trans ((congrFun (ms_c e630 (by decide)) j).trans ((fc618 j k8_ k10_ k11_ k12_ k14_ k15_ k16_ k17_ k18_).trans ((fc475 j k8_ k10_ k11_ k12_ k14_ k15_ k16_ k17_ k18_).trans ((fc380 j k8_ k10_ k11_ k12_).trans ((ms_i e370 k15_).trans ((ms_i e368 k8_).trans (congrFun (fr41 162 (by decide)) j)))))))))⟩
                · exact (bd_no (bd_ne_lo (bd_r c627 (bd_c (v := 0) (lo := 0) (hi := 0) (by decide))) c628 (by decide)) (by decide)).elim
              · refine J_iload_n (i := 1) (j := 1) dX11_readText_126 rfl rfl ?_
                refine J_if_ne (tgt := 134) dX11_readText_127 (by decide) (fun _ => ?_) (fun q => absurd q (by decide))
                refine J_aload_n (i := 0) (j := 0) dX11_readText_134 rfl rfl ?_
                refine J_get (C := RX11) (T := TX11) (Z := 43) (ci := 11) (f := 3) dX11_readText_135 inG11 rfl (by decide) k1267 wc_162 rfl ?_
                refine J_iconst (v := 0) dX11_readText_138 (by decide) ?_
                refine J_iload_n (i := 2) (j := 2) dX11_readText_139 rfl rfl ?_
                refine J_if_eq (tgt := 150) dX11_readText_140 (by decide) (fun c634 => ?_) (fun c634 => ?_)
                · exact (bd_neq c634 (bd_ne_lo bw615 c627 (by decide)) (bd_c (v := 0) (lo := 0) (hi := 0) (by decide)) (by decide)).elim
                · refine J_aload_n (i := 0) (j := 0) dX11_readText_143 rfl rfl ?_
                  refine J_get (C := RX11) (T := TX11) (Z := 43) (ci := 11) (f := 15) dX11_readText_144 inG11 rfl (by decide) k1279 wc_162 rfl ?_
                  refine J_goto (tgt := 151) dX11_readText_147 (by decide) ?_
                  obtain ⟨u635, e636⟩ : ∃ z, z = ms u616 165 0 (u616 162 15) := ⟨_, rfl⟩
                  refine J_iast dX11_readText_151 wc_165 (vin (bd_c (v := 0) (lo := 0) (hi := 0) (by decide)) (by decide)) (ws e636 wk_165 rfl) ?_
                  refine J_aload_n (i := 0) (j := 0) dX11_readText_152 rfl rfl ?_
                  refine J_get (C := RX11) (T := TX11) (Z := 43) (ci := 11) (f := 4) dX11_readText_153 inG11 rfl (by decide) k1268 wc_162 rfl ?_
                  refine J_iconst (v := 0) dX11_readText_156 (by decide) ?_
                  refine J_iload_n (i := 2) (j := 2) dX11_readText_157 rfl rfl ?_
                  refine J_if_ne (tgt := 168) dX11_readText_158 (by decide) (fun c637 => ?_) (fun c637 => ?_)
                  · refine J_aload_n (i := 0) (j := 0) dX11_readText_168 rfl rfl ?_
                    refine J_get (C := RX11) (T := TX11) (Z := 43) (ci := 11) (f := 15) dX11_readText_169 inG11 rfl (by decide) k1279 wc_162 rfl ?_
                    refine J_ci (v := u616 162 15) (congrFun (ms_c e636 (by decide)) 15) ?_
                    refine J_if_le (tgt := 182) dX11_readText_172 (by decide) (fun c638 => ?_) (fun c638 => ?_)
                    · refine J_iconst (v := (-1)) dX11_readText_182 (by decide) ?_
                      obtain ⟨u639, e640⟩ : ∃ z, z = ms u635 166 0 (-1) := ⟨_, rfl⟩
                      refine J_iast dX11_readText_183 wc_166 (vin (bd_c (v := 0) (lo := 0) (hi := 0) (by decide)) (by decide)) (ws e640 wk_166 rfl) ?_
                      refine J_aload_n (i := 0) (j := 0) dX11_readText_184 rfl rfl ?_
                      refine J_get (C := RX11) (T := TX11) (Z := 43) (ci := 11) (f := 3) dX11_readText_185 inG11 rfl (by decide) k1267 wc_162 rfl ?_
                      refine J_iconst (v := 0) dX11_readText_188 (by decide) ?_
                      refine J_iald dX11_readText_189 wc_165 (vin (bd_c (v := 0) (lo := 0) (hi := 0) (by decide)) (by decide)) ?_
                      refine J_ci (v := u616 162 15) ((congrFun (ms_c e640 (by decide)) 0).trans (ms_e e636)) ?_
                      refine J_if_ne (tgt := 197) dX11_readText_190 (by decide) (fun c641 => ?_) (fun c641 => ?_)
                      · refine J_iconst (v := 0) dX11_readText_197 (by decide) ?_
                        exact J_zret hq dX11_readText_198 rfl rfl wlen (Nat.le_refl _) (Nat.le_refl _) ⟨false, u639, g625, rfl, rfl, (bd_r ((congrFun (ms_c e640 (by decide)) 8).trans (congrFun (ms_c e636 (by decide)) 8)) bm619), (bd_r ((congrFun (ms_c e640 (by decide)) 12).trans (congrFun (ms_c e636 (by decide)) 12)) bm620), (bd_r ((congrFun (ms_c e640 (by decide)) 17).trans (congrFun (ms_c e636 (by decide)) 17)) bm621), (ab_c ((ms_c e640 (by decide)).trans (ms_c e636 (by decide))) ab623), (rp_c ((ms_c e640 (by decide)).trans (ms_c e636 (by decide))) rf624), (fun c k0_ k1_ k2_ k3_ k4_ => ((ms_c e640 k2_).trans ((ms_c e636 k1_).trans ((fr617 c k0_ k3_ k4_).trans ((fr474 c k0_ k3_ k4_).trans ((fr379 c k0_).trans ((ms_c e370 k0_).trans ((ms_c e368 k0_).trans (fr41 c k3_))))))))), (fun j k8_ k10_ k11_ k12_ k14_ k15_ k16_ k17_ k18_ => ((congrFun (ms_c e640 (by decide)) j).trans ((congrFun (ms_c e636 (by decide)) j).trans ((fc618 j k8_ k10_ k11_ k12_ k14_ k15_ k16_ k17_ k18_).trans ((fc475 j k8_ k10_ k11_ k12_ k14_ k15_ k16_ k17_ k18_).trans ((fc380 j k8_ k10_ k11_ k12_).trans ((ms_i e370 k15_).trans ((ms_i e368 k8_).trans (congrFun (fr41 162 (by decide)) j)))))))))⟩
                      · refine J_iconst (v := 1) dX11_readText_193 (by decide) ?_
                        refine J_goto (tgt := 198) dX11_readText_194 (by decide) ?_
                        exact J_zret hq dX11_readText_198 rfl rfl wlen (Nat.le_refl _) (Nat.le_refl _) ⟨true, u639, g625, rfl, rfl, (bd_r ((congrFun (ms_c e640 (by decide)) 8).trans (congrFun (ms_c e636 (by decide)) 8)) bm619), (bd_r ((congrFun (ms_c e640 (by decide)) 12).trans (congrFun (ms_c e636 (by decide)) 12)) bm620), (bd_r ((congrFun (ms_c e640 (by decide)) 17).trans (congrFun (ms_c e636 (by decide)) 17)) bm621), (ab_c ((ms_c e640 (by decide)).trans (ms_c e636 (by decide))) ab623), (rp_c ((ms_c e640 (by decide)).trans (ms_c e636 (by decide))) rf624), (fun c k0_ k1_ k2_ k3_ k4_ => ((ms_c e640 k2_).trans ((ms_c e636 k1_).trans ((fr617 c k0_ k3_ k4_).trans ((fr474 c k0_ k3_ k4_).trans ((fr379 c k0_).trans ((ms_c e370 k0_).trans ((ms_c e368 k0_).trans (fr41 c k3_))))))))), (fun j k8_ k10_ k11_ k12_ k14_ k15_ k16_ k17_ k18_ => ((congrFun (ms_c e640 (by decide)) j).trans ((congrFun (ms_c e636 (by decide)) j).trans ((fc618 j k8_ k10_ k11_ k12_ k14_ k15_ k16_ k17_ k18_).trans ((fc475 j k8_ k10_ k11_ k12_ k14_ k15_ k16_ k17_ k18_).trans ((fc380 j k8_ k10_ k11_ k12_).trans ((ms_i e370 k15_).trans ((ms_i e368 k8_).trans (congrFun (fr41 162 (by decide)) j)))))))))⟩
                    · refine J_aload_n (i := 0) (j := 0) dX11_readText_175 rfl rfl ?_
                      refine J_get (C := RX11) (T := TX11) (Z := 43) (ci := 11) (f := 16) dX11_readText_176 inG11 rfl (by decide) k1280 wc_162 rfl ?_
                      refine J_ci (v := u616 162 16) (congrFun (ms_c e636 (by decide)) 16) ?_
                      refine J_goto (tgt := 183) dX11_readText_179 (by decide) ?_
                      obtain ⟨u642, e643⟩ : ∃ z, z = ms u635 166 0 (u616 162 16) := ⟨_, rfl⟩
                      refine J_iast dX11_readText_183 wc_166 (vin (bd_c (v := 0) (lo := 0) (hi := 0) (by decide)) (by decide)) (ws e643 wk_166 rfl) ?_
                      refine J_aload_n (i := 0) (j := 0) dX11_readText_184 rfl rfl ?_
                      refine J_get (C := RX11) (T := TX11) (Z := 43) (ci := 11) (f := 3) dX11_readText_185 inG11 rfl (by decide) k1267 wc_162 rfl ?_
                      refine J_iconst (v := 0) dX11_readText_188 (by decide) ?_
                      refine J_iald dX11_readText_189 wc_165 (vin (bd_c (v := 0) (lo := 0) (hi := 0) (by decide)) (by decide)) ?_
                      refine J_ci (v := u616 162 15) ((congrFun (ms_c e643 (by decide)) 0).trans (ms_e e636)) ?_
                      refine J_if_ne (tgt := 197) dX11_readText_190 (by decide) (fun c644 => ?_) (fun c644 => ?_)
                      · refine J_iconst (v := 0) dX11_readText_197 (by decide) ?_
                        exact J_zret hq dX11_readText_198 rfl rfl wlen (Nat.le_refl _) (Nat.le_refl _) ⟨false, u642, g625, rfl, rfl, (bd_r ((congrFun (ms_c e643 (by decide)) 8).trans (congrFun (ms_c e636 (by decide)) 8)) bm619), (bd_r ((congrFun (ms_c e643 (by decide)) 12).trans (congrFun (ms_c e636 (by decide)) 12)) bm620), (bd_r ((congrFun (ms_c e643 (by decide)) 17).trans (congrFun (ms_c e636 (by decide)) 17)) bm621), (ab_c ((ms_c e643 (by decide)).trans (ms_c e636 (by decide))) ab623), (rp_c ((ms_c e643 (by decide)).trans (ms_c e636 (by decide))) rf624), (fun c k0_ k1_ k2_ k3_ k4_ => ((ms_c e643 k2_).trans ((ms_c e636 k1_).trans ((fr617 c k0_ k3_ k4_).trans ((fr474 c k0_ k3_ k4_).trans ((fr379 c k0_).trans ((ms_c e370 k0_).trans ((ms_c e368 k0_).trans (fr41 c k3_))))))))), (fun j k8_ k10_ k11_ k12_ k14_ k15_ k16_ k17_ k18_ => ((congrFun (ms_c e643 (by decide)) j).trans ((congrFun (ms_c e636 (by decide)) j).trans ((fc618 j k8_ k10_ k11_ k12_ k14_ k15_ k16_ k17_ k18_).trans ((fc475 j k8_ k10_ k11_ k12_ k14_ k15_ k16_ k17_ k18_).trans ((fc380 j k8_ k10_ k11_ k12_).trans ((ms_i e370 k15_).trans ((ms_i e368 k8_).trans (congrFun (fr41 162 (by decide)) j)))))))))⟩
                      · exact (bd_neq c644 (bd_lt_lo (bd_any (u616 162 15)) (i_nle c638) (bd_c (v := 0) (lo := 0) (hi := 0) (by decide))) (bd_c (v := 0) (lo := 0) (hi := 0) (by decide)) (by decide)).elim
                  · exact (bd_neq c637 (bd_ne_lo bw615 c627 (by decide)) (bd_c (v := 0) (lo := 0) (hi := 0) (by decide)) (by decide)).elim
            refine J_if_eq (tgt := 122) dX11_readText_56 (by decide) (fun c583 => ?_) (fun c583 => ?_)
            · refine J_lv [0, 1, 2] rfl ?_
              exact jn626 w472 u473 g484 (bd_w (l := 0) (h := 1) (bd_r c583 (bd_c (v := 0) (lo := 0) (hi := 0) (by decide))) (by decide)) (fun c k0_ k1_ k2_ => rfl) (fun j k8_ k10_ k11_ k12_ k14_ k15_ k16_ k17_ k18_ => rfl) bm476 bm479 bm480 ab481 ab482 rf483
            · refine J_aload_n (i := 0) (j := 0) dX11_readText_59 rfl rfl ?_
              refine J_get (C := RX11) (T := TX11) (Z := 43) (ci := 11) (f := 11) dX11_readText_60 inG11 rfl (by decide) k1275 wc_162 rfl ?_
              refine J_if_eq (tgt := 122) dX11_readText_63 (by decide) (fun c645 => ?_) (fun c645 => ?_)
              · refine J_lv [0, 1, 2] rfl ?_
                exact jn626 w472 u473 g484 (bd_w (l := 0) (h := 1) (bd_ne_lo bw472 c583 (by decide)) (by decide)) (fun c k0_ k1_ k2_ => rfl) (fun j k8_ k10_ k11_ k12_ k14_ k15_ k16_ k17_ k18_ => rfl) bm476 bm479 bm480 ab481 ab482 rf483
              · refine J_aload_n (i := 0) (j := 0) dX11_readText_66 rfl rfl ?_
                refine J_get (C := RX11) (T := TX11) (Z := 43) (ci := 11) (f := 10) dX11_readText_67 inG11 rfl (by decide) k1274 wc_162 rfl ?_
                refine J_istore_n (i := 3) (lw := [(3, .int (u473 162 10)), (0, .ref 162), (1, .int 1), (2, .int w472)]) dX11_readText_70 rfl (by decide) rfl ?_
                refine J_aload_n (i := 0) (j := 1) dX11_readText_71 rfl rfl ?_
                refine J_iconst (v := 1) dX11_readText_72 (by decide) ?_
                obtain ⟨u646, e647⟩ : ∃ z, z = ms u473 162 18 1 := ⟨_, rfl⟩
                refine J_put (C := RX11) (T := TX11) (Z := 43) (ci := 11) (f := 18) (ty0 := tyX11) dX11_readText_73 inG11 rfl tyX11_ok nmX11 (by decide) k1282 rfl rfl wc_162 (Nat.le_of_ble_eq_true rfl) (fun _ _ => ⟨rfl, rfl⟩) (ws e647 wk_162 rfl) ?_
                refine J_iload_n (i := 1) (j := 2) dX11_readText_76 rfl rfl ?_
                refine J_if_ne (tgt := 88) dX11_readText_77 (by decide) (fun _ => ?_) (fun q => absurd q (by decide))
                refine J_aload_n (i := 0) (j := 1) dX11_readText_88 rfl rfl ?_
                refine J_iload_n (i := 3) (j := 0) dX11_readText_89 rfl rfl ?_
                refine J_callV (As := [.int (u473 162 10)]) (rest := []) dX11_readText_90 (c_M_workLine (d := 4) (u := u646) (g := g484) (ex := ex) (at0 := u473 162 10)  (by decide) (bd_r (ms_i e647 (by decide)) bm476) (bd_r ((ms_i e647 (by decide)).trans ((fc475 9 (by decide) (by decide) (by decide) (by decide) (by decide) (by decide) (by decide) (by decide) (by decide)).trans ((fc380 9 (by decide) (by decide) (by decide) (by decide)).trans ((ms_i e370 (by decide)).trans ((ms_i e368 (by decide)).trans (congrFun (fr41 162 (by decide)) 9)))))) hp0) (bd_r (ms_i e647 (by decide)) bm479) (bd_r (ms_i e647 (by decide)) bm480) (ab_c (ms_c e647 (by decide)) ab482) (rp_c (ms_c e647 (by decide)) rf483)) hq.n k1476 k1478 k49 wc_162 rfl rfl k97 k1479 np_X11_workLine (Nat.le_trans (by decide) hd) (by decide) (Nat.le_refl _) (Nat.le_refl _) wlen rfl (Nat.le_of_ble_eq_true rfl) (fun r_ h_ p648 => ?_)
                obtain ⟨t649, u650, g651, rfl, rfl, h652, h653, h654, h655, h656, h657, fr658, fc659⟩ := p648
                refine J_istore_n (i := 2) (lw := [(2, .int (bI t649)), (3, .int (u473 162 10)), (0, .ref 162), (1, .int 1)]) dX11_readText_93 rfl (by decide) rfl ?_
                refine J_iload_n (i := 2) (j := 0) dX11_readText_94 rfl rfl ?_
                refine J_ifB_eq (tgt := 111) dX11_readText_95 (by decide) (fun c660 => ?_) (fun c660 => ?_)
                · refine J_iload_n (i := 2) (j := 0) dX11_readText_111 rfl rfl ?_
                  refine J_ifB_eq (tgt := 119) dX11_readText_112 (by decide) (fun _ => ?_) (fun q => absurd (c660.symm.trans q) (by decide))
                  refine J_goto (tgt := 55) dX11_readText_119 (by decide) ?_
                  refine J_iload_n (i := 2) (j := 0) dX11_readText_55 rfl rfl ?_
                  refine J_ifB_eq (tgt := 122) dX11_readText_56 (by decide) (fun _ => ?_) (fun q => absurd (c660.symm.trans q) (by decide))
                  refine J_lv [2, 3, 0] rfl ?_
                  exact jn626 (bI t649) u650 g651 (bd_bI t649) (fun c k0_ k1_ k2_ => ((fr658 c k0_ k1_ k2_).trans (ms_c e647 k0_))) (fun j k8_ k10_ k11_ k12_ k14_ k15_ k16_ k17_ k18_ => ((fc659 j k8_ k10_ k11_ k12_ k14_ k15_ k16_ k17_ k18_).trans (ms_i e647 k18_))) h652 h653 h654 (h656).1 h655 h656
                · refine J_aload_n (i := 0) (j := 2) dX11_readText_98 rfl rfl ?_
                  refine J_get (C := RX11) (T := TX11) (Z := 43) (ci := 11) (f := 11) dX11_readText_99 inG11 rfl (by decide) k1275 wc_162 rfl ?_
                  refine J_iconst (v := 4) dX11_readText_102 (by decide) ?_
                  refine J_icmp_eq (tgt := 111) dX11_readText_103 (by decide) (fun c661 => ?_) (fun c661 => ?_)
                  · refine J_iload_n (i := 2) (j := 0) dX11_readText_111 rfl rfl ?_
                    refine J_ifB_eq (tgt := 119) dX11_readText_112 (by decide) (fun q => absurd (c660.symm.trans q) (by decide)) (fun _ => ?_)
                    refine J_aload_n (i := 0) (j := 2) dX11_readText_115 rfl rfl ?_
                    refine J_callV (As := []) (rest := []) dX11_readText_116 (c_M_token (d := 1) (u := u650) (g := g651) (ex := ex)   (by decide) h652 (bd_r ((fc659 9 (by decide) (by decide) (by decide) (by decide) (by decide) (by decide) (by decide) (by decide) (by decide)).trans ((ms_i e647 (by decide)).trans ((fc475 9 (by decide) (by decide) (by decide) (by decide) (by decide) (by decide) (by decide) (by decide) (by decide)).trans ((fc380 9 (by decide) (by decide) (by decide) (by decide)).trans ((ms_i e370 (by decide)).trans ((ms_i e368 (by decide)).trans (congrFun (fr41 162 (by decide)) 9))))))) hp0) h653) hq.n k1417 k1419 k38 wc_162 rfl rfl k97 k1420 np_X11_token (Nat.le_trans (by decide) hd) (by decide) (Nat.le_refl _) (Nat.le_refl _) wlen rfl (Nat.le_of_ble_eq_true rfl) (fun r_ h_ p662 => ?_)
                    obtain ⟨u663, g664, rfl, rfl, h665, h666, h667, h668, h669, fr670, fc671⟩ := p662
                    refine J_goto (tgt := 55) dX11_readText_119 (by decide) ?_
                    refine J_lv [2, 3, 0] rfl ?_
                    exact ih580 (bI t649) u663 g664 (bd_bI t649) (fun c k0_ k1_ k2_ => ((fr670 c k0_).trans ((fr658 c k0_ k1_ k2_).trans ((ms_c e647 k0_).trans (fr474 c k0_ k1_ k2_))))) (fun j k8_ k10_ k11_ k12_ k14_ k15_ k16_ k17_ k18_ => ((fc671 j k8_ k10_ k11_ k12_).trans ((fc659 j k8_ k10_ k11_ k12_ k14_ k15_ k16_ k17_ k18_).trans ((ms_i e647 k18_).trans (fc475 j k8_ k10_ k11_ k12_ k14_ k15_ k16_ k17_ k18_))))) h665 h666 h667 h668 (bd_r (fc671 17 (by decide) (by decide) (by decide) (by decide)) h654) (ab_c (fr670 170 (by decide)) (h656).1) (ab_c (fr670 171 (by decide)) h655) (rp_c (fr670 170 (by decide)) h656) trivial (mu_gv (gv_r (ms_i e647 (by decide)).symm rfl rfl (h657 c660)) c661 h669 h665 hm581)
                  · refine J_aload_n (i := 0) (j := 2) dX11_readText_106 rfl rfl ?_
                    refine J_callV (As := []) (rest := []) dX11_readText_107 (c_M_stops (d := 0) (u := u650) (g := g651) (ex := ex)   (by decide) ) hq.n k1444 k1446 k41 wc_162 rfl rfl k97 k1447 np_X11_stops (Nat.le_trans (by decide) hd) (by decide) (Nat.le_refl _) (Nat.le_refl _) wlen rfl (Nat.le_of_ble_eq_true rfl) (fun r_ h_ p672 => ?_)
                    obtain ⟨u673, rfl, rfl, fr674, fc675⟩ := p672
                    refine J_istore_n (i := 2) (lw := [(2, .int 0), (3, .int (u473 162 10)), (0, .ref 162), (1, .int 1)]) dX11_readText_110 rfl (by decide) rfl ?_
                    refine J_iload_n (i := 2) (j := 0) dX11_readText_111 rfl rfl ?_
                    refine J_if_eq (tgt := 119) dX11_readText_112 (by decide) (fun _ => ?_) (fun q => absurd (by decide) q)
                    refine J_goto (tgt := 55) dX11_readText_119 (by decide) ?_
                    refine J_iload_n (i := 2) (j := 0) dX11_readText_55 rfl rfl ?_
                    refine J_if_eq (tgt := 122) dX11_readText_56 (by decide) (fun _ => ?_) (fun q => absurd (by decide) q)
                    refine J_lv [2, 3, 0] rfl ?_
                    exact jn626 (0 : Int32) u673 g651 (bd_w (l := 0) (h := 1) (bd_c (v := 0) (lo := 0) (hi := 0) (by decide)) (by decide)) (fun c k0_ k1_ k2_ => ((fr674 c k0_).trans ((fr658 c k0_ k1_ k2_).trans (ms_c e647 k0_)))) (fun j k8_ k10_ k11_ k12_ k14_ k15_ k16_ k17_ k18_ => ((fc675 j k14_).trans ((fc659 j k8_ k10_ k11_ k12_ k14_ k15_ k16_ k17_ k18_).trans (ms_i e647 k18_)))) (bd_r (fc675 8 (by decide)) h652) (bd_r (fc675 12 (by decide)) h653) (bd_r (fc675 17 (by decide)) h654) (ab_c (fr674 170 (by decide)) (h656).1) (ab_c (fr674 171 (by decide)) h655) (rp_c (fr674 170 (by decide)) h656)
        refine J_lv [1, 2, 0] rfl ?_
        exact lp578 _ (1 : Int32) u372 g373 (bd_w (l := 0) (h := 1) (bd_c (v := 1) (lo := 1) (hi := 1) (by decide)) (by decide)) (fun c k0_ k1_ k2_ => rfl) (fun j k8_ k10_ k11_ k12_ k14_ k15_ k16_ k17_ k18_ => rfl) h374 h375 h376 h377 (bd_r ((fc380 17 (by decide) (by decide) (by decide) (by decide)).trans ((ms_i e370 (by decide)).trans ((ms_i e368 (by decide)).trans (congrFun (fr41 162 (by decide)) 17)))) hp2) (ab_c ((fr379 170 (by decide)).trans ((ms_c e370 (by decide)).trans (ms_c e368 (by decide)))) ab42) (ab_c ((fr379 171 (by decide)).trans ((ms_c e370 (by decide)).trans ((ms_c e368 (by decide)).trans (fr41 171 (by decide))))) hp3) (rp_c ((fr379 170 (by decide)).trans ((ms_c e370 (by decide)).trans (ms_c e368 (by decide)))) (rz_p hz366)) trivial (Nat.lt_succ_self _)
      · refine J_aload_n (i := 0) (j := 0) dX11_readText_9 rfl rfl ?_
        refine J_get (C := RX11) (T := TX11) (Z := 43) (ci := 11) (f := 19) dX11_readText_10 inG11 rfl (by decide) k1283 wc_162 rfl ?_
        refine J_iload_n (i := 2) (j := 2) dX11_readText_13 rfl rfl ?_
        refine J_iload_n (i := 1) (j := 1) dX11_readText_14 rfl rfl ?_
        refine J_if_ne (tgt := 31) dX11_readText_15 (by decide) (fun _ => ?_) (fun q => absurd q (by decide))
        refine J_iconst (v := 0) dX11_readText_31 (by decide) ?_
        obtain ⟨u676, e677⟩ : ∃ z, z = ms u40 170 w39.toNatClampNeg 0 := ⟨_, rfl⟩
        refine J_iast dX11_readText_32 wc_170 (vin (bd_lt_hi bw39 (i_nle c363) (bd_c (v := 157) (lo := 157) (hi := 157) (by decide))) (by decide)) (ws e677 wk_170 rfl) ?_
        refine J_iinc (i := 2) (j := 2) (v := (w39 + 1)) (lw := [(2, .int (w39 + 1)), (0, .ref 162), (1, .int 1)]) dX11_readText_33 rfl rfl (by decide) rfl ?_
        refine J_goto (tgt := 2) dX11_readText_36 (by decide) ?_
        refine J_lv [1, 2, 0] rfl ?_
        exact ih360 (w39 + 1) u676 (bd_w (l := 0) (h := 157) (bd_add (l := 1) (h := 157) (bd_lt_hi bw39 (i_nle c363) (bd_c (v := 157) (lo := 157) (hi := 157) (by decide))) (bd_c (v := 1) (lo := 1) (hi := 1) (by decide)) (by decide)) (by decide)) (fun c k0_ => ((ms_c e677 k0_).trans (fr41 c k0_))) (ab_s e677 ab42 (bd_w (l := (-1)) (h := 999) (bd_c (v := 0) (lo := 0) (hi := 0) (by decide)) (by decide))) (zi_s e677 (bd_lt_hi bw39 (i_nle c363) (bd_c (v := 157) (lo := 157) (hi := 157) (by decide))) (bd_w (l := 0) (h := 1) (bd_c (v := 0) (lo := 0) (hi := 0) (by decide)) (by decide)) hI362) (mu_up 1 bw39 rfl (by decide) (bd_w (l := 1) (h := 157) (bd_add (l := 1) (h := 157) (bd_lt_hi bw39 (i_nle c363) (bd_c (v := 157) (lo := 157) (hi := 157) (by decide))) (bd_c (v := 1) (lo := 1) (hi := 1) (by decide)) (by decide)) (by decide)) hm361)
  refine J_lv [1, 2, 0] rfl ?_
  exact lp358 _ (0 : Int32) u (bd_w (l := 0) (h := 157) (bd_c (v := 0) (lo := 0) (hi := 0) (by decide)) (by decide)) (fun c k0_ => rfl) hp4 zi_0 (Nat.lt_succ_self _)
