theorem k1413 : Cond.methodLink RX11 202 yX11_readText ∈ gt := gt_in 1413 (by decide +kernel) (by decide +kernel)
theorem k1415 : Cond.instanceMethod yX11_readText ∈ gt := gt_in 1415 (by decide +kernel) (by decide +kernel)
theorem k37 : Cond.selects RX11 yX11_readText yX11_readText ∈ gt := gt_in 37 (by decide +kernel) (by decide +kernel)
theorem k1416 : Cond.code yX11_readText cX11_readText 4 (some .boolean) ∈ gt := gt_in 1416 (by decide +kernel) (by decide +kernel)
theorem np_X11_readText : yX11_readText.cls ≠ "java/lang/invoke/MethodHandle" ∧ yX11_readText.cls ≠ "java/lang/invoke/VarHandle" ∧ (parseMethodDescriptor yX11_readText.desc).map (fun d => d.parameters.length) = some 1 := by decide +kernel
theorem dX11_text_0 : decode cX11_text 0 = .ok (.aload_n 0, 1) := by decide +kernel
theorem dX11_text_1 : decode cX11_text 1 = .ok (.iconst 0, 1) := by decide +kernel
theorem dX11_text_2 : decode cX11_text 2 = .ok (.putfield 70, 3) := by decide +kernel
theorem dX11_text_5 : decode cX11_text 5 = .ok (.aload_n 0, 1) := by decide +kernel
theorem dX11_text_6 : decode cX11_text 6 = .ok (.aload_n 0, 1) := by decide +kernel
theorem dX11_text_7 : decode cX11_text 7 = .ok (.getfield 13, 3) := by decide +kernel
theorem dX11_text_10 : decode cX11_text 10 = .ok (.iconst 0, 1) := by decide +kernel
theorem dX11_text_11 : decode cX11_text 11 = .ok (.iaload, 1) := by decide +kernel
theorem dX11_text_12 : decode cX11_text 12 = .ok (.putfield 89, 3) := by decide +kernel
theorem dX11_text_15 : decode cX11_text 15 = .ok (.aload_n 0, 1) := by decide +kernel
theorem dX11_text_16 : decode cX11_text 16 = .ok (.getfield 13, 3) := by decide +kernel
theorem dX11_text_19 : decode cX11_text 19 = .ok (.iconst 0, 1) := by decide +kernel
theorem dX11_text_20 : decode cX11_text 20 = .ok (.iconst 0, 1) := by decide +kernel
theorem dX11_text_21 : decode cX11_text 21 = .ok (.iastore, 1) := by decide +kernel
theorem dX11_text_22 : decode cX11_text 22 = .ok (.aload_n 0, 1) := by decide +kernel
theorem dX11_text_23 : decode cX11_text 23 = .ok (.getfield 17, 3) := by decide +kernel
theorem dX11_text_26 : decode cX11_text 26 = .ok (.iconst 0, 1) := by decide +kernel
theorem dX11_text_27 : decode cX11_text 27 = .ok (.iconst 0, 1) := by decide +kernel
theorem dX11_text_28 : decode cX11_text 28 = .ok (.iastore, 1) := by decide +kernel
theorem dX11_text_29 : decode cX11_text 29 = .ok (.aload_n 0, 1) := by decide +kernel
theorem dX11_text_30 : decode cX11_text 30 = .ok (.getfield 20, 3) := by decide +kernel
theorem dX11_text_33 : decode cX11_text 33 = .ok (.iconst 0, 1) := by decide +kernel
theorem dX11_text_34 : decode cX11_text 34 = .ok (.iconst (-1), 1) := by decide +kernel
theorem dX11_text_35 : decode cX11_text 35 = .ok (.iastore, 1) := by decide +kernel
theorem dX11_text_36 : decode cX11_text 36 = .ok (.iload_n 1, 1) := by decide +kernel
theorem dX11_text_37 : decode cX11_text 37 = .ok (.iconst 0, 1) := by decide +kernel
theorem dX11_text_38 : decode cX11_text 38 = .ok (.iconst 1, 1) := by decide +kernel
theorem dX11_text_39 : decode cX11_text 39 = .ok (.invokestatic 78, 3) := by decide +kernel
theorem dX11_text_42 : decode cX11_text 42 = .ok (.ifCond .eq 45, 3) := by decide +kernel
theorem dX11_text_45 : decode cX11_text 45 = .ok (.iload_n 2, 1) := by decide +kernel
theorem dX11_text_46 : decode cX11_text 46 = .ok (.iconst (-1), 1) := by decide +kernel
theorem dX11_text_47 : decode cX11_text 47 = .ok (.if_icmp .ne 24, 3) := by decide +kernel
theorem dX11_text_50 : decode cX11_text 50 = .ok (.aload_n 0, 1) := by decide +kernel
theorem dX11_text_51 : decode cX11_text 51 = .ok (.getfield 23, 3) := by decide +kernel
theorem dX11_text_54 : decode cX11_text 54 = .ok (.iload_n 1, 1) := by decide +kernel
theorem dX11_text_55 : decode cX11_text 55 = .ok (.iaload, 1) := by decide +kernel
theorem dX11_text_56 : decode cX11_text 56 = .ok (.iload_n 1, 1) := by decide +kernel
theorem dX11_text_57 : decode cX11_text 57 = .ok (.ifCond .ne 7, 3) := by decide +kernel
theorem dX11_text_60 : decode cX11_text 60 = .ok (.iconst 2, 1) := by decide +kernel
theorem dX11_text_61 : decode cX11_text 61 = .ok (.goto 4, 3) := by decide +kernel
theorem dX11_text_64 : decode cX11_text 64 = .ok (.iconst 3, 1) := by decide +kernel
theorem dX11_text_65 : decode cX11_text 65 = .ok (.if_icmp .ne 25, 3) := by decide +kernel
theorem dX11_text_68 : decode cX11_text 68 = .ok (.goto 19, 3) := by decide +kernel
theorem dX11_text_71 : decode cX11_text 71 = .ok (.iload_n 2, 1) := by decide +kernel
theorem dX11_text_72 : decode cX11_text 72 = .ok (.iconst 0, 1) := by decide +kernel
theorem dX11_text_73 : decode cX11_text 73 = .ok (.aload_n 0, 1) := by decide +kernel
theorem dX11_text_74 : decode cX11_text 74 = .ok (.getfield 23, 3) := by decide +kernel
theorem dX11_text_77 : decode cX11_text 77 = .ok (.iload_n 1, 1) := by decide +kernel
theorem dX11_text_78 : decode cX11_text 78 = .ok (.iaload, 1) := by decide +kernel
theorem dX11_text_79 : decode cX11_text 79 = .ok (.iconst 1, 1) := by decide +kernel
theorem dX11_text_80 : decode cX11_text 80 = .ok (.isub, 1) := by decide +kernel
theorem dX11_text_81 : decode cX11_text 81 = .ok (.invokestatic 78, 3) := by decide +kernel
theorem dX11_text_84 : decode cX11_text 84 = .ok (.ifCond .ne 6, 3) := by decide +kernel
theorem dX11_text_87 : decode cX11_text 87 = .ok (.bipush (-2), 2) := by decide +kernel
theorem dX11_text_89 : decode cX11_text 89 = .ok (.ireturn, 1) := by decide +kernel
theorem dX11_text_90 : decode cX11_text 90 = .ok (.aload_n 0, 1) := by decide +kernel
theorem dX11_text_91 : decode cX11_text 91 = .ok (.iload_n 1, 1) := by decide +kernel
theorem dX11_text_92 : decode cX11_text 92 = .ok (.invokevirtual 202, 3) := by decide +kernel
theorem dX11_text_95 : decode cX11_text 95 = .ok (.ifCond .ne 5, 3) := by decide +kernel
theorem dX11_text_98 : decode cX11_text 98 = .ok (.iconst (-1), 1) := by decide +kernel
theorem dX11_text_99 : decode cX11_text 99 = .ok (.ireturn, 1) := by decide +kernel
theorem dX11_text_100 : decode cX11_text 100 = .ok (.iload_n 2, 1) := by decide +kernel
theorem dX11_text_101 : decode cX11_text 101 = .ok (.iconst (-1), 1) := by decide +kernel
theorem dX11_text_102 : decode cX11_text 102 = .ok (.if_icmp .ne 12, 3) := by decide +kernel
theorem dX11_text_105 : decode cX11_text 105 = .ok (.aload_n 0, 1) := by decide +kernel
theorem dX11_text_106 : decode cX11_text 106 = .ok (.getfield 23, 3) := by decide +kernel
theorem dX11_text_109 : decode cX11_text 109 = .ok (.iload_n 1, 1) := by decide +kernel
theorem dX11_text_110 : decode cX11_text 110 = .ok (.iaload, 1) := by decide +kernel
theorem dX11_text_111 : decode cX11_text 111 = .ok (.goto 4, 3) := by decide +kernel
theorem dX11_text_114 : decode cX11_text 114 = .ok (.iload_n 2, 1) := by decide +kernel
theorem dX11_text_115 : decode cX11_text 115 = .ok (.istore_n 3, 1) := by decide +kernel
theorem dX11_text_116 : decode cX11_text 116 = .ok (.aload_n 0, 1) := by decide +kernel
theorem dX11_text_117 : decode cX11_text 117 = .ok (.getfield 23, 3) := by decide +kernel
theorem dX11_text_120 : decode cX11_text 120 = .ok (.iload_n 1, 1) := by decide +kernel
theorem dX11_text_121 : decode cX11_text 121 = .ok (.dup2, 1) := by decide +kernel
theorem dX11_text_122 : decode cX11_text 122 = .ok (.iaload, 1) := by decide +kernel
theorem dX11_text_123 : decode cX11_text 123 = .ok (.iload_n 2, 1) := by decide +kernel
theorem dX11_text_124 : decode cX11_text 124 = .ok (.iconst (-1), 1) := by decide +kernel
theorem dX11_text_125 : decode cX11_text 125 = .ok (.if_icmp .ne 7, 3) := by decide +kernel
theorem dX11_text_128 : decode cX11_text 128 = .ok (.iconst 1, 1) := by decide +kernel
theorem dX11_text_129 : decode cX11_text 129 = .ok (.goto 4, 3) := by decide +kernel
theorem dX11_text_132 : decode cX11_text 132 = .ok (.iconst 0, 1) := by decide +kernel
theorem dX11_text_133 : decode cX11_text 133 = .ok (.iadd, 1) := by decide +kernel
theorem dX11_text_134 : decode cX11_text 134 = .ok (.iastore, 1) := by decide +kernel
theorem dX11_text_135 : decode cX11_text 135 = .ok (.iconst 0, 1) := by decide +kernel
theorem dX11_text_136 : decode cX11_text 136 = .ok (.istore 4, 2) := by decide +kernel
theorem dX11_text_138 : decode cX11_text 138 = .ok (.iload 4, 2) := by decide +kernel
theorem dX11_text_140 : decode cX11_text 140 = .ok (.sipush 157, 3) := by decide +kernel
theorem dX11_text_143 : decode cX11_text 143 = .ok (.if_icmp .ge 33, 3) := by decide +kernel
theorem dX11_text_146 : decode cX11_text 146 = .ok (.iload_n 1, 1) := by decide +kernel
theorem dX11_text_147 : decode cX11_text 147 = .ok (.ifCond .ne 29, 3) := by decide +kernel
theorem dX11_text_150 : decode cX11_text 150 = .ok (.aload_n 0, 1) := by decide +kernel
theorem dX11_text_151 : decode cX11_text 151 = .ok (.getfield 26, 3) := by decide +kernel
theorem dX11_text_154 : decode cX11_text 154 = .ok (.sipush 157, 3) := by decide +kernel
theorem dX11_text_157 : decode cX11_text 157 = .ok (.iload_n 3, 1) := by decide +kernel
theorem dX11_text_158 : decode cX11_text 158 = .ok (.imul, 1) := by decide +kernel
theorem dX11_text_159 : decode cX11_text 159 = .ok (.iload 4, 2) := by decide +kernel
theorem dX11_text_161 : decode cX11_text 161 = .ok (.iadd, 1) := by decide +kernel
theorem dX11_text_162 : decode cX11_text 162 = .ok (.aload_n 0, 1) := by decide +kernel
theorem dX11_text_163 : decode cX11_text 163 = .ok (.getfield 32, 3) := by decide +kernel
theorem dX11_text_166 : decode cX11_text 166 = .ok (.iload 4, 2) := by decide +kernel
theorem dX11_text_168 : decode cX11_text 168 = .ok (.iaload, 1) := by decide +kernel
theorem dX11_text_169 : decode cX11_text 169 = .ok (.iastore, 1) := by decide +kernel
theorem dX11_text_170 : decode cX11_text 170 = .ok (.iinc 4 1, 3) := by decide +kernel
theorem dX11_text_173 : decode cX11_text 173 = .ok (.goto (-35), 3) := by decide +kernel
theorem dX11_text_176 : decode cX11_text 176 = .ok (.iconst 0, 1) := by decide +kernel
theorem dX11_text_177 : decode cX11_text 177 = .ok (.istore 4, 2) := by decide +kernel
theorem dX11_text_179 : decode cX11_text 179 = .ok (.iload 4, 2) := by decide +kernel
theorem dX11_text_181 : decode cX11_text 181 = .ok (.bipush 37, 2) := by decide +kernel
theorem dX11_text_183 : decode cX11_text 183 = .ok (.if_icmp .ge 33, 3) := by decide +kernel
theorem dX11_text_186 : decode cX11_text 186 = .ok (.iload_n 1, 1) := by decide +kernel
theorem dX11_text_187 : decode cX11_text 187 = .ok (.iconst 1, 1) := by decide +kernel
theorem dX11_text_188 : decode cX11_text 188 = .ok (.if_icmp .ne 28, 3) := by decide +kernel
theorem dX11_text_191 : decode cX11_text 191 = .ok (.aload_n 0, 1) := by decide +kernel
theorem dX11_text_192 : decode cX11_text 192 = .ok (.getfield 29, 3) := by decide +kernel
theorem dX11_text_195 : decode cX11_text 195 = .ok (.bipush 37, 2) := by decide +kernel
theorem dX11_text_197 : decode cX11_text 197 = .ok (.iload_n 3, 1) := by decide +kernel
theorem dX11_text_198 : decode cX11_text 198 = .ok (.imul, 1) := by decide +kernel
theorem dX11_text_199 : decode cX11_text 199 = .ok (.iload 4, 2) := by decide +kernel
theorem dX11_text_201 : decode cX11_text 201 = .ok (.iadd, 1) := by decide +kernel
theorem dX11_text_202 : decode cX11_text 202 = .ok (.aload_n 0, 1) := by decide +kernel
theorem dX11_text_203 : decode cX11_text 203 = .ok (.getfield 32, 3) := by decide +kernel
theorem dX11_text_206 : decode cX11_text 206 = .ok (.iload 4, 2) := by decide +kernel
theorem dX11_text_208 : decode cX11_text 208 = .ok (.iaload, 1) := by decide +kernel
theorem dX11_text_209 : decode cX11_text 209 = .ok (.iastore, 1) := by decide +kernel
theorem dX11_text_210 : decode cX11_text 210 = .ok (.iinc 4 1, 3) := by decide +kernel
theorem dX11_text_213 : decode cX11_text 213 = .ok (.goto (-34), 3) := by decide +kernel
theorem dX11_text_216 : decode cX11_text 216 = .ok (.iload_n 3, 1) := by decide +kernel
theorem dX11_text_217 : decode cX11_text 217 = .ok (.ireturn, 1) := by decide +kernel
theorem hk2 {v : Int32} (b : Bd 0 1 v) : v.toInt.toNat < 2 := by have := b.1; have := b.2; omega
set_option maxHeartbeats 4000000 in
set_option maxRecDepth 100000 in
theorem c_M_text {d : Nat} {u : Nat → Nat → Int32} {g : Nat → Nat → Int64} {ex : List MC} {sort : Int32} {at0 : Int32} (hd : 7 ≤ d) (hp0 : AB u 164 0 600) (hp1 : AB u 168 (-1) 999) (hp2 : AB u 169 (-1) 999) (hp3 : (MY u)) (hp4 : (HD u)) (hp5 : (HC u)) (hp6 : (PL u)) (hp7 : Bd 0 999 (u 162 12)) (hp8 : Bd 0 999 (u 162 17)) (hp9 : AB u 171 (-1) 999) (hp10 : AB u 170 (-1) 999) : CT con0 d 0 0 yX11_text cX11_text 5 (some .int) [.ref 162, .int sort, .int at0] (Wd u g ex) (fun r h2 => ∃ (z : Int32) (u2 : Nat → Nat → Int32) (g2 : Nat → Nat → Int64), r = some (.int z) ∧ h2 = Wd u2 g2 ex ∧ AB u2 164 0 600 ∧ AB u2 168 (-1) 999 ∧ AB u2 169 (-1) 999 ∧ (MY u2) ∧ (HD u2) ∧ (HC u2) ∧ (PL u2) ∧ Bd 0 999 (u2 162 12) ∧ Bd 0 999 (u2 162 17) ∧ AB u2 171 (-1) 999 ∧ AB u2 170 (-1) 999 ∧ (∀ c, c ≠ 162 → c ≠ 164 → c ≠ 165 → c ≠ 166 → c ≠ 167 → c ≠ 168 → c ≠ 169 → c ≠ 170 → c ≠ 171 → u2 c = u c) ∧ (∀ j, j ≠ 0 → j ≠ 8 → j ≠ 9 → j ≠ 10 → j ≠ 11 → j ≠ 12 → j ≠ 14 → j ≠ 15 → j ≠ 16 → j ≠ 17 → j ≠ 18 → u2 162 j = u 162 j)) := by
  refine CT_of (by decide) (Nat.le_of_ble_eq_true rfl) (fun x hq => ?_)
  show J x yX11_text cX11_text 5 (some .int) d 0 0 (Wd u g ex).length 0 [(0, .ref 162), (1, .int sort), (2, .int at0)] [] (Wd u g ex) 0 0
  by_cases hs0 : sort = 0
  · subst hs0
    refine J_aload_n (i := 0) (j := 0) dX11_text_0 rfl rfl ?_
    refine J_iconst (v := 0) dX11_text_1 (by decide) ?_
    obtain ⟨u1, e2⟩ : ∃ z, z = ms u 162 0 0 := ⟨_, rfl⟩
    refine J_put (C := RX11) (T := TX11) (Z := 43) (ci := 11) (f := 0) (ty0 := tyX11) dX11_text_2 inG11 rfl tyX11_ok nmX11 (by decide) k1264 rfl rfl wc_162 (Nat.le_of_ble_eq_true rfl) (fun _ _ => ⟨rfl, rfl⟩) (ws e2 wk_162 rfl) ?_
    refine J_aload_n (i := 0) (j := 0) dX11_text_5 rfl rfl ?_
    refine J_aload_n (i := 0) (j := 0) dX11_text_6 rfl rfl ?_
    refine J_get (C := RX11) (T := TX11) (Z := 43) (ci := 11) (f := 2) dX11_text_7 inG11 rfl (by decide) k1266 wc_162 rfl ?_
    refine J_iconst (v := 0) dX11_text_10 (by decide) ?_
    refine J_iald dX11_text_11 wc_164 (vin (bd_c (v := 0) (lo := 0) (hi := 0) (by decide)) (by decide)) ?_
    refine J_ci (v := u 164 0) (congrFun (ms_c e2 (by decide)) 0) ?_
    obtain ⟨u3, e4⟩ : ∃ z, z = ms u1 162 9 (u 164 0) := ⟨_, rfl⟩
    refine J_put (C := RX11) (T := TX11) (Z := 43) (ci := 11) (f := 9) (ty0 := tyX11) dX11_text_12 inG11 rfl tyX11_ok nmX11 (by decide) k1273 rfl rfl wc_162 (Nat.le_of_ble_eq_true rfl) (fun _ _ => ⟨rfl, rfl⟩) (ws e4 wk_162 rfl) ?_
    refine J_aload_n (i := 0) (j := 0) dX11_text_15 rfl rfl ?_
    refine J_get (C := RX11) (T := TX11) (Z := 43) (ci := 11) (f := 2) dX11_text_16 inG11 rfl (by decide) k1266 wc_162 rfl ?_
    refine J_iconst (v := 0) dX11_text_19 (by decide) ?_
    refine J_iconst (v := 0) dX11_text_20 (by decide) ?_
    obtain ⟨u5, e6⟩ : ∃ z, z = ms u3 164 0 0 := ⟨_, rfl⟩
    refine J_iast dX11_text_21 wc_164 (vin (bd_c (v := 0) (lo := 0) (hi := 0) (by decide)) (by decide)) (ws e6 wk_164 rfl) ?_
    refine J_aload_n (i := 0) (j := 0) dX11_text_22 rfl rfl ?_
    refine J_get (C := RX11) (T := TX11) (Z := 43) (ci := 11) (f := 3) dX11_text_23 inG11 rfl (by decide) k1267 wc_162 rfl ?_
    refine J_iconst (v := 0) dX11_text_26 (by decide) ?_
    refine J_iconst (v := 0) dX11_text_27 (by decide) ?_
    obtain ⟨u7, e8⟩ : ∃ z, z = ms u5 165 0 0 := ⟨_, rfl⟩
    refine J_iast dX11_text_28 wc_165 (vin (bd_c (v := 0) (lo := 0) (hi := 0) (by decide)) (by decide)) (ws e8 wk_165 rfl) ?_
    refine J_aload_n (i := 0) (j := 0) dX11_text_29 rfl rfl ?_
    refine J_get (C := RX11) (T := TX11) (Z := 43) (ci := 11) (f := 4) dX11_text_30 inG11 rfl (by decide) k1268 wc_162 rfl ?_
    refine J_iconst (v := 0) dX11_text_33 (by decide) ?_
    refine J_iconst (v := (-1)) dX11_text_34 (by decide) ?_
    obtain ⟨u9, e10⟩ : ∃ z, z = ms u7 166 0 (-1) := ⟨_, rfl⟩
    refine J_iast dX11_text_35 wc_166 (vin (bd_c (v := 0) (lo := 0) (hi := 0) (by decide)) (by decide)) (ws e10 wk_166 rfl) ?_
    refine J_iload_n (i := 1) (j := 1) dX11_text_36 rfl rfl ?_
    refine J_iconst (v := 0) dX11_text_37 (by decide) ?_
    refine J_iconst (v := 1) dX11_text_38 (by decide) ?_
    refine J_callS (As := [.int 0, .int 0, .int 1]) (rest := []) dX11_text_39 (c_M_in (d := 0) (u := u9) (g := g) (ex := ex) (v := 0) (low := 0) (high := 1)  (by decide) ) hq.n k1406 k1407 k97 k1408 np_X11_in (Nat.le_trans (by decide) hd) (by decide) (Nat.le_refl _) (Nat.le_refl _) wlen rfl (Nat.le_of_ble_eq_true rfl) (fun r_ h_ p11 => ?_)
    obtain ⟨t12, rfl, rfl, h13, h14⟩ := p11
    refine J_ifB_eq (tgt := 87) dX11_text_42 (by decide) (fun c15 => ?_) (fun c15 => ?_)
    · refine J_bipush (v := (-2)) dX11_text_87 (by decide) ?_
      exact J_iret hq dX11_text_89 rfl wlen (Nat.le_refl _) (Nat.le_refl _) ⟨((-2) : Int32), u9, g, rfl, rfl, (ab_c ((ms_c e10 (by decide)).trans (ms_c e8 (by decide))) (ab_s e6 (ab_c ((ms_c e4 (by decide)).trans (ms_c e2 (by decide))) hp0) (bd_w (l := 0) (h := 600) (bd_c (v := 0) (lo := 0) (hi := 0) (by decide)) (by decide)))), (ab_c ((ms_c e10 (by decide)).trans ((ms_c e8 (by decide)).trans ((ms_c e6 (by decide)).trans ((ms_c e4 (by decide)).trans (ms_c e2 (by decide)))))) hp1), (ab_c ((ms_c e10 (by decide)).trans ((ms_c e8 (by decide)).trans ((ms_c e6 (by decide)).trans ((ms_c e4 (by decide)).trans (ms_c e2 (by decide)))))) hp2), (my_c ((ms_c e10 (by decide)).trans ((ms_c e8 (by decide)).trans ((ms_c e6 (by decide)).trans ((ms_c e4 (by decide)).trans (ms_c e2 (by decide)))))) hp3), (hd_c ((ms_c e10 (by decide)).trans ((ms_c e8 (by decide)).trans ((ms_c e6 (by decide)).trans ((ms_c e4 (by decide)).trans (ms_c e2 (by decide)))))) hp4), (hc_c ((ms_c e10 (by decide)).trans ((ms_c e8 (by decide)).trans ((ms_c e6 (by decide)).trans ((ms_c e4 (by decide)).trans (ms_c e2 (by decide)))))) ((ms_c e10 (by decide)).trans ((ms_c e8 (by decide)).trans ((ms_c e6 (by decide)).trans ((ms_c e4 (by decide)).trans (ms_c e2 (by decide)))))) hp5), (pl_c ((ms_c e10 (by decide)).trans ((ms_c e8 (by decide)).trans ((ms_c e6 (by decide)).trans ((ms_c e4 (by decide)).trans (ms_c e2 (by decide)))))) hp6), (bd_r ((congrFun (ms_c e10 (by decide)) 12).trans ((congrFun (ms_c e8 (by decide)) 12).trans ((congrFun (ms_c e6 (by decide)) 12).trans ((ms_i e4 (by decide)).trans (ms_i e2 (by decide)))))) hp7), (bd_r ((congrFun (ms_c e10 (by decide)) 17).trans ((congrFun (ms_c e8 (by decide)) 17).trans ((congrFun (ms_c e6 (by decide)) 17).trans ((ms_i e4 (by decide)).trans (ms_i e2 (by decide)))))) hp8), (ab_c ((ms_c e10 (by decide)).trans ((ms_c e8 (by decide)).trans ((ms_c e6 (by decide)).trans ((ms_c e4 (by decide)).trans (ms_c e2 (by decide)))))) hp9), (ab_c ((ms_c e10 (by decide)).trans ((ms_c e8 (by decide)).trans ((ms_c e6 (by decide)).trans ((ms_c e4 (by decide)).trans (ms_c e2 (by decide)))))) hp10), (fun c k0_ k1_ k2_ k3_ k4_ k5_ k6_ k7_ k8_ => ((ms_c e10 k3_).trans ((ms_c e8 k2_).trans ((ms_c e6 k1_).trans ((ms_c e4 k0_).trans (ms_c e2 k0_)))))), (fun j k0_ k8_ k9_ k10_ k11_ k12_ k14_ k15_ k16_ k17_ k18_ => ((congrFun (ms_c e10 (by decide)) j).trans ((congrFun (ms_c e8 (by decide)) j).trans ((congrFun (ms_c e6 (by decide)) j).trans ((ms_i e4 k9_).trans (ms_i e2 k0_))))))⟩
    · refine J_iload_n (i := 2) (j := 2) dX11_text_45 rfl rfl ?_
      refine J_iconst (v := (-1)) dX11_text_46 (by decide) ?_
      refine J_icmp_ne (tgt := 71) dX11_text_47 (by decide) (fun c16 => ?_) (fun c16 => ?_)
      · refine J_iload_n (i := 2) (j := 2) dX11_text_71 rfl rfl ?_
        refine J_iconst (v := 0) dX11_text_72 (by decide) ?_
        refine J_aload_n (i := 0) (j := 0) dX11_text_73 rfl rfl ?_
        refine J_get (C := RX11) (T := TX11) (Z := 43) (ci := 11) (f := 5) dX11_text_74 inG11 rfl (by decide) k1269 wc_162 rfl ?_
        refine J_iload_n (i := 1) (j := 1) dX11_text_77 rfl rfl ?_
        refine J_iald dX11_text_78 wc_167 (vin (bd_c (v := 0) (lo := 0) (hi := 0) (by decide)) (by decide)) ?_
        refine J_ci (v := u 167 0) ((congrFun (ms_c e10 (by decide)) 0).trans ((congrFun (ms_c e8 (by decide)) 0).trans ((congrFun (ms_c e6 (by decide)) 0).trans ((congrFun (ms_c e4 (by decide)) 0).trans (congrFun (ms_c e2 (by decide)) 0))))) ?_
        refine J_iconst (v := 1) dX11_text_79 (by decide) ?_
        refine J_isub dX11_text_80 ?_
        refine J_callS (As := [.int at0, .int 0, .int ((u 167 0) - 1)]) (rest := []) dX11_text_81 (c_M_in (d := 0) (u := u9) (g := g) (ex := ex) (v := at0) (low := 0) (high := ((u 167 0) - 1))  (by decide) ) hq.n k1406 k1407 k97 k1408 np_X11_in (Nat.le_trans (by decide) hd) (by decide) (Nat.le_refl _) (Nat.le_refl _) wlen rfl (Nat.le_of_ble_eq_true rfl) (fun r_ h_ p17 => ?_)
        obtain ⟨t18, rfl, rfl, h19, h20⟩ := p17
        refine J_ifB_ne (tgt := 90) dX11_text_84 (by decide) (fun c21 => ?_) (fun c21 => ?_)
        · refine J_aload_n (i := 0) (j := 0) dX11_text_90 rfl rfl ?_
          refine J_iload_n (i := 1) (j := 1) dX11_text_91 rfl rfl ?_
          refine J_callV (As := [.int 0]) (rest := []) dX11_text_92 (c_M_readText0 (d := 6) (u := u9) (g := g) (ex := ex)   (by decide) (bd_r ((congrFun (ms_c e10 (by decide)) 9).trans ((congrFun (ms_c e8 (by decide)) 9).trans ((congrFun (ms_c e6 (by decide)) 9).trans (ms_e e4)))) (hp0 0)) (bd_r ((congrFun (ms_c e10 (by decide)) 12).trans ((congrFun (ms_c e8 (by decide)) 12).trans ((congrFun (ms_c e6 (by decide)) 12).trans ((ms_i e4 (by decide)).trans (ms_i e2 (by decide)))))) hp7) (bd_r ((congrFun (ms_c e10 (by decide)) 17).trans ((congrFun (ms_c e8 (by decide)) 17).trans ((congrFun (ms_c e6 (by decide)) 17).trans ((ms_i e4 (by decide)).trans (ms_i e2 (by decide)))))) hp8) (ab_c ((ms_c e10 (by decide)).trans ((ms_c e8 (by decide)).trans ((ms_c e6 (by decide)).trans ((ms_c e4 (by decide)).trans (ms_c e2 (by decide)))))) hp9) (ab_c ((ms_c e10 (by decide)).trans ((ms_c e8 (by decide)).trans ((ms_c e6 (by decide)).trans ((ms_c e4 (by decide)).trans (ms_c e2 (by decide)))))) hp10)) hq.n k1413 k1415 k37 wc_162 rfl rfl k97 k1416 np_X11_readText (Nat.le_trans (by decide) hd) (by decide) (Nat.le_refl _) (Nat.le_refl _) wlen rfl (Nat.le_of_ble_eq_true rfl) (fun r_ h_ p22 => ?_)
          obtain ⟨t23, u24, g25, rfl, rfl, h26, h27, h28, h29, h30, h31, fr32, fc33⟩ := p22
          refine J_ifB_ne (tgt := 100) dX11_text_95 (by decide) (fun c34 => ?_) (fun c34 => ?_)
          · refine J_iload_n (i := 2) (j := 2) dX11_text_100 rfl rfl ?_
            refine J_iconst (v := (-1)) dX11_text_101 (by decide) ?_
            refine J_icmp_ne (tgt := 114) dX11_text_102 (by decide) (fun c35 => ?_) (fun c35 => ?_)
            · refine J_iload_n (i := 2) (j := 2) dX11_text_114 rfl rfl ?_
              refine J_istore_n (i := 3) (lw := [(3, .int at0), (0, .ref 162), (1, .int 0), (2, .int at0)]) dX11_text_115 rfl (by decide) rfl ?_
              refine J_aload_n (i := 0) (j := 1) dX11_text_116 rfl rfl ?_
              refine J_get (C := RX11) (T := TX11) (Z := 43) (ci := 11) (f := 5) dX11_text_117 inG11 rfl (by decide) k1269 wc_162 rfl ?_
              refine J_iload_n (i := 1) (j := 2) dX11_text_120 rfl rfl ?_
              refine J_dup2_11 dX11_text_121 rfl rfl ?_
              refine J_iald dX11_text_122 wc_167 (vin (bd_c (v := 0) (lo := 0) (hi := 0) (by decide)) (by decide)) ?_
              refine J_ci (v := u 167 0) ((congrFun (fr32 167 (by decide) (by decide) (by decide) (by decide) (by decide)) 0).trans ((congrFun (ms_c e10 (by decide)) 0).trans ((congrFun (ms_c e8 (by decide)) 0).trans ((congrFun (ms_c e6 (by decide)) 0).trans ((congrFun (ms_c e4 (by decide)) 0).trans (congrFun (ms_c e2 (by decide)) 0)))))) ?_
              refine J_iload_n (i := 2) (j := 3) dX11_text_123 rfl rfl ?_
              refine J_iconst (v := (-1)) dX11_text_124 (by decide) ?_
              refine J_icmp_ne (tgt := 132) dX11_text_125 (by decide) (fun c36 => ?_) (fun c36 => ?_)
              · refine J_iconst (v := 0) dX11_text_132 (by decide) ?_
                refine J_iadd dX11_text_133 ?_
                obtain ⟨u37, e38⟩ : ∃ z, z = ms u24 167 0 ((u 167 0) + 0) := ⟨_, rfl⟩
                refine J_iast dX11_text_134 wc_167 (vin (bd_c (v := 0) (lo := 0) (hi := 0) (by decide)) (by decide)) (ws e38 wk_167 rfl) ?_
                refine J_iconst (v := 0) dX11_text_135 (by decide) ?_
                refine J_istore (i := 4) (lw := [(4, .int 0), (3, .int at0), (0, .ref 162), (1, .int 0), (2, .int at0)]) dX11_text_136 (by decide) rfl ?_
                have lp110 : ∀ (n111 : Nat) (w96 : Int32) (u97 : Nat → Nat → Int32), Bd 0 157 w96 → (∀ c, c ≠ 168 → u97 c = u37 c) → AB u97 168 (-1) 999 → CRI u97 u37 168 157 at0.toInt.toNat w96.toInt.toNat → (157 - w96.toInt).toNat < n111 → J x yX11_text cX11_text 5 (some .int) d 0 0 (Wd u g ex).length 138 [(0, .ref 162), (1, .int 0), (3, .int at0), (4, .int w96)] [] (Wd u97 g25 ex) 0 0 := by
                  intro n111
                  induction n111 with
                  | zero => intro w96 u97 bw96 fr98 ab99 hI114 hm113; exact absurd hm113 (Nat.not_lt_zero _)
                  | succ n111 ih112 =>
                    intro w96 u97 bw96 fr98 ab99 hI114 hm113
                    refine J_iload (i := 4) (j := 3) dX11_text_138 rfl ?_
                    refine J_sipush (v := 157) dX11_text_140 (by decide) ?_
                    refine J_icmp_ge (tgt := 176) dX11_text_143 (by decide) (fun c115 => ?_) (fun c115 => ?_)
                    · have hy119 := cri_e hI114 (bd_le_lo bw96 c115 (bd_c (v := 157) (lo := 157) (hi := 157) (by decide))) (by decide)
                      have hy120 := hd_cr hy119 (rh_c (ms_c e38 (by decide)) h30) (hd_c ((ms_c e38 (by decide)).trans ((fr32 168 (by decide) (by decide) (by decide) (by decide) (by decide)).trans ((ms_c e10 (by decide)).trans ((ms_c e8 (by decide)).trans ((ms_c e6 (by decide)).trans ((ms_c e4 (by decide)).trans (ms_c e2 (by decide)))))))) hp4)
                      have hy121 := hc_cr hy119 (hk2 (bd_le_hi (bd_le_lo (bd_any at0) (h19 c21) (bd_c (v := 0) (lo := 0) (hi := 0) (by decide))) (h20 c21) (bd_sub (l := (-1)) (h := 1) (hp3 0 (by decide)).1 (bd_c (v := 1) (lo := 1) (hi := 1) (by decide)) (by decide)))) (fr98 167 (by decide)) ((ms_c e38 (by decide)).trans ((fr32 168 (by decide) (by decide) (by decide) (by decide) (by decide)).trans ((ms_c e10 (by decide)).trans ((ms_c e8 (by decide)).trans ((ms_c e6 (by decide)).trans ((ms_c e4 (by decide)).trans (ms_c e2 (by decide)))))))) (rcf_t (ms_c e38 (by decide)) (h31 c34)) hp5 (fun j hj => (ms_i e38 hj).trans (congrFun ((fr32 167 (by decide) (by decide) (by decide) (by decide) (by decide)).trans ((ms_c e10 (by decide)).trans ((ms_c e8 (by decide)).trans ((ms_c e6 (by decide)).trans ((ms_c e4 (by decide)).trans (ms_c e2 (by decide))))))) j)) (hm_old (ms_e e38))
                      refine J_iconst (v := 0) dX11_text_176 (by decide) ?_
                      refine J_istore (i := 4) (lw := [(4, .int 0), (0, .ref 162), (1, .int 0), (3, .int at0)]) dX11_text_177 (by decide) rfl ?_
                      refine J_iload (i := 4) (j := 0) dX11_text_179 rfl ?_
                      refine J_bipush (v := 37) dX11_text_181 (by decide) ?_
                      refine J_icmp_ge (tgt := 216) dX11_text_183 (by decide) (fun q => absurd q (by decide)) (fun _ => ?_)
                      refine J_iload_n (i := 1) (j := 2) dX11_text_186 rfl rfl ?_
                      refine J_iconst (v := 1) dX11_text_187 (by decide) ?_
                      refine J_icmp_ne (tgt := 216) dX11_text_188 (by decide) (fun _ => ?_) (fun q => absurd q (by decide))
                      refine J_iload_n (i := 3) (j := 3) dX11_text_216 rfl rfl ?_
                      exact J_iret hq dX11_text_217 rfl wlen (Nat.le_refl _) (Nat.le_refl _) ⟨at0, u97, g25, rfl, rfl, (ab_c ((fr98 164 (by decide)).trans ((ms_c e38 (by decide)).trans ((fr32 164 (by decide) (by decide) (by decide) (by decide) (by decide)).trans ((ms_c e10 (by decide)).trans (ms_c e8 (by decide)))))) (ab_s e6 (ab_c ((ms_c e4 (by decide)).trans (ms_c e2 (by decide))) hp0) (bd_w (l := 0) (h := 600) (bd_c (v := 0) (lo := 0) (hi := 0) (by decide)) (by decide)))), ab99, (ab_c ((fr98 169 (by decide)).trans ((ms_c e38 (by decide)).trans ((fr32 169 (by decide) (by decide) (by decide) (by decide) (by decide)).trans ((ms_c e10 (by decide)).trans ((ms_c e8 (by decide)).trans ((ms_c e6 (by decide)).trans ((ms_c e4 (by decide)).trans (ms_c e2 (by decide))))))))) hp2), (my_c (fr98 167 (by decide)) (my_s0 e38 (bd_add (l := 0) (h := 2) (hp3 0 (by decide)).1 (bd_c (v := 0) (lo := 0) (hi := 0) (by decide)) (by decide)) (my_c ((fr32 167 (by decide) (by decide) (by decide) (by decide) (by decide)).trans ((ms_c e10 (by decide)).trans ((ms_c e8 (by decide)).trans ((ms_c e6 (by decide)).trans ((ms_c e4 (by decide)).trans (ms_c e2 (by decide))))))) hp3))), hy120, hy121, (pl_c ((fr98 169 (by decide)).trans ((ms_c e38 (by decide)).trans ((fr32 169 (by decide) (by decide) (by decide) (by decide) (by decide)).trans ((ms_c e10 (by decide)).trans ((ms_c e8 (by decide)).trans ((ms_c e6 (by decide)).trans ((ms_c e4 (by decide)).trans (ms_c e2 (by decide))))))))) hp6), (bd_r ((congrFun (fr98 162 (by decide)) 12).trans (congrFun (ms_c e38 (by decide)) 12)) h27), (bd_r ((congrFun (fr98 162 (by decide)) 17).trans (congrFun (ms_c e38 (by decide)) 17)) h28), (ab_c ((fr98 171 (by decide)).trans (ms_c e38 (by decide))) h29), (ab_c ((fr98 170 (by decide)).trans (ms_c e38 (by decide))) (h30).1), (fun c k0_ k1_ k2_ k3_ k4_ k5_ k6_ k7_ k8_ => ((fr98 c k5_).trans ((ms_c e38 k4_).trans ((fr32 c k0_ k2_ k3_ k7_ k8_).trans ((ms_c e10 k3_).trans ((ms_c e8 k2_).trans ((ms_c e6 k1_).trans ((ms_c e4 k0_).trans (ms_c e2 k0_))))))))), (fun j k0_ k8_ k9_ k10_ k11_ k12_ k14_ k15_ k16_ k17_ k18_ => ((congrFun (fr98 162 (by decide)) j).trans ((congrFun (ms_c e38 (by decide)) j).trans ((fc33 j k8_ k10_ k11_ k12_ k14_ k15_ k16_ k17_ k18_).trans ((congrFun (ms_c e10 (by decide)) j).trans ((congrFun (ms_c e8 (by decide)) j).trans ((congrFun (ms_c e6 (by decide)) j).trans ((ms_i e4 k9_).trans (ms_i e2 k0_)))))))))⟩
                    · refine J_iload_n (i := 1) (j := 1) dX11_text_146 rfl rfl ?_
                      refine J_if_ne (tgt := 176) dX11_text_147 (by decide) (fun q => absurd (by decide) q) (fun _ => ?_)
                      refine J_aload_n (i := 0) (j := 0) dX11_text_150 rfl rfl ?_
                      refine J_get (C := RX11) (T := TX11) (Z := 43) (ci := 11) (f := 6) dX11_text_151 inG11 rfl (by decide) k1270 wc_162 rfl ?_
                      refine J_sipush (v := 157) dX11_text_154 (by decide) ?_
                      refine J_iload_n (i := 3) (j := 2) dX11_text_157 rfl rfl ?_
                      refine J_imul dX11_text_158 ?_
                      refine J_iload (i := 4) (j := 3) dX11_text_159 rfl ?_
                      refine J_iadd dX11_text_161 ?_
                      refine J_aload_n (i := 0) (j := 0) dX11_text_162 rfl rfl ?_
                      refine J_get (C := RX11) (T := TX11) (Z := 43) (ci := 11) (f := 19) dX11_text_163 inG11 rfl (by decide) k1283 wc_162 rfl ?_
                      refine J_iload (i := 4) (j := 3) dX11_text_166 rfl ?_
                      refine J_iald dX11_text_168 wc_170 (vin (bd_lt_hi bw96 (i_nle c115) (bd_c (v := 157) (lo := 157) (hi := 157) (by decide))) (by decide)) ?_
                      refine J_topi (fun v122 qv122 => ?_)
                      obtain ⟨u123, e124⟩ : ∃ z, z = ms u97 168 ((((157 : Int32) * at0) + w96).toNatClampNeg) v122 := ⟨_, rfl⟩
                      refine J_iast dX11_text_169 wc_168 (vin (bd_add (l := 0) (h := 313) (bd_mul (l := 0) (h := 157) (bd_c (v := 157) (lo := 157) (hi := 157) (by decide)) (bd_le_hi (bd_le_lo (bd_any at0) (h19 c21) (bd_c (v := 0) (lo := 0) (hi := 0) (by decide))) (h20 c21) (bd_sub (l := (-1)) (h := 1) (hp3 0 (by decide)).1 (bd_c (v := 1) (lo := 1) (hi := 1) (by decide)) (by decide))) (by decide)) (bd_lt_hi bw96 (i_nle c115) (bd_c (v := 157) (lo := 157) (hi := 157) (by decide))) (by decide)) (by decide)) (ws e124 wk_168 rfl) ?_
                      refine J_iinc (i := 4) (j := 3) (v := (w96 + 1)) (lw := [(4, .int (w96 + 1)), (0, .ref 162), (1, .int 0), (3, .int at0)]) dX11_text_170 rfl rfl (by decide) rfl ?_
                      refine J_goto (tgt := 138) dX11_text_173 (by decide) ?_
                      refine J_lv [1, 2, 3, 0] rfl ?_
                      exact ih112 (w96 + 1) u123 (bd_w (l := 0) (h := 157) (bd_add (l := 1) (h := 157) (bd_lt_hi bw96 (i_nle c115) (bd_c (v := 157) (lo := 157) (hi := 157) (by decide))) (bd_c (v := 1) (lo := 1) (hi := 1) (by decide)) (by decide)) (by decide)) (fun c k0_ => ((ms_c e124 k0_).trans (fr98 c k0_))) (ab_s e124 ab99 (bd_r qv122 ((ab_c ((fr98 170 (by decide)).trans (ms_c e38 (by decide))) (h30).1) w96.toNatClampNeg))) (cri_s (n := 157) (N := 157) hI114 rfl (by decide) (bd_w (l := 0) (h := 3) (bd_le_hi (bd_le_lo (bd_any at0) (h19 c21) (bd_c (v := 0) (lo := 0) (hi := 0) (by decide))) (h20 c21) (bd_sub (l := (-1)) (h := 1) (hp3 0 (by decide)).1 (bd_c (v := 1) (lo := 1) (hi := 1) (by decide)) (by decide))) (by decide)) (bd_w (l := 0) (h := 600) (bd_lt_hi bw96 (i_nle c115) (bd_c (v := 157) (lo := 157) (hi := 157) (by decide))) (by decide)) e124 (qv122.trans (congrFun (fr98 170 (by decide)) _))) (mu_up 1 bw96 rfl (by decide) (bd_w (l := 1) (h := 157) (bd_add (l := 1) (h := 157) (bd_lt_hi bw96 (i_nle c115) (bd_c (v := 157) (lo := 157) (hi := 157) (by decide))) (bd_c (v := 1) (lo := 1) (hi := 1) (by decide)) (by decide)) (by decide)) hm113)
                refine J_lv [2, 3, 1, 0] rfl ?_
                exact lp110 _ (0 : Int32) u37 (bd_w (l := 0) (h := 157) (bd_c (v := 0) (lo := 0) (hi := 0) (by decide)) (by decide)) (fun c k0_ => rfl) (ab_c ((ms_c e38 (by decide)).trans ((fr32 168 (by decide) (by decide) (by decide) (by decide) (by decide)).trans ((ms_c e10 (by decide)).trans ((ms_c e8 (by decide)).trans ((ms_c e6 (by decide)).trans ((ms_c e4 (by decide)).trans (ms_c e2 (by decide)))))))) hp1) (cri_0 rfl) (Nat.lt_succ_self _)
              · exact (bd_neq c36 (bd_le_hi (bd_le_lo (bd_any at0) (h19 c21) (bd_c (v := 0) (lo := 0) (hi := 0) (by decide))) (h20 c21) (bd_sub (l := (-1)) (h := 1) (hp3 0 (by decide)).1 (bd_c (v := 1) (lo := 1) (hi := 1) (by decide)) (by decide))) (bd_c (v := (-1)) (lo := (-1)) (hi := (-1)) (by decide)) (by decide)).elim
            · exact (bd_neq c35 (bd_le_hi (bd_le_lo (bd_any at0) (h19 c21) (bd_c (v := 0) (lo := 0) (hi := 0) (by decide))) (h20 c21) (bd_sub (l := (-1)) (h := 1) (hp3 0 (by decide)).1 (bd_c (v := 1) (lo := 1) (hi := 1) (by decide)) (by decide))) (bd_c (v := (-1)) (lo := (-1)) (hi := (-1)) (by decide)) (by decide)).elim
          · refine J_iconst (v := (-1)) dX11_text_98 (by decide) ?_
            exact J_iret hq dX11_text_99 rfl wlen (Nat.le_refl _) (Nat.le_refl _) ⟨((-1) : Int32), u24, g25, rfl, rfl, (ab_c ((fr32 164 (by decide) (by decide) (by decide) (by decide) (by decide)).trans ((ms_c e10 (by decide)).trans (ms_c e8 (by decide)))) (ab_s e6 (ab_c ((ms_c e4 (by decide)).trans (ms_c e2 (by decide))) hp0) (bd_w (l := 0) (h := 600) (bd_c (v := 0) (lo := 0) (hi := 0) (by decide)) (by decide)))), (ab_c ((fr32 168 (by decide) (by decide) (by decide) (by decide) (by decide)).trans ((ms_c e10 (by decide)).trans ((ms_c e8 (by decide)).trans ((ms_c e6 (by decide)).trans ((ms_c e4 (by decide)).trans (ms_c e2 (by decide))))))) hp1), (ab_c ((fr32 169 (by decide) (by decide) (by decide) (by decide) (by decide)).trans ((ms_c e10 (by decide)).trans ((ms_c e8 (by decide)).trans ((ms_c e6 (by decide)).trans ((ms_c e4 (by decide)).trans (ms_c e2 (by decide))))))) hp2), (my_c ((fr32 167 (by decide) (by decide) (by decide) (by decide) (by decide)).trans ((ms_c e10 (by decide)).trans ((ms_c e8 (by decide)).trans ((ms_c e6 (by decide)).trans ((ms_c e4 (by decide)).trans (ms_c e2 (by decide))))))) hp3), (hd_c ((fr32 168 (by decide) (by decide) (by decide) (by decide) (by decide)).trans ((ms_c e10 (by decide)).trans ((ms_c e8 (by decide)).trans ((ms_c e6 (by decide)).trans ((ms_c e4 (by decide)).trans (ms_c e2 (by decide))))))) hp4), (hc_c ((fr32 167 (by decide) (by decide) (by decide) (by decide) (by decide)).trans ((ms_c e10 (by decide)).trans ((ms_c e8 (by decide)).trans ((ms_c e6 (by decide)).trans ((ms_c e4 (by decide)).trans (ms_c e2 (by decide))))))) ((fr32 168 (by decide) (by decide) (by decide) (by decide) (by decide)).trans ((ms_c e10 (by decide)).trans ((ms_c e8 (by decide)).trans ((ms_c e6 (by decide)).trans ((ms_c e4 (by decide)).trans (ms_c e2 (by decide))))))) hp5), (pl_c ((fr32 169 (by decide) (by decide) (by decide) (by decide) (by decide)).trans ((ms_c e10 (by decide)).trans ((ms_c e8 (by decide)).trans ((ms_c e6 (by decide)).trans ((ms_c e4 (by decide)).trans (ms_c e2 (by decide))))))) hp6), h27, h28, h29, (h30).1, (fun c k0_ k1_ k2_ k3_ k4_ k5_ k6_ k7_ k8_ => ((fr32 c k0_ k2_ k3_ k7_ k8_).trans ((ms_c e10 k3_).trans ((ms_c e8 k2_).trans ((ms_c e6 k1_).trans ((ms_c e4 k0_).trans (ms_c e2 k0_))))))), (fun j k0_ k8_ k9_ k10_ k11_ k12_ k14_ k15_ k16_ k17_ k18_ => ((fc33 j k8_ k10_ k11_ k12_ k14_ k15_ k16_ k17_ k18_).trans ((congrFun (ms_c e10 (by decide)) j).trans ((congrFun (ms_c e8 (by decide)) j).trans ((congrFun (ms_c e6 (by decide)) j).trans ((ms_i e4 k9_).trans (ms_i e2 k0_)))))))⟩
        · refine J_bipush (v := (-2)) dX11_text_87 (by decide) ?_
          exact J_iret hq dX11_text_89 rfl wlen (Nat.le_refl _) (Nat.le_refl _) ⟨((-2) : Int32), u9, g, rfl, rfl, (ab_c ((ms_c e10 (by decide)).trans (ms_c e8 (by decide))) (ab_s e6 (ab_c ((ms_c e4 (by decide)).trans (ms_c e2 (by decide))) hp0) (bd_w (l := 0) (h := 600) (bd_c (v := 0) (lo := 0) (hi := 0) (by decide)) (by decide)))), (ab_c ((ms_c e10 (by decide)).trans ((ms_c e8 (by decide)).trans ((ms_c e6 (by decide)).trans ((ms_c e4 (by decide)).trans (ms_c e2 (by decide)))))) hp1), (ab_c ((ms_c e10 (by decide)).trans ((ms_c e8 (by decide)).trans ((ms_c e6 (by decide)).trans ((ms_c e4 (by decide)).trans (ms_c e2 (by decide)))))) hp2), (my_c ((ms_c e10 (by decide)).trans ((ms_c e8 (by decide)).trans ((ms_c e6 (by decide)).trans ((ms_c e4 (by decide)).trans (ms_c e2 (by decide)))))) hp3), (hd_c ((ms_c e10 (by decide)).trans ((ms_c e8 (by decide)).trans ((ms_c e6 (by decide)).trans ((ms_c e4 (by decide)).trans (ms_c e2 (by decide)))))) hp4), (hc_c ((ms_c e10 (by decide)).trans ((ms_c e8 (by decide)).trans ((ms_c e6 (by decide)).trans ((ms_c e4 (by decide)).trans (ms_c e2 (by decide)))))) ((ms_c e10 (by decide)).trans ((ms_c e8 (by decide)).trans ((ms_c e6 (by decide)).trans ((ms_c e4 (by decide)).trans (ms_c e2 (by decide)))))) hp5), (pl_c ((ms_c e10 (by decide)).trans ((ms_c e8 (by decide)).trans ((ms_c e6 (by decide)).trans ((ms_c e4 (by decide)).trans (ms_c e2 (by decide)))))) hp6), (bd_r ((congrFun (ms_c e10 (by decide)) 12).trans ((congrFun (ms_c e8 (by decide)) 12).trans ((congrFun (ms_c e6 (by decide)) 12).trans ((ms_i e4 (by decide)).trans (ms_i e2 (by decide)))))) hp7), (bd_r ((congrFun (ms_c e10 (by decide)) 17).trans ((congrFun (ms_c e8 (by decide)) 17).trans ((congrFun (ms_c e6 (by decide)) 17).trans ((ms_i e4 (by decide)).trans (ms_i e2 (by decide)))))) hp8), (ab_c ((ms_c e10 (by decide)).trans ((ms_c e8 (by decide)).trans ((ms_c e6 (by decide)).trans ((ms_c e4 (by decide)).trans (ms_c e2 (by decide)))))) hp9), (ab_c ((ms_c e10 (by decide)).trans ((ms_c e8 (by decide)).trans ((ms_c e6 (by decide)).trans ((ms_c e4 (by decide)).trans (ms_c e2 (by decide)))))) hp10), (fun c k0_ k1_ k2_ k3_ k4_ k5_ k6_ k7_ k8_ => ((ms_c e10 k3_).trans ((ms_c e8 k2_).trans ((ms_c e6 k1_).trans ((ms_c e4 k0_).trans (ms_c e2 k0_)))))), (fun j k0_ k8_ k9_ k10_ k11_ k12_ k14_ k15_ k16_ k17_ k18_ => ((congrFun (ms_c e10 (by decide)) j).trans ((congrFun (ms_c e8 (by decide)) j).trans ((congrFun (ms_c e6 (by decide)) j).trans ((ms_i e4 k9_).trans (ms_i e2 k0_))))))⟩
      · refine J_aload_n (i := 0) (j := 0) dX11_text_50 rfl rfl ?_
        refine J_get (C := RX11) (T := TX11) (Z := 43) (ci := 11) (f := 5) dX11_text_51 inG11 rfl (by decide) k1269 wc_162 rfl ?_
        refine J_iload_n (i := 1) (j := 1) dX11_text_54 rfl rfl ?_
        refine J_iald dX11_text_55 wc_167 (vin (bd_c (v := 0) (lo := 0) (hi := 0) (by decide)) (by decide)) ?_
        refine J_ci (v := u 167 0) ((congrFun (ms_c e10 (by decide)) 0).trans ((congrFun (ms_c e8 (by decide)) 0).trans ((congrFun (ms_c e6 (by decide)) 0).trans ((congrFun (ms_c e4 (by decide)) 0).trans (congrFun (ms_c e2 (by decide)) 0))))) ?_
        refine J_iload_n (i := 1) (j := 1) dX11_text_56 rfl rfl ?_
        refine J_if_ne (tgt := 64) dX11_text_57 (by decide) (fun q => absurd (by decide) q) (fun _ => ?_)
        refine J_iconst (v := 2) dX11_text_60 (by decide) ?_
        refine J_goto (tgt := 65) dX11_text_61 (by decide) ?_
        refine J_icmp_ne (tgt := 90) dX11_text_65 (by decide) (fun c125 => ?_) (fun c125 => ?_)
        · refine J_aload_n (i := 0) (j := 0) dX11_text_90 rfl rfl ?_
          refine J_iload_n (i := 1) (j := 1) dX11_text_91 rfl rfl ?_
          refine J_callV (As := [.int 0]) (rest := []) dX11_text_92 (c_M_readText0 (d := 6) (u := u9) (g := g) (ex := ex)   (by decide) (bd_r ((congrFun (ms_c e10 (by decide)) 9).trans ((congrFun (ms_c e8 (by decide)) 9).trans ((congrFun (ms_c e6 (by decide)) 9).trans (ms_e e4)))) (hp0 0)) (bd_r ((congrFun (ms_c e10 (by decide)) 12).trans ((congrFun (ms_c e8 (by decide)) 12).trans ((congrFun (ms_c e6 (by decide)) 12).trans ((ms_i e4 (by decide)).trans (ms_i e2 (by decide)))))) hp7) (bd_r ((congrFun (ms_c e10 (by decide)) 17).trans ((congrFun (ms_c e8 (by decide)) 17).trans ((congrFun (ms_c e6 (by decide)) 17).trans ((ms_i e4 (by decide)).trans (ms_i e2 (by decide)))))) hp8) (ab_c ((ms_c e10 (by decide)).trans ((ms_c e8 (by decide)).trans ((ms_c e6 (by decide)).trans ((ms_c e4 (by decide)).trans (ms_c e2 (by decide)))))) hp9) (ab_c ((ms_c e10 (by decide)).trans ((ms_c e8 (by decide)).trans ((ms_c e6 (by decide)).trans ((ms_c e4 (by decide)).trans (ms_c e2 (by decide)))))) hp10)) hq.n k1413 k1415 k37 wc_162 rfl rfl k97 k1416 np_X11_readText (Nat.le_trans (by decide) hd) (by decide) (Nat.le_refl _) (Nat.le_refl _) wlen rfl (Nat.le_of_ble_eq_true rfl) (fun r_ h_ p126 => ?_)
          obtain ⟨t127, u128, g129, rfl, rfl, h130, h131, h132, h133, h134, h135, fr136, fc137⟩ := p126
          refine J_ifB_ne (tgt := 100) dX11_text_95 (by decide) (fun c138 => ?_) (fun c138 => ?_)
          · refine J_iload_n (i := 2) (j := 2) dX11_text_100 rfl rfl ?_
            refine J_iconst (v := (-1)) dX11_text_101 (by decide) ?_
            refine J_icmp_ne (tgt := 114) dX11_text_102 (by decide) (fun c139 => ?_) (fun c139 => ?_)
            · exact (bd_no (bd_ne_lo (bd_r c16 (bd_c (v := (-1)) (lo := (-1)) (hi := (-1)) (by decide))) c139 (by decide)) (by decide)).elim
            · refine J_aload_n (i := 0) (j := 0) dX11_text_105 rfl rfl ?_
              refine J_get (C := RX11) (T := TX11) (Z := 43) (ci := 11) (f := 5) dX11_text_106 inG11 rfl (by decide) k1269 wc_162 rfl ?_
              refine J_iload_n (i := 1) (j := 1) dX11_text_109 rfl rfl ?_
              refine J_iald dX11_text_110 wc_167 (vin (bd_c (v := 0) (lo := 0) (hi := 0) (by decide)) (by decide)) ?_
              refine J_ci (v := u 167 0) ((congrFun (fr136 167 (by decide) (by decide) (by decide) (by decide) (by decide)) 0).trans ((congrFun (ms_c e10 (by decide)) 0).trans ((congrFun (ms_c e8 (by decide)) 0).trans ((congrFun (ms_c e6 (by decide)) 0).trans ((congrFun (ms_c e4 (by decide)) 0).trans (congrFun (ms_c e2 (by decide)) 0)))))) ?_
              refine J_goto (tgt := 115) dX11_text_111 (by decide) ?_
              refine J_istore_n (i := 3) (lw := [(3, .int (u 167 0)), (0, .ref 162), (1, .int 0), (2, .int at0)]) dX11_text_115 rfl (by decide) rfl ?_
              refine J_aload_n (i := 0) (j := 1) dX11_text_116 rfl rfl ?_
              refine J_get (C := RX11) (T := TX11) (Z := 43) (ci := 11) (f := 5) dX11_text_117 inG11 rfl (by decide) k1269 wc_162 rfl ?_
              refine J_iload_n (i := 1) (j := 2) dX11_text_120 rfl rfl ?_
              refine J_dup2_11 dX11_text_121 rfl rfl ?_
              refine J_iald dX11_text_122 wc_167 (vin (bd_c (v := 0) (lo := 0) (hi := 0) (by decide)) (by decide)) ?_
              refine J_ci (v := u 167 0) ((congrFun (fr136 167 (by decide) (by decide) (by decide) (by decide) (by decide)) 0).trans ((congrFun (ms_c e10 (by decide)) 0).trans ((congrFun (ms_c e8 (by decide)) 0).trans ((congrFun (ms_c e6 (by decide)) 0).trans ((congrFun (ms_c e4 (by decide)) 0).trans (congrFun (ms_c e2 (by decide)) 0)))))) ?_
              refine J_iload_n (i := 2) (j := 3) dX11_text_123 rfl rfl ?_
              refine J_iconst (v := (-1)) dX11_text_124 (by decide) ?_
              refine J_icmp_ne (tgt := 132) dX11_text_125 (by decide) (fun c140 => ?_) (fun c140 => ?_)
              · exact (bd_no (bd_ne_lo (bd_r c16 (bd_c (v := (-1)) (lo := (-1)) (hi := (-1)) (by decide))) c140 (by decide)) (by decide)).elim
              · refine J_iconst (v := 1) dX11_text_128 (by decide) ?_
                refine J_goto (tgt := 133) dX11_text_129 (by decide) ?_
                refine J_iadd dX11_text_133 ?_
                obtain ⟨u141, e142⟩ : ∃ z, z = ms u128 167 0 ((u 167 0) + 1) := ⟨_, rfl⟩
                refine J_iast dX11_text_134 wc_167 (vin (bd_c (v := 0) (lo := 0) (hi := 0) (by decide)) (by decide)) (ws e142 wk_167 rfl) ?_
                refine J_iconst (v := 0) dX11_text_135 (by decide) ?_
                refine J_istore (i := 4) (lw := [(4, .int 0), (3, .int (u 167 0)), (0, .ref 162), (1, .int 0), (2, .int at0)]) dX11_text_136 (by decide) rfl ?_
                have lp214 : ∀ (n215 : Nat) (w200 : Int32) (u201 : Nat → Nat → Int32), Bd 0 157 w200 → (∀ c, c ≠ 168 → u201 c = u141 c) → AB u201 168 (-1) 999 → CRI u201 u141 168 157 (u 167 0).toInt.toNat w200.toInt.toNat → (157 - w200.toInt).toNat < n215 → J x yX11_text cX11_text 5 (some .int) d 0 0 (Wd u g ex).length 138 [(0, .ref 162), (1, .int 0), (3, .int (u 167 0)), (4, .int w200)] [] (Wd u201 g129 ex) 0 0 := by
                  intro n215
                  induction n215 with
                  | zero => intro w200 u201 bw200 fr202 ab203 hI218 hm217; exact absurd hm217 (Nat.not_lt_zero _)
                  | succ n215 ih216 =>
                    intro w200 u201 bw200 fr202 ab203 hI218 hm217
                    refine J_iload (i := 4) (j := 3) dX11_text_138 rfl ?_
                    refine J_sipush (v := 157) dX11_text_140 (by decide) ?_
                    refine J_icmp_ge (tgt := 176) dX11_text_143 (by decide) (fun c219 => ?_) (fun c219 => ?_)
                    · have hy223 := cri_e hI218 (bd_le_lo bw200 c219 (bd_c (v := 157) (lo := 157) (hi := 157) (by decide))) (by decide)
                      have hy224 := hd_cr hy223 (rh_c (ms_c e142 (by decide)) h134) (hd_c ((ms_c e142 (by decide)).trans ((fr136 168 (by decide) (by decide) (by decide) (by decide) (by decide)).trans ((ms_c e10 (by decide)).trans ((ms_c e8 (by decide)).trans ((ms_c e6 (by decide)).trans ((ms_c e4 (by decide)).trans (ms_c e2 (by decide)))))))) hp4)
                      have hy225 := hc_cr hy223 (hk2 (bd_ne_hi (hp3 0 (by decide)).1 c125 (by decide))) (fr202 167 (by decide)) ((ms_c e142 (by decide)).trans ((fr136 168 (by decide) (by decide) (by decide) (by decide) (by decide)).trans ((ms_c e10 (by decide)).trans ((ms_c e8 (by decide)).trans ((ms_c e6 (by decide)).trans ((ms_c e4 (by decide)).trans (ms_c e2 (by decide)))))))) (rcf_t (ms_c e142 (by decide)) (h135 c138)) hp5 (fun j hj => (ms_i e142 hj).trans (congrFun ((fr136 167 (by decide) (by decide) (by decide) (by decide) (by decide)).trans ((ms_c e10 (by decide)).trans ((ms_c e8 (by decide)).trans ((ms_c e6 (by decide)).trans ((ms_c e4 (by decide)).trans (ms_c e2 (by decide))))))) j)) (hm_new (ms_e e142) (bd_w (l := 0) (h := 2) (bd_ne_hi (hp3 0 (by decide)).1 c125 (by decide)) (by decide)))
                      refine J_iconst (v := 0) dX11_text_176 (by decide) ?_
                      refine J_istore (i := 4) (lw := [(4, .int 0), (0, .ref 162), (1, .int 0), (3, .int (u 167 0))]) dX11_text_177 (by decide) rfl ?_
                      refine J_iload (i := 4) (j := 0) dX11_text_179 rfl ?_
                      refine J_bipush (v := 37) dX11_text_181 (by decide) ?_
                      refine J_icmp_ge (tgt := 216) dX11_text_183 (by decide) (fun q => absurd q (by decide)) (fun _ => ?_)
                      refine J_iload_n (i := 1) (j := 2) dX11_text_186 rfl rfl ?_
                      refine J_iconst (v := 1) dX11_text_187 (by decide) ?_
                      refine J_icmp_ne (tgt := 216) dX11_text_188 (by decide) (fun _ => ?_) (fun q => absurd q (by decide))
                      refine J_iload_n (i := 3) (j := 3) dX11_text_216 rfl rfl ?_
                      exact J_iret hq dX11_text_217 rfl wlen (Nat.le_refl _) (Nat.le_refl _) ⟨(u 167 0), u201, g129, rfl, rfl, (ab_c ((fr202 164 (by decide)).trans ((ms_c e142 (by decide)).trans ((fr136 164 (by decide) (by decide) (by decide) (by decide) (by decide)).trans ((ms_c e10 (by decide)).trans (ms_c e8 (by decide)))))) (ab_s e6 (ab_c ((ms_c e4 (by decide)).trans (ms_c e2 (by decide))) hp0) (bd_w (l := 0) (h := 600) (bd_c (v := 0) (lo := 0) (hi := 0) (by decide)) (by decide)))), ab203, (ab_c ((fr202 169 (by decide)).trans ((ms_c e142 (by decide)).trans ((fr136 169 (by decide) (by decide) (by decide) (by decide) (by decide)).trans ((ms_c e10 (by decide)).trans ((ms_c e8 (by decide)).trans ((ms_c e6 (by decide)).trans ((ms_c e4 (by decide)).trans (ms_c e2 (by decide))))))))) hp2), (my_c (fr202 167 (by decide)) (my_s0 e142 (bd_w (l := 0) (h := 2) (bd_add (l := 1) (h := 2) (bd_ne_hi (hp3 0 (by decide)).1 c125 (by decide)) (bd_c (v := 1) (lo := 1) (hi := 1) (by decide)) (by decide)) (by decide)) (my_c ((fr136 167 (by decide) (by decide) (by decide) (by decide) (by decide)).trans ((ms_c e10 (by decide)).trans ((ms_c e8 (by decide)).trans ((ms_c e6 (by decide)).trans ((ms_c e4 (by decide)).trans (ms_c e2 (by decide))))))) hp3))), hy224, hy225, (pl_c ((fr202 169 (by decide)).trans ((ms_c e142 (by decide)).trans ((fr136 169 (by decide) (by decide) (by decide) (by decide) (by decide)).trans ((ms_c e10 (by decide)).trans ((ms_c e8 (by decide)).trans ((ms_c e6 (by decide)).trans ((ms_c e4 (by decide)).trans (ms_c e2 (by decide))))))))) hp6), (bd_r ((congrFun (fr202 162 (by decide)) 12).trans (congrFun (ms_c e142 (by decide)) 12)) h131), (bd_r ((congrFun (fr202 162 (by decide)) 17).trans (congrFun (ms_c e142 (by decide)) 17)) h132), (ab_c ((fr202 171 (by decide)).trans (ms_c e142 (by decide))) h133), (ab_c ((fr202 170 (by decide)).trans (ms_c e142 (by decide))) (h134).1), (fun c k0_ k1_ k2_ k3_ k4_ k5_ k6_ k7_ k8_ => ((fr202 c k5_).trans ((ms_c e142 k4_).trans ((fr136 c k0_ k2_ k3_ k7_ k8_).trans ((ms_c e10 k3_).trans ((ms_c e8 k2_).trans ((ms_c e6 k1_).trans ((ms_c e4 k0_).trans (ms_c e2 k0_))))))))), (fun j k0_ k8_ k9_ k10_ k11_ k12_ k14_ k15_ k16_ k17_ k18_ => ((congrFun (fr202 162 (by decide)) j).trans ((congrFun (ms_c e142 (by decide)) j).trans ((fc137 j k8_ k10_ k11_ k12_ k14_ k15_ k16_ k17_ k18_).trans ((congrFun (ms_c e10 (by decide)) j).trans ((congrFun (ms_c e8 (by decide)) j).trans ((congrFun (ms_c e6 (by decide)) j).trans ((ms_i e4 k9_).trans (ms_i e2 k0_)))))))))⟩
                    · refine J_iload_n (i := 1) (j := 1) dX11_text_146 rfl rfl ?_
                      refine J_if_ne (tgt := 176) dX11_text_147 (by decide) (fun q => absurd (by decide) q) (fun _ => ?_)
                      refine J_aload_n (i := 0) (j := 0) dX11_text_150 rfl rfl ?_
                      refine J_get (C := RX11) (T := TX11) (Z := 43) (ci := 11) (f := 6) dX11_text_151 inG11 rfl (by decide) k1270 wc_162 rfl ?_
                      refine J_sipush (v := 157) dX11_text_154 (by decide) ?_
                      refine J_iload_n (i := 3) (j := 2) dX11_text_157 rfl rfl ?_
                      refine J_imul dX11_text_158 ?_
                      refine J_iload (i := 4) (j := 3) dX11_text_159 rfl ?_
                      refine J_iadd dX11_text_161 ?_
                      refine J_aload_n (i := 0) (j := 0) dX11_text_162 rfl rfl ?_
                      refine J_get (C := RX11) (T := TX11) (Z := 43) (ci := 11) (f := 19) dX11_text_163 inG11 rfl (by decide) k1283 wc_162 rfl ?_
                      refine J_iload (i := 4) (j := 3) dX11_text_166 rfl ?_
                      refine J_iald dX11_text_168 wc_170 (vin (bd_lt_hi bw200 (i_nle c219) (bd_c (v := 157) (lo := 157) (hi := 157) (by decide))) (by decide)) ?_
                      refine J_topi (fun v226 qv226 => ?_)
                      obtain ⟨u227, e228⟩ : ∃ z, z = ms u201 168 ((((157 : Int32) * (u 167 0)) + w200).toNatClampNeg) v226 := ⟨_, rfl⟩
                      refine J_iast dX11_text_169 wc_168 (vin (bd_add (l := 0) (h := 313) (bd_mul (l := 0) (h := 157) (bd_c (v := 157) (lo := 157) (hi := 157) (by decide)) (bd_ne_hi (hp3 0 (by decide)).1 c125 (by decide)) (by decide)) (bd_lt_hi bw200 (i_nle c219) (bd_c (v := 157) (lo := 157) (hi := 157) (by decide))) (by decide)) (by decide)) (ws e228 wk_168 rfl) ?_
                      refine J_iinc (i := 4) (j := 3) (v := (w200 + 1)) (lw := [(4, .int (w200 + 1)), (0, .ref 162), (1, .int 0), (3, .int (u 167 0))]) dX11_text_170 rfl rfl (by decide) rfl ?_
                      refine J_goto (tgt := 138) dX11_text_173 (by decide) ?_
                      refine J_lv [1, 2, 3, 0] rfl ?_
                      exact ih216 (w200 + 1) u227 (bd_w (l := 0) (h := 157) (bd_add (l := 1) (h := 157) (bd_lt_hi bw200 (i_nle c219) (bd_c (v := 157) (lo := 157) (hi := 157) (by decide))) (bd_c (v := 1) (lo := 1) (hi := 1) (by decide)) (by decide)) (by decide)) (fun c k0_ => ((ms_c e228 k0_).trans (fr202 c k0_))) (ab_s e228 ab203 (bd_r qv226 ((ab_c ((fr202 170 (by decide)).trans (ms_c e142 (by decide))) (h134).1) w200.toNatClampNeg))) (cri_s (n := 157) (N := 157) hI218 rfl (by decide) (bd_w (l := 0) (h := 3) (bd_ne_hi (hp3 0 (by decide)).1 c125 (by decide)) (by decide)) (bd_w (l := 0) (h := 600) (bd_lt_hi bw200 (i_nle c219) (bd_c (v := 157) (lo := 157) (hi := 157) (by decide))) (by decide)) e228 (qv226.trans (congrFun (fr202 170 (by decide)) _))) (mu_up 1 bw200 rfl (by decide) (bd_w (l := 1) (h := 157) (bd_add (l := 1) (h := 157) (bd_lt_hi bw200 (i_nle c219) (bd_c (v := 157) (lo := 157) (hi := 157) (by decide))) (bd_c (v := 1) (lo := 1) (hi := 1) (by decide)) (by decide)) (by decide)) hm217)
                refine J_lv [2, 3, 1, 0] rfl ?_
                exact lp214 _ (0 : Int32) u141 (bd_w (l := 0) (h := 157) (bd_c (v := 0) (lo := 0) (hi := 0) (by decide)) (by decide)) (fun c k0_ => rfl) (ab_c ((ms_c e142 (by decide)).trans ((fr136 168 (by decide) (by decide) (by decide) (by decide) (by decide)).trans ((ms_c e10 (by decide)).trans ((ms_c e8 (by decide)).trans ((ms_c e6 (by decide)).trans ((ms_c e4 (by decide)).trans (ms_c e2 (by decide)))))))) hp1) (cri_0 rfl) (Nat.lt_succ_self _)
          · refine J_iconst (v := (-1)) dX11_text_98 (by decide) ?_
            exact J_iret hq dX11_text_99 rfl wlen (Nat.le_refl _) (Nat.le_refl _) ⟨((-1) : Int32), u128, g129, rfl, rfl, (ab_c ((fr136 164 (by decide) (by decide) (by decide) (by decide) (by decide)).trans ((ms_c e10 (by decide)).trans (ms_c e8 (by decide)))) (ab_s e6 (ab_c ((ms_c e4 (by decide)).trans (ms_c e2 (by decide))) hp0) (bd_w (l := 0) (h := 600) (bd_c (v := 0) (lo := 0) (hi := 0) (by decide)) (by decide)))), (ab_c ((fr136 168 (by decide) (by decide) (by decide) (by decide) (by decide)).trans ((ms_c e10 (by decide)).trans ((ms_c e8 (by decide)).trans ((ms_c e6 (by decide)).trans ((ms_c e4 (by decide)).trans (ms_c e2 (by decide))))))) hp1), (ab_c ((fr136 169 (by decide) (by decide) (by decide) (by decide) (by decide)).trans ((ms_c e10 (by decide)).trans ((ms_c e8 (by decide)).trans ((ms_c e6 (by decide)).trans ((ms_c e4 (by decide)).trans (ms_c e2 (by decide))))))) hp2), (my_c ((fr136 167 (by decide) (by decide) (by decide) (by decide) (by decide)).trans ((ms_c e10 (by decide)).trans ((ms_c e8 (by decide)).trans ((ms_c e6 (by decide)).trans ((ms_c e4 (by decide)).trans (ms_c e2 (by decide))))))) hp3), (hd_c ((fr136 168 (by decide) (by decide) (by decide) (by decide) (by decide)).trans ((ms_c e10 (by decide)).trans ((ms_c e8 (by decide)).trans ((ms_c e6 (by decide)).trans ((ms_c e4 (by decide)).trans (ms_c e2 (by decide))))))) hp4), (hc_c ((fr136 167 (by decide) (by decide) (by decide) (by decide) (by decide)).trans ((ms_c e10 (by decide)).trans ((ms_c e8 (by decide)).trans ((ms_c e6 (by decide)).trans ((ms_c e4 (by decide)).trans (ms_c e2 (by decide))))))) ((fr136 168 (by decide) (by decide) (by decide) (by decide) (by decide)).trans ((ms_c e10 (by decide)).trans ((ms_c e8 (by decide)).trans ((ms_c e6 (by decide)).trans ((ms_c e4 (by decide)).trans (ms_c e2 (by decide))))))) hp5), (pl_c ((fr136 169 (by decide) (by decide) (by decide) (by decide) (by decide)).trans ((ms_c e10 (by decide)).trans ((ms_c e8 (by decide)).trans ((ms_c e6 (by decide)).trans ((ms_c e4 (by decide)).trans (ms_c e2 (by decide))))))) hp6), h131, h132, h133, (h134).1, (fun c k0_ k1_ k2_ k3_ k4_ k5_ k6_ k7_ k8_ => ((fr136 c k0_ k2_ k3_ k7_ k8_).trans ((ms_c e10 k3_).trans ((ms_c e8 k2_).trans ((ms_c e6 k1_).trans ((ms_c e4 k0_).trans (ms_c e2 k0_))))))), (fun j k0_ k8_ k9_ k10_ k11_ k12_ k14_ k15_ k16_ k17_ k18_ => ((fc137 j k8_ k10_ k11_ k12_ k14_ k15_ k16_ k17_ k18_).trans ((congrFun (ms_c e10 (by decide)) j).trans ((congrFun (ms_c e8 (by decide)) j).trans ((congrFun (ms_c e6 (by decide)) j).trans ((ms_i e4 k9_).trans (ms_i e2 k0_)))))))⟩
        · refine J_goto (tgt := 87) dX11_text_68 (by decide) ?_
          refine J_bipush (v := (-2)) dX11_text_87 (by decide) ?_
          exact J_iret hq dX11_text_89 rfl wlen (Nat.le_refl _) (Nat.le_refl _) ⟨((-2) : Int32), u9, g, rfl, rfl, (ab_c ((ms_c e10 (by decide)).trans (ms_c e8 (by decide))) (ab_s e6 (ab_c ((ms_c e4 (by decide)).trans (ms_c e2 (by decide))) hp0) (bd_w (l := 0) (h := 600) (bd_c (v := 0) (lo := 0) (hi := 0) (by decide)) (by decide)))), (ab_c ((ms_c e10 (by decide)).trans ((ms_c e8 (by decide)).trans ((ms_c e6 (by decide)).trans ((ms_c e4 (by decide)).trans (ms_c e2 (by decide)))))) hp1), (ab_c ((ms_c e10 (by decide)).trans ((ms_c e8 (by decide)).trans ((ms_c e6 (by decide)).trans ((ms_c e4 (by decide)).trans (ms_c e2 (by decide)))))) hp2), (my_c ((ms_c e10 (by decide)).trans ((ms_c e8 (by decide)).trans ((ms_c e6 (by decide)).trans ((ms_c e4 (by decide)).trans (ms_c e2 (by decide)))))) hp3), (hd_c ((ms_c e10 (by decide)).trans ((ms_c e8 (by decide)).trans ((ms_c e6 (by decide)).trans ((ms_c e4 (by decide)).trans (ms_c e2 (by decide)))))) hp4), (hc_c ((ms_c e10 (by decide)).trans ((ms_c e8 (by decide)).trans ((ms_c e6 (by decide)).trans ((ms_c e4 (by decide)).trans (ms_c e2 (by decide)))))) ((ms_c e10 (by decide)).trans ((ms_c e8 (by decide)).trans ((ms_c e6 (by decide)).trans ((ms_c e4 (by decide)).trans (ms_c e2 (by decide)))))) hp5), (pl_c ((ms_c e10 (by decide)).trans ((ms_c e8 (by decide)).trans ((ms_c e6 (by decide)).trans ((ms_c e4 (by decide)).trans (ms_c e2 (by decide)))))) hp6), (bd_r ((congrFun (ms_c e10 (by decide)) 12).trans ((congrFun (ms_c e8 (by decide)) 12).trans ((congrFun (ms_c e6 (by decide)) 12).trans ((ms_i e4 (by decide)).trans (ms_i e2 (by decide)))))) hp7), (bd_r ((congrFun (ms_c e10 (by decide)) 17).trans ((congrFun (ms_c e8 (by decide)) 17).trans ((congrFun (ms_c e6 (by decide)) 17).trans ((ms_i e4 (by decide)).trans (ms_i e2 (by decide)))))) hp8), (ab_c ((ms_c e10 (by decide)).trans ((ms_c e8 (by decide)).trans ((ms_c e6 (by decide)).trans ((ms_c e4 (by decide)).trans (ms_c e2 (by decide)))))) hp9), (ab_c ((ms_c e10 (by decide)).trans ((ms_c e8 (by decide)).trans ((ms_c e6 (by decide)).trans ((ms_c e4 (by decide)).trans (ms_c e2 (by decide)))))) hp10), (fun c k0_ k1_ k2_ k3_ k4_ k5_ k6_ k7_ k8_ => ((ms_c e10 k3_).trans ((ms_c e8 k2_).trans ((ms_c e6 k1_).trans ((ms_c e4 k0_).trans (ms_c e2 k0_)))))), (fun j k0_ k8_ k9_ k10_ k11_ k12_ k14_ k15_ k16_ k17_ k18_ => ((congrFun (ms_c e10 (by decide)) j).trans ((congrFun (ms_c e8 (by decide)) j).trans ((congrFun (ms_c e6 (by decide)) j).trans ((ms_i e4 k9_).trans (ms_i e2 k0_))))))⟩
  by_cases hs1 : sort = 1
  · subst hs1
    refine J_aload_n (i := 0) (j := 0) dX11_text_0 rfl rfl ?_
    refine J_iconst (v := 0) dX11_text_1 (by decide) ?_
    obtain ⟨u229, e230⟩ : ∃ z, z = ms u 162 0 0 := ⟨_, rfl⟩
    refine J_put (C := RX11) (T := TX11) (Z := 43) (ci := 11) (f := 0) (ty0 := tyX11) dX11_text_2 inG11 rfl tyX11_ok nmX11 (by decide) k1264 rfl rfl wc_162 (Nat.le_of_ble_eq_true rfl) (fun _ _ => ⟨rfl, rfl⟩) (ws e230 wk_162 rfl) ?_
    refine J_aload_n (i := 0) (j := 0) dX11_text_5 rfl rfl ?_
    refine J_aload_n (i := 0) (j := 0) dX11_text_6 rfl rfl ?_
    refine J_get (C := RX11) (T := TX11) (Z := 43) (ci := 11) (f := 2) dX11_text_7 inG11 rfl (by decide) k1266 wc_162 rfl ?_
    refine J_iconst (v := 0) dX11_text_10 (by decide) ?_
    refine J_iald dX11_text_11 wc_164 (vin (bd_c (v := 0) (lo := 0) (hi := 0) (by decide)) (by decide)) ?_
    refine J_ci (v := u 164 0) (congrFun (ms_c e230 (by decide)) 0) ?_
    obtain ⟨u231, e232⟩ : ∃ z, z = ms u229 162 9 (u 164 0) := ⟨_, rfl⟩
    refine J_put (C := RX11) (T := TX11) (Z := 43) (ci := 11) (f := 9) (ty0 := tyX11) dX11_text_12 inG11 rfl tyX11_ok nmX11 (by decide) k1273 rfl rfl wc_162 (Nat.le_of_ble_eq_true rfl) (fun _ _ => ⟨rfl, rfl⟩) (ws e232 wk_162 rfl) ?_
    refine J_aload_n (i := 0) (j := 0) dX11_text_15 rfl rfl ?_
    refine J_get (C := RX11) (T := TX11) (Z := 43) (ci := 11) (f := 2) dX11_text_16 inG11 rfl (by decide) k1266 wc_162 rfl ?_
    refine J_iconst (v := 0) dX11_text_19 (by decide) ?_
    refine J_iconst (v := 0) dX11_text_20 (by decide) ?_
    obtain ⟨u233, e234⟩ : ∃ z, z = ms u231 164 0 0 := ⟨_, rfl⟩
    refine J_iast dX11_text_21 wc_164 (vin (bd_c (v := 0) (lo := 0) (hi := 0) (by decide)) (by decide)) (ws e234 wk_164 rfl) ?_
    refine J_aload_n (i := 0) (j := 0) dX11_text_22 rfl rfl ?_
    refine J_get (C := RX11) (T := TX11) (Z := 43) (ci := 11) (f := 3) dX11_text_23 inG11 rfl (by decide) k1267 wc_162 rfl ?_
    refine J_iconst (v := 0) dX11_text_26 (by decide) ?_
    refine J_iconst (v := 0) dX11_text_27 (by decide) ?_
    obtain ⟨u235, e236⟩ : ∃ z, z = ms u233 165 0 0 := ⟨_, rfl⟩
    refine J_iast dX11_text_28 wc_165 (vin (bd_c (v := 0) (lo := 0) (hi := 0) (by decide)) (by decide)) (ws e236 wk_165 rfl) ?_
    refine J_aload_n (i := 0) (j := 0) dX11_text_29 rfl rfl ?_
    refine J_get (C := RX11) (T := TX11) (Z := 43) (ci := 11) (f := 4) dX11_text_30 inG11 rfl (by decide) k1268 wc_162 rfl ?_
    refine J_iconst (v := 0) dX11_text_33 (by decide) ?_
    refine J_iconst (v := (-1)) dX11_text_34 (by decide) ?_
    obtain ⟨u237, e238⟩ : ∃ z, z = ms u235 166 0 (-1) := ⟨_, rfl⟩
    refine J_iast dX11_text_35 wc_166 (vin (bd_c (v := 0) (lo := 0) (hi := 0) (by decide)) (by decide)) (ws e238 wk_166 rfl) ?_
    refine J_iload_n (i := 1) (j := 1) dX11_text_36 rfl rfl ?_
    refine J_iconst (v := 0) dX11_text_37 (by decide) ?_
    refine J_iconst (v := 1) dX11_text_38 (by decide) ?_
    refine J_callS (As := [.int 1, .int 0, .int 1]) (rest := []) dX11_text_39 (c_M_in (d := 0) (u := u237) (g := g) (ex := ex) (v := 1) (low := 0) (high := 1)  (by decide) ) hq.n k1406 k1407 k97 k1408 np_X11_in (Nat.le_trans (by decide) hd) (by decide) (Nat.le_refl _) (Nat.le_refl _) wlen rfl (Nat.le_of_ble_eq_true rfl) (fun r_ h_ p239 => ?_)
    obtain ⟨t240, rfl, rfl, h241, h242⟩ := p239
    refine J_ifB_eq (tgt := 87) dX11_text_42 (by decide) (fun c243 => ?_) (fun c243 => ?_)
    · refine J_bipush (v := (-2)) dX11_text_87 (by decide) ?_
      exact J_iret hq dX11_text_89 rfl wlen (Nat.le_refl _) (Nat.le_refl _) ⟨((-2) : Int32), u237, g, rfl, rfl, (ab_c ((ms_c e238 (by decide)).trans (ms_c e236 (by decide))) (ab_s e234 (ab_c ((ms_c e232 (by decide)).trans (ms_c e230 (by decide))) hp0) (bd_w (l := 0) (h := 600) (bd_c (v := 0) (lo := 0) (hi := 0) (by decide)) (by decide)))), (ab_c ((ms_c e238 (by decide)).trans ((ms_c e236 (by decide)).trans ((ms_c e234 (by decide)).trans ((ms_c e232 (by decide)).trans (ms_c e230 (by decide)))))) hp1), (ab_c ((ms_c e238 (by decide)).trans ((ms_c e236 (by decide)).trans ((ms_c e234 (by decide)).trans ((ms_c e232 (by decide)).trans (ms_c e230 (by decide)))))) hp2), (my_c ((ms_c e238 (by decide)).trans ((ms_c e236 (by decide)).trans ((ms_c e234 (by decide)).trans ((ms_c e232 (by decide)).trans (ms_c e230 (by decide)))))) hp3), (hd_c ((ms_c e238 (by decide)).trans ((ms_c e236 (by decide)).trans ((ms_c e234 (by decide)).trans ((ms_c e232 (by decide)).trans (ms_c e230 (by decide)))))) hp4), (hc_c ((ms_c e238 (by decide)).trans ((ms_c e236 (by decide)).trans ((ms_c e234 (by decide)).trans ((ms_c e232 (by decide)).trans (ms_c e230 (by decide)))))) ((ms_c e238 (by decide)).trans ((ms_c e236 (by decide)).trans ((ms_c e234 (by decide)).trans ((ms_c e232 (by decide)).trans (ms_c e230 (by decide)))))) hp5), (pl_c ((ms_c e238 (by decide)).trans ((ms_c e236 (by decide)).trans ((ms_c e234 (by decide)).trans ((ms_c e232 (by decide)).trans (ms_c e230 (by decide)))))) hp6), (bd_r ((congrFun (ms_c e238 (by decide)) 12).trans ((congrFun (ms_c e236 (by decide)) 12).trans ((congrFun (ms_c e234 (by decide)) 12).trans ((ms_i e232 (by decide)).trans (ms_i e230 (by decide)))))) hp7), (bd_r ((congrFun (ms_c e238 (by decide)) 17).trans ((congrFun (ms_c e236 (by decide)) 17).trans ((congrFun (ms_c e234 (by decide)) 17).trans ((ms_i e232 (by decide)).trans (ms_i e230 (by decide)))))) hp8), (ab_c ((ms_c e238 (by decide)).trans ((ms_c e236 (by decide)).trans ((ms_c e234 (by decide)).trans ((ms_c e232 (by decide)).trans (ms_c e230 (by decide)))))) hp9), (ab_c ((ms_c e238 (by decide)).trans ((ms_c e236 (by decide)).trans ((ms_c e234 (by decide)).trans ((ms_c e232 (by decide)).trans (ms_c e230 (by decide)))))) hp10), (fun c k0_ k1_ k2_ k3_ k4_ k5_ k6_ k7_ k8_ => ((ms_c e238 k3_).trans ((ms_c e236 k2_).trans ((ms_c e234 k1_).trans ((ms_c e232 k0_).trans (ms_c e230 k0_)))))), (fun j k0_ k8_ k9_ k10_ k11_ k12_ k14_ k15_ k16_ k17_ k18_ => ((congrFun (ms_c e238 (by decide)) j).trans ((congrFun (ms_c e236 (by decide)) j).trans ((congrFun (ms_c e234 (by decide)) j).trans ((ms_i e232 k9_).trans (ms_i e230 k0_))))))⟩
    · refine J_iload_n (i := 2) (j := 2) dX11_text_45 rfl rfl ?_
      refine J_iconst (v := (-1)) dX11_text_46 (by decide) ?_
      refine J_icmp_ne (tgt := 71) dX11_text_47 (by decide) (fun c244 => ?_) (fun c244 => ?_)
      · refine J_iload_n (i := 2) (j := 2) dX11_text_71 rfl rfl ?_
        refine J_iconst (v := 0) dX11_text_72 (by decide) ?_
        refine J_aload_n (i := 0) (j := 0) dX11_text_73 rfl rfl ?_
        refine J_get (C := RX11) (T := TX11) (Z := 43) (ci := 11) (f := 5) dX11_text_74 inG11 rfl (by decide) k1269 wc_162 rfl ?_
        refine J_iload_n (i := 1) (j := 1) dX11_text_77 rfl rfl ?_
        refine J_iald dX11_text_78 wc_167 (vin (bd_c (v := 1) (lo := 1) (hi := 1) (by decide)) (by decide)) ?_
        refine J_ci (v := u 167 1) ((congrFun (ms_c e238 (by decide)) 1).trans ((congrFun (ms_c e236 (by decide)) 1).trans ((congrFun (ms_c e234 (by decide)) 1).trans ((congrFun (ms_c e232 (by decide)) 1).trans (congrFun (ms_c e230 (by decide)) 1))))) ?_
        refine J_iconst (v := 1) dX11_text_79 (by decide) ?_
        refine J_isub dX11_text_80 ?_
        refine J_callS (As := [.int at0, .int 0, .int ((u 167 1) - 1)]) (rest := []) dX11_text_81 (c_M_in (d := 0) (u := u237) (g := g) (ex := ex) (v := at0) (low := 0) (high := ((u 167 1) - 1))  (by decide) ) hq.n k1406 k1407 k97 k1408 np_X11_in (Nat.le_trans (by decide) hd) (by decide) (Nat.le_refl _) (Nat.le_refl _) wlen rfl (Nat.le_of_ble_eq_true rfl) (fun r_ h_ p245 => ?_)
        obtain ⟨t246, rfl, rfl, h247, h248⟩ := p245
        refine J_ifB_ne (tgt := 90) dX11_text_84 (by decide) (fun c249 => ?_) (fun c249 => ?_)
        · refine J_aload_n (i := 0) (j := 0) dX11_text_90 rfl rfl ?_
          refine J_iload_n (i := 1) (j := 1) dX11_text_91 rfl rfl ?_
          refine J_callV (As := [.int 1]) (rest := []) dX11_text_92 (c_M_readText1 (d := 5) (u := u237) (g := g) (ex := ex)   (by decide) (bd_r ((congrFun (ms_c e238 (by decide)) 9).trans ((congrFun (ms_c e236 (by decide)) 9).trans ((congrFun (ms_c e234 (by decide)) 9).trans (ms_e e232)))) (hp0 0)) (bd_r ((congrFun (ms_c e238 (by decide)) 12).trans ((congrFun (ms_c e236 (by decide)) 12).trans ((congrFun (ms_c e234 (by decide)) 12).trans ((ms_i e232 (by decide)).trans (ms_i e230 (by decide)))))) hp7) (bd_r ((congrFun (ms_c e238 (by decide)) 17).trans ((congrFun (ms_c e236 (by decide)) 17).trans ((congrFun (ms_c e234 (by decide)) 17).trans ((ms_i e232 (by decide)).trans (ms_i e230 (by decide)))))) hp8) (ab_c ((ms_c e238 (by decide)).trans ((ms_c e236 (by decide)).trans ((ms_c e234 (by decide)).trans ((ms_c e232 (by decide)).trans (ms_c e230 (by decide)))))) hp9) (ab_c ((ms_c e238 (by decide)).trans ((ms_c e236 (by decide)).trans ((ms_c e234 (by decide)).trans ((ms_c e232 (by decide)).trans (ms_c e230 (by decide)))))) hp10)) hq.n k1413 k1415 k37 wc_162 rfl rfl k97 k1416 np_X11_readText (Nat.le_trans (by decide) hd) (by decide) (Nat.le_refl _) (Nat.le_refl _) wlen rfl (Nat.le_of_ble_eq_true rfl) (fun r_ h_ p250 => ?_)
          obtain ⟨t251, u252, g253, rfl, rfl, h254, h255, h256, h257, h258, fr259, fc260⟩ := p250
          refine J_ifB_ne (tgt := 100) dX11_text_95 (by decide) (fun c261 => ?_) (fun c261 => ?_)
          · refine J_iload_n (i := 2) (j := 2) dX11_text_100 rfl rfl ?_
            refine J_iconst (v := (-1)) dX11_text_101 (by decide) ?_
            refine J_icmp_ne (tgt := 114) dX11_text_102 (by decide) (fun c262 => ?_) (fun c262 => ?_)
            · refine J_iload_n (i := 2) (j := 2) dX11_text_114 rfl rfl ?_
              refine J_istore_n (i := 3) (lw := [(3, .int at0), (0, .ref 162), (1, .int 1), (2, .int at0)]) dX11_text_115 rfl (by decide) rfl ?_
              refine J_aload_n (i := 0) (j := 1) dX11_text_116 rfl rfl ?_
              refine J_get (C := RX11) (T := TX11) (Z := 43) (ci := 11) (f := 5) dX11_text_117 inG11 rfl (by decide) k1269 wc_162 rfl ?_
              refine J_iload_n (i := 1) (j := 2) dX11_text_120 rfl rfl ?_
              refine J_dup2_11 dX11_text_121 rfl rfl ?_
              refine J_iald dX11_text_122 wc_167 (vin (bd_c (v := 1) (lo := 1) (hi := 1) (by decide)) (by decide)) ?_
              refine J_ci (v := u 167 1) ((congrFun (fr259 167 (by decide) (by decide) (by decide) (by decide) (by decide)) 1).trans ((congrFun (ms_c e238 (by decide)) 1).trans ((congrFun (ms_c e236 (by decide)) 1).trans ((congrFun (ms_c e234 (by decide)) 1).trans ((congrFun (ms_c e232 (by decide)) 1).trans (congrFun (ms_c e230 (by decide)) 1)))))) ?_
              refine J_iload_n (i := 2) (j := 3) dX11_text_123 rfl rfl ?_
              refine J_iconst (v := (-1)) dX11_text_124 (by decide) ?_
              refine J_icmp_ne (tgt := 132) dX11_text_125 (by decide) (fun c263 => ?_) (fun c263 => ?_)
              · refine J_iconst (v := 0) dX11_text_132 (by decide) ?_
                refine J_iadd dX11_text_133 ?_
                obtain ⟨u264, e265⟩ : ∃ z, z = ms u252 167 1 ((u 167 1) + 0) := ⟨_, rfl⟩
                refine J_iast dX11_text_134 wc_167 (vin (bd_c (v := 1) (lo := 1) (hi := 1) (by decide)) (by decide)) (ws e265 wk_167 rfl) ?_
                refine J_iconst (v := 0) dX11_text_135 (by decide) ?_
                refine J_istore (i := 4) (lw := [(4, .int 0), (3, .int at0), (0, .ref 162), (1, .int 1), (2, .int at0)]) dX11_text_136 (by decide) rfl ?_
                refine J_iload (i := 4) (j := 0) dX11_text_138 rfl ?_
                refine J_sipush (v := 157) dX11_text_140 (by decide) ?_
                refine J_icmp_ge (tgt := 176) dX11_text_143 (by decide) (fun q => absurd q (by decide)) (fun _ => ?_)
                refine J_iload_n (i := 1) (j := 3) dX11_text_146 rfl rfl ?_
                refine J_if_ne (tgt := 176) dX11_text_147 (by decide) (fun _ => ?_) (fun q => absurd q (by decide))
                refine J_iconst (v := 0) dX11_text_176 (by decide) ?_
                refine J_istore (i := 4) (lw := [(4, .int 0), (3, .int at0), (0, .ref 162), (1, .int 1), (2, .int at0)]) dX11_text_177 (by decide) rfl ?_
                have lp376 : ∀ (n377 : Nat) (w363 : Int32) (u364 : Nat → Nat → Int32), Bd 0 37 w363 → (∀ c, c ≠ 169 → u364 c = u264 c) → AB u364 169 (-1) 999 → CRI u364 u264 169 37 at0.toInt.toNat w363.toInt.toNat → (37 - w363.toInt).toNat < n377 → J x yX11_text cX11_text 5 (some .int) d 0 0 (Wd u g ex).length 179 [(0, .ref 162), (1, .int 1), (3, .int at0), (4, .int w363)] [] (Wd u364 g253 ex) 0 0 := by
                  intro n377
                  induction n377 with
                  | zero => intro w363 u364 bw363 fr365 ab366 hI380 hm379; exact absurd hm379 (Nat.not_lt_zero _)
                  | succ n377 ih378 =>
                    intro w363 u364 bw363 fr365 ab366 hI380 hm379
                    refine J_iload (i := 4) (j := 3) dX11_text_179 rfl ?_
                    refine J_bipush (v := 37) dX11_text_181 (by decide) ?_
                    refine J_icmp_ge (tgt := 216) dX11_text_183 (by decide) (fun c381 => ?_) (fun c381 => ?_)
                    · have hy385 := cri_e hI380 (bd_le_lo bw363 c381 (bd_c (v := 37) (lo := 37) (hi := 37) (by decide))) (by decide)
                      have hy386 := pl_cr hy385 (rp_c (ms_c e265 (by decide)) h258) (pl_c ((ms_c e265 (by decide)).trans ((fr259 169 (by decide) (by decide) (by decide) (by decide) (by decide)).trans ((ms_c e238 (by decide)).trans ((ms_c e236 (by decide)).trans ((ms_c e234 (by decide)).trans ((ms_c e232 (by decide)).trans (ms_c e230 (by decide)))))))) hp6)
                      refine J_iload_n (i := 3) (j := 2) dX11_text_216 rfl rfl ?_
                      exact J_iret hq dX11_text_217 rfl wlen (Nat.le_refl _) (Nat.le_refl _) ⟨at0, u364, g253, rfl, rfl, (ab_c ((fr365 164 (by decide)).trans ((ms_c e265 (by decide)).trans ((fr259 164 (by decide) (by decide) (by decide) (by decide) (by decide)).trans ((ms_c e238 (by decide)).trans (ms_c e236 (by decide)))))) (ab_s e234 (ab_c ((ms_c e232 (by decide)).trans (ms_c e230 (by decide))) hp0) (bd_w (l := 0) (h := 600) (bd_c (v := 0) (lo := 0) (hi := 0) (by decide)) (by decide)))), (ab_c ((fr365 168 (by decide)).trans ((ms_c e265 (by decide)).trans ((fr259 168 (by decide) (by decide) (by decide) (by decide) (by decide)).trans ((ms_c e238 (by decide)).trans ((ms_c e236 (by decide)).trans ((ms_c e234 (by decide)).trans ((ms_c e232 (by decide)).trans (ms_c e230 (by decide))))))))) hp1), ab366, (my_c (fr365 167 (by decide)) (my_s1 e265 (bd_add (l := 0) (h := 3) (hp3 0 (by decide)).2 (bd_c (v := 0) (lo := 0) (hi := 0) (by decide)) (by decide)) (my_c ((fr259 167 (by decide) (by decide) (by decide) (by decide) (by decide)).trans ((ms_c e238 (by decide)).trans ((ms_c e236 (by decide)).trans ((ms_c e234 (by decide)).trans ((ms_c e232 (by decide)).trans (ms_c e230 (by decide))))))) hp3))), (hd_c ((fr365 168 (by decide)).trans ((ms_c e265 (by decide)).trans ((fr259 168 (by decide) (by decide) (by decide) (by decide) (by decide)).trans ((ms_c e238 (by decide)).trans ((ms_c e236 (by decide)).trans ((ms_c e234 (by decide)).trans ((ms_c e232 (by decide)).trans (ms_c e230 (by decide))))))))) hp4), (hc_c (fr365 167 (by decide)) (fr365 168 (by decide)) (hc_s1 e265 (hc_c ((fr259 167 (by decide) (by decide) (by decide) (by decide) (by decide)).trans ((ms_c e238 (by decide)).trans ((ms_c e236 (by decide)).trans ((ms_c e234 (by decide)).trans ((ms_c e232 (by decide)).trans (ms_c e230 (by decide))))))) ((fr259 168 (by decide) (by decide) (by decide) (by decide) (by decide)).trans ((ms_c e238 (by decide)).trans ((ms_c e236 (by decide)).trans ((ms_c e234 (by decide)).trans ((ms_c e232 (by decide)).trans (ms_c e230 (by decide))))))) hp5))), hy386, (bd_r ((congrFun (fr365 162 (by decide)) 12).trans (congrFun (ms_c e265 (by decide)) 12)) h255), (bd_r ((congrFun (fr365 162 (by decide)) 17).trans (congrFun (ms_c e265 (by decide)) 17)) h256), (ab_c ((fr365 171 (by decide)).trans (ms_c e265 (by decide))) h257), (ab_c ((fr365 170 (by decide)).trans (ms_c e265 (by decide))) (h258).1), (fun c k0_ k1_ k2_ k3_ k4_ k5_ k6_ k7_ k8_ => ((fr365 c k6_).trans ((ms_c e265 k4_).trans ((fr259 c k0_ k2_ k3_ k7_ k8_).trans ((ms_c e238 k3_).trans ((ms_c e236 k2_).trans ((ms_c e234 k1_).trans ((ms_c e232 k0_).trans (ms_c e230 k0_))))))))), (fun j k0_ k8_ k9_ k10_ k11_ k12_ k14_ k15_ k16_ k17_ k18_ => ((congrFun (fr365 162 (by decide)) j).trans ((congrFun (ms_c e265 (by decide)) j).trans ((fc260 j k8_ k10_ k11_ k12_ k14_ k15_ k16_ k17_ k18_).trans ((congrFun (ms_c e238 (by decide)) j).trans ((congrFun (ms_c e236 (by decide)) j).trans ((congrFun (ms_c e234 (by decide)) j).trans ((ms_i e232 k9_).trans (ms_i e230 k0_)))))))))⟩
                    · refine J_iload_n (i := 1) (j := 1) dX11_text_186 rfl rfl ?_
                      refine J_iconst (v := 1) dX11_text_187 (by decide) ?_
                      refine J_icmp_ne (tgt := 216) dX11_text_188 (by decide) (fun q => absurd (by decide) q) (fun _ => ?_)
                      refine J_aload_n (i := 0) (j := 0) dX11_text_191 rfl rfl ?_
                      refine J_get (C := RX11) (T := TX11) (Z := 43) (ci := 11) (f := 7) dX11_text_192 inG11 rfl (by decide) k1271 wc_162 rfl ?_
                      refine J_bipush (v := 37) dX11_text_195 (by decide) ?_
                      refine J_iload_n (i := 3) (j := 2) dX11_text_197 rfl rfl ?_
                      refine J_imul dX11_text_198 ?_
                      refine J_iload (i := 4) (j := 3) dX11_text_199 rfl ?_
                      refine J_iadd dX11_text_201 ?_
                      refine J_aload_n (i := 0) (j := 0) dX11_text_202 rfl rfl ?_
                      refine J_get (C := RX11) (T := TX11) (Z := 43) (ci := 11) (f := 19) dX11_text_203 inG11 rfl (by decide) k1283 wc_162 rfl ?_
                      refine J_iload (i := 4) (j := 3) dX11_text_206 rfl ?_
                      refine J_iald dX11_text_208 wc_170 (vin (bd_lt_hi bw363 (i_nle c381) (bd_c (v := 37) (lo := 37) (hi := 37) (by decide))) (by decide)) ?_
                      refine J_topi (fun v387 qv387 => ?_)
                      obtain ⟨u388, e389⟩ : ∃ z, z = ms u364 169 ((((37 : Int32) * at0) + w363).toNatClampNeg) v387 := ⟨_, rfl⟩
                      refine J_iast dX11_text_209 wc_169 (vin (bd_add (l := 0) (h := 110) (bd_mul (l := 0) (h := 74) (bd_c (v := 37) (lo := 37) (hi := 37) (by decide)) (bd_le_hi (bd_le_lo (bd_any at0) (h247 c249) (bd_c (v := 0) (lo := 0) (hi := 0) (by decide))) (h248 c249) (bd_sub (l := (-1)) (h := 2) (hp3 0 (by decide)).2 (bd_c (v := 1) (lo := 1) (hi := 1) (by decide)) (by decide))) (by decide)) (bd_lt_hi bw363 (i_nle c381) (bd_c (v := 37) (lo := 37) (hi := 37) (by decide))) (by decide)) (by decide)) (ws e389 wk_169 rfl) ?_
                      refine J_iinc (i := 4) (j := 3) (v := (w363 + 1)) (lw := [(4, .int (w363 + 1)), (0, .ref 162), (1, .int 1), (3, .int at0)]) dX11_text_210 rfl rfl (by decide) rfl ?_
                      refine J_goto (tgt := 179) dX11_text_213 (by decide) ?_
                      refine J_lv [1, 2, 3, 0] rfl ?_
                      exact ih378 (w363 + 1) u388 (bd_w (l := 0) (h := 37) (bd_add (l := 1) (h := 37) (bd_lt_hi bw363 (i_nle c381) (bd_c (v := 37) (lo := 37) (hi := 37) (by decide))) (bd_c (v := 1) (lo := 1) (hi := 1) (by decide)) (by decide)) (by decide)) (fun c k0_ => ((ms_c e389 k0_).trans (fr365 c k0_))) (ab_s e389 ab366 (bd_r qv387 ((ab_c ((fr365 170 (by decide)).trans (ms_c e265 (by decide))) (h258).1) w363.toNatClampNeg))) (cri_s (n := 37) (N := 37) hI380 rfl (by decide) (bd_w (l := 0) (h := 3) (bd_le_hi (bd_le_lo (bd_any at0) (h247 c249) (bd_c (v := 0) (lo := 0) (hi := 0) (by decide))) (h248 c249) (bd_sub (l := (-1)) (h := 2) (hp3 0 (by decide)).2 (bd_c (v := 1) (lo := 1) (hi := 1) (by decide)) (by decide))) (by decide)) (bd_w (l := 0) (h := 600) (bd_lt_hi bw363 (i_nle c381) (bd_c (v := 37) (lo := 37) (hi := 37) (by decide))) (by decide)) e389 (qv387.trans (congrFun (fr365 170 (by decide)) _))) (mu_up 1 bw363 rfl (by decide) (bd_w (l := 1) (h := 37) (bd_add (l := 1) (h := 37) (bd_lt_hi bw363 (i_nle c381) (bd_c (v := 37) (lo := 37) (hi := 37) (by decide))) (bd_c (v := 1) (lo := 1) (hi := 1) (by decide)) (by decide)) (by decide)) hm379)
                refine J_lv [2, 3, 1, 0] rfl ?_
                exact lp376 _ (0 : Int32) u264 (bd_w (l := 0) (h := 37) (bd_c (v := 0) (lo := 0) (hi := 0) (by decide)) (by decide)) (fun c k0_ => rfl) (ab_c ((ms_c e265 (by decide)).trans ((fr259 169 (by decide) (by decide) (by decide) (by decide) (by decide)).trans ((ms_c e238 (by decide)).trans ((ms_c e236 (by decide)).trans ((ms_c e234 (by decide)).trans ((ms_c e232 (by decide)).trans (ms_c e230 (by decide)))))))) hp2) (cri_0 rfl) (Nat.lt_succ_self _)
              · exact (bd_neq c263 (bd_le_hi (bd_le_lo (bd_any at0) (h247 c249) (bd_c (v := 0) (lo := 0) (hi := 0) (by decide))) (h248 c249) (bd_sub (l := (-1)) (h := 2) (hp3 0 (by decide)).2 (bd_c (v := 1) (lo := 1) (hi := 1) (by decide)) (by decide))) (bd_c (v := (-1)) (lo := (-1)) (hi := (-1)) (by decide)) (by decide)).elim
            · exact (bd_neq c262 (bd_le_hi (bd_le_lo (bd_any at0) (h247 c249) (bd_c (v := 0) (lo := 0) (hi := 0) (by decide))) (h248 c249) (bd_sub (l := (-1)) (h := 2) (hp3 0 (by decide)).2 (bd_c (v := 1) (lo := 1) (hi := 1) (by decide)) (by decide))) (bd_c (v := (-1)) (lo := (-1)) (hi := (-1)) (by decide)) (by decide)).elim
          · refine J_iconst (v := (-1)) dX11_text_98 (by decide) ?_
            exact J_iret hq dX11_text_99 rfl wlen (Nat.le_refl _) (Nat.le_refl _) ⟨((-1) : Int32), u252, g253, rfl, rfl, (ab_c ((fr259 164 (by decide) (by decide) (by decide) (by decide) (by decide)).trans ((ms_c e238 (by decide)).trans (ms_c e236 (by decide)))) (ab_s e234 (ab_c ((ms_c e232 (by decide)).trans (ms_c e230 (by decide))) hp0) (bd_w (l := 0) (h := 600) (bd_c (v := 0) (lo := 0) (hi := 0) (by decide)) (by decide)))), (ab_c ((fr259 168 (by decide) (by decide) (by decide) (by decide) (by decide)).trans ((ms_c e238 (by decide)).trans ((ms_c e236 (by decide)).trans ((ms_c e234 (by decide)).trans ((ms_c e232 (by decide)).trans (ms_c e230 (by decide))))))) hp1), (ab_c ((fr259 169 (by decide) (by decide) (by decide) (by decide) (by decide)).trans ((ms_c e238 (by decide)).trans ((ms_c e236 (by decide)).trans ((ms_c e234 (by decide)).trans ((ms_c e232 (by decide)).trans (ms_c e230 (by decide))))))) hp2), (my_c ((fr259 167 (by decide) (by decide) (by decide) (by decide) (by decide)).trans ((ms_c e238 (by decide)).trans ((ms_c e236 (by decide)).trans ((ms_c e234 (by decide)).trans ((ms_c e232 (by decide)).trans (ms_c e230 (by decide))))))) hp3), (hd_c ((fr259 168 (by decide) (by decide) (by decide) (by decide) (by decide)).trans ((ms_c e238 (by decide)).trans ((ms_c e236 (by decide)).trans ((ms_c e234 (by decide)).trans ((ms_c e232 (by decide)).trans (ms_c e230 (by decide))))))) hp4), (hc_c ((fr259 167 (by decide) (by decide) (by decide) (by decide) (by decide)).trans ((ms_c e238 (by decide)).trans ((ms_c e236 (by decide)).trans ((ms_c e234 (by decide)).trans ((ms_c e232 (by decide)).trans (ms_c e230 (by decide))))))) ((fr259 168 (by decide) (by decide) (by decide) (by decide) (by decide)).trans ((ms_c e238 (by decide)).trans ((ms_c e236 (by decide)).trans ((ms_c e234 (by decide)).trans ((ms_c e232 (by decide)).trans (ms_c e230 (by decide))))))) hp5), (pl_c ((fr259 169 (by decide) (by decide) (by decide) (by decide) (by decide)).trans ((ms_c e238 (by decide)).trans ((ms_c e236 (by decide)).trans ((ms_c e234 (by decide)).trans ((ms_c e232 (by decide)).trans (ms_c e230 (by decide))))))) hp6), h255, h256, h257, (h258).1, (fun c k0_ k1_ k2_ k3_ k4_ k5_ k6_ k7_ k8_ => ((fr259 c k0_ k2_ k3_ k7_ k8_).trans ((ms_c e238 k3_).trans ((ms_c e236 k2_).trans ((ms_c e234 k1_).trans ((ms_c e232 k0_).trans (ms_c e230 k0_))))))), (fun j k0_ k8_ k9_ k10_ k11_ k12_ k14_ k15_ k16_ k17_ k18_ => ((fc260 j k8_ k10_ k11_ k12_ k14_ k15_ k16_ k17_ k18_).trans ((congrFun (ms_c e238 (by decide)) j).trans ((congrFun (ms_c e236 (by decide)) j).trans ((congrFun (ms_c e234 (by decide)) j).trans ((ms_i e232 k9_).trans (ms_i e230 k0_)))))))⟩
        · refine J_bipush (v := (-2)) dX11_text_87 (by decide) ?_
          exact J_iret hq dX11_text_89 rfl wlen (Nat.le_refl _) (Nat.le_refl _) ⟨((-2) : Int32), u237, g, rfl, rfl, (ab_c ((ms_c e238 (by decide)).trans (ms_c e236 (by decide))) (ab_s e234 (ab_c ((ms_c e232 (by decide)).trans (ms_c e230 (by decide))) hp0) (bd_w (l := 0) (h := 600) (bd_c (v := 0) (lo := 0) (hi := 0) (by decide)) (by decide)))), (ab_c ((ms_c e238 (by decide)).trans ((ms_c e236 (by decide)).trans ((ms_c e234 (by decide)).trans ((ms_c e232 (by decide)).trans (ms_c e230 (by decide)))))) hp1), (ab_c ((ms_c e238 (by decide)).trans ((ms_c e236 (by decide)).trans ((ms_c e234 (by decide)).trans ((ms_c e232 (by decide)).trans (ms_c e230 (by decide)))))) hp2), (my_c ((ms_c e238 (by decide)).trans ((ms_c e236 (by decide)).trans ((ms_c e234 (by decide)).trans ((ms_c e232 (by decide)).trans (ms_c e230 (by decide)))))) hp3), (hd_c ((ms_c e238 (by decide)).trans ((ms_c e236 (by decide)).trans ((ms_c e234 (by decide)).trans ((ms_c e232 (by decide)).trans (ms_c e230 (by decide)))))) hp4), (hc_c ((ms_c e238 (by decide)).trans ((ms_c e236 (by decide)).trans ((ms_c e234 (by decide)).trans ((ms_c e232 (by decide)).trans (ms_c e230 (by decide)))))) ((ms_c e238 (by decide)).trans ((ms_c e236 (by decide)).trans ((ms_c e234 (by decide)).trans ((ms_c e232 (by decide)).trans (ms_c e230 (by decide)))))) hp5), (pl_c ((ms_c e238 (by decide)).trans ((ms_c e236 (by decide)).trans ((ms_c e234 (by decide)).trans ((ms_c e232 (by decide)).trans (ms_c e230 (by decide)))))) hp6), (bd_r ((congrFun (ms_c e238 (by decide)) 12).trans ((congrFun (ms_c e236 (by decide)) 12).trans ((congrFun (ms_c e234 (by decide)) 12).trans ((ms_i e232 (by decide)).trans (ms_i e230 (by decide)))))) hp7), (bd_r ((congrFun (ms_c e238 (by decide)) 17).trans ((congrFun (ms_c e236 (by decide)) 17).trans ((congrFun (ms_c e234 (by decide)) 17).trans ((ms_i e232 (by decide)).trans (ms_i e230 (by decide)))))) hp8), (ab_c ((ms_c e238 (by decide)).trans ((ms_c e236 (by decide)).trans ((ms_c e234 (by decide)).trans ((ms_c e232 (by decide)).trans (ms_c e230 (by decide)))))) hp9), (ab_c ((ms_c e238 (by decide)).trans ((ms_c e236 (by decide)).trans ((ms_c e234 (by decide)).trans ((ms_c e232 (by decide)).trans (ms_c e230 (by decide)))))) hp10), (fun c k0_ k1_ k2_ k3_ k4_ k5_ k6_ k7_ k8_ => ((ms_c e238 k3_).trans ((ms_c e236 k2_).trans ((ms_c e234 k1_).trans ((ms_c e232 k0_).trans (ms_c e230 k0_)))))), (fun j k0_ k8_ k9_ k10_ k11_ k12_ k14_ k15_ k16_ k17_ k18_ => ((congrFun (ms_c e238 (by decide)) j).trans ((congrFun (ms_c e236 (by decide)) j).trans ((congrFun (ms_c e234 (by decide)) j).trans ((ms_i e232 k9_).trans (ms_i e230 k0_))))))⟩
      · refine J_aload_n (i := 0) (j := 0) dX11_text_50 rfl rfl ?_
        refine J_get (C := RX11) (T := TX11) (Z := 43) (ci := 11) (f := 5) dX11_text_51 inG11 rfl (by decide) k1269 wc_162 rfl ?_
        refine J_iload_n (i := 1) (j := 1) dX11_text_54 rfl rfl ?_
        refine J_iald dX11_text_55 wc_167 (vin (bd_c (v := 1) (lo := 1) (hi := 1) (by decide)) (by decide)) ?_
        refine J_ci (v := u 167 1) ((congrFun (ms_c e238 (by decide)) 1).trans ((congrFun (ms_c e236 (by decide)) 1).trans ((congrFun (ms_c e234 (by decide)) 1).trans ((congrFun (ms_c e232 (by decide)) 1).trans (congrFun (ms_c e230 (by decide)) 1))))) ?_
        refine J_iload_n (i := 1) (j := 1) dX11_text_56 rfl rfl ?_
        refine J_if_ne (tgt := 64) dX11_text_57 (by decide) (fun _ => ?_) (fun q => absurd q (by decide))
        refine J_iconst (v := 3) dX11_text_64 (by decide) ?_
        refine J_icmp_ne (tgt := 90) dX11_text_65 (by decide) (fun c390 => ?_) (fun c390 => ?_)
        · refine J_aload_n (i := 0) (j := 0) dX11_text_90 rfl rfl ?_
          refine J_iload_n (i := 1) (j := 1) dX11_text_91 rfl rfl ?_
          refine J_callV (As := [.int 1]) (rest := []) dX11_text_92 (c_M_readText1 (d := 5) (u := u237) (g := g) (ex := ex)   (by decide) (bd_r ((congrFun (ms_c e238 (by decide)) 9).trans ((congrFun (ms_c e236 (by decide)) 9).trans ((congrFun (ms_c e234 (by decide)) 9).trans (ms_e e232)))) (hp0 0)) (bd_r ((congrFun (ms_c e238 (by decide)) 12).trans ((congrFun (ms_c e236 (by decide)) 12).trans ((congrFun (ms_c e234 (by decide)) 12).trans ((ms_i e232 (by decide)).trans (ms_i e230 (by decide)))))) hp7) (bd_r ((congrFun (ms_c e238 (by decide)) 17).trans ((congrFun (ms_c e236 (by decide)) 17).trans ((congrFun (ms_c e234 (by decide)) 17).trans ((ms_i e232 (by decide)).trans (ms_i e230 (by decide)))))) hp8) (ab_c ((ms_c e238 (by decide)).trans ((ms_c e236 (by decide)).trans ((ms_c e234 (by decide)).trans ((ms_c e232 (by decide)).trans (ms_c e230 (by decide)))))) hp9) (ab_c ((ms_c e238 (by decide)).trans ((ms_c e236 (by decide)).trans ((ms_c e234 (by decide)).trans ((ms_c e232 (by decide)).trans (ms_c e230 (by decide)))))) hp10)) hq.n k1413 k1415 k37 wc_162 rfl rfl k97 k1416 np_X11_readText (Nat.le_trans (by decide) hd) (by decide) (Nat.le_refl _) (Nat.le_refl _) wlen rfl (Nat.le_of_ble_eq_true rfl) (fun r_ h_ p391 => ?_)
          obtain ⟨t392, u393, g394, rfl, rfl, h395, h396, h397, h398, h399, fr400, fc401⟩ := p391
          refine J_ifB_ne (tgt := 100) dX11_text_95 (by decide) (fun c402 => ?_) (fun c402 => ?_)
          · refine J_iload_n (i := 2) (j := 2) dX11_text_100 rfl rfl ?_
            refine J_iconst (v := (-1)) dX11_text_101 (by decide) ?_
            refine J_icmp_ne (tgt := 114) dX11_text_102 (by decide) (fun c403 => ?_) (fun c403 => ?_)
            · exact (bd_no (bd_ne_lo (bd_r c244 (bd_c (v := (-1)) (lo := (-1)) (hi := (-1)) (by decide))) c403 (by decide)) (by decide)).elim
            · refine J_aload_n (i := 0) (j := 0) dX11_text_105 rfl rfl ?_
              refine J_get (C := RX11) (T := TX11) (Z := 43) (ci := 11) (f := 5) dX11_text_106 inG11 rfl (by decide) k1269 wc_162 rfl ?_
              refine J_iload_n (i := 1) (j := 1) dX11_text_109 rfl rfl ?_
              refine J_iald dX11_text_110 wc_167 (vin (bd_c (v := 1) (lo := 1) (hi := 1) (by decide)) (by decide)) ?_
              refine J_ci (v := u 167 1) ((congrFun (fr400 167 (by decide) (by decide) (by decide) (by decide) (by decide)) 1).trans ((congrFun (ms_c e238 (by decide)) 1).trans ((congrFun (ms_c e236 (by decide)) 1).trans ((congrFun (ms_c e234 (by decide)) 1).trans ((congrFun (ms_c e232 (by decide)) 1).trans (congrFun (ms_c e230 (by decide)) 1)))))) ?_
              refine J_goto (tgt := 115) dX11_text_111 (by decide) ?_
              refine J_istore_n (i := 3) (lw := [(3, .int (u 167 1)), (0, .ref 162), (1, .int 1), (2, .int at0)]) dX11_text_115 rfl (by decide) rfl ?_
              refine J_aload_n (i := 0) (j := 1) dX11_text_116 rfl rfl ?_
              refine J_get (C := RX11) (T := TX11) (Z := 43) (ci := 11) (f := 5) dX11_text_117 inG11 rfl (by decide) k1269 wc_162 rfl ?_
              refine J_iload_n (i := 1) (j := 2) dX11_text_120 rfl rfl ?_
              refine J_dup2_11 dX11_text_121 rfl rfl ?_
              refine J_iald dX11_text_122 wc_167 (vin (bd_c (v := 1) (lo := 1) (hi := 1) (by decide)) (by decide)) ?_
              refine J_ci (v := u 167 1) ((congrFun (fr400 167 (by decide) (by decide) (by decide) (by decide) (by decide)) 1).trans ((congrFun (ms_c e238 (by decide)) 1).trans ((congrFun (ms_c e236 (by decide)) 1).trans ((congrFun (ms_c e234 (by decide)) 1).trans ((congrFun (ms_c e232 (by decide)) 1).trans (congrFun (ms_c e230 (by decide)) 1)))))) ?_
              refine J_iload_n (i := 2) (j := 3) dX11_text_123 rfl rfl ?_
              refine J_iconst (v := (-1)) dX11_text_124 (by decide) ?_
              refine J_icmp_ne (tgt := 132) dX11_text_125 (by decide) (fun c404 => ?_) (fun c404 => ?_)
              · exact (bd_no (bd_ne_lo (bd_r c244 (bd_c (v := (-1)) (lo := (-1)) (hi := (-1)) (by decide))) c404 (by decide)) (by decide)).elim
              · refine J_iconst (v := 1) dX11_text_128 (by decide) ?_
                refine J_goto (tgt := 133) dX11_text_129 (by decide) ?_
                refine J_iadd dX11_text_133 ?_
                obtain ⟨u405, e406⟩ : ∃ z, z = ms u393 167 1 ((u 167 1) + 1) := ⟨_, rfl⟩
                refine J_iast dX11_text_134 wc_167 (vin (bd_c (v := 1) (lo := 1) (hi := 1) (by decide)) (by decide)) (ws e406 wk_167 rfl) ?_
                refine J_iconst (v := 0) dX11_text_135 (by decide) ?_
                refine J_istore (i := 4) (lw := [(4, .int 0), (3, .int (u 167 1)), (0, .ref 162), (1, .int 1), (2, .int at0)]) dX11_text_136 (by decide) rfl ?_
                refine J_iload (i := 4) (j := 0) dX11_text_138 rfl ?_
                refine J_sipush (v := 157) dX11_text_140 (by decide) ?_
                refine J_icmp_ge (tgt := 176) dX11_text_143 (by decide) (fun q => absurd q (by decide)) (fun _ => ?_)
                refine J_iload_n (i := 1) (j := 3) dX11_text_146 rfl rfl ?_
                refine J_if_ne (tgt := 176) dX11_text_147 (by decide) (fun _ => ?_) (fun q => absurd q (by decide))
                refine J_iconst (v := 0) dX11_text_176 (by decide) ?_
                refine J_istore (i := 4) (lw := [(4, .int 0), (3, .int (u 167 1)), (0, .ref 162), (1, .int 1), (2, .int at0)]) dX11_text_177 (by decide) rfl ?_
                have lp517 : ∀ (n518 : Nat) (w504 : Int32) (u505 : Nat → Nat → Int32), Bd 0 37 w504 → (∀ c, c ≠ 169 → u505 c = u405 c) → AB u505 169 (-1) 999 → CRI u505 u405 169 37 (u 167 1).toInt.toNat w504.toInt.toNat → (37 - w504.toInt).toNat < n518 → J x yX11_text cX11_text 5 (some .int) d 0 0 (Wd u g ex).length 179 [(0, .ref 162), (1, .int 1), (3, .int (u 167 1)), (4, .int w504)] [] (Wd u505 g394 ex) 0 0 := by
                  intro n518
                  induction n518 with
                  | zero => intro w504 u505 bw504 fr506 ab507 hI521 hm520; exact absurd hm520 (Nat.not_lt_zero _)
                  | succ n518 ih519 =>
                    intro w504 u505 bw504 fr506 ab507 hI521 hm520
                    refine J_iload (i := 4) (j := 3) dX11_text_179 rfl ?_
                    refine J_bipush (v := 37) dX11_text_181 (by decide) ?_
                    refine J_icmp_ge (tgt := 216) dX11_text_183 (by decide) (fun c522 => ?_) (fun c522 => ?_)
                    · have hy526 := cri_e hI521 (bd_le_lo bw504 c522 (bd_c (v := 37) (lo := 37) (hi := 37) (by decide))) (by decide)
                      have hy527 := pl_cr hy526 (rp_c (ms_c e406 (by decide)) h399) (pl_c ((ms_c e406 (by decide)).trans ((fr400 169 (by decide) (by decide) (by decide) (by decide) (by decide)).trans ((ms_c e238 (by decide)).trans ((ms_c e236 (by decide)).trans ((ms_c e234 (by decide)).trans ((ms_c e232 (by decide)).trans (ms_c e230 (by decide)))))))) hp6)
                      refine J_iload_n (i := 3) (j := 2) dX11_text_216 rfl rfl ?_
                      exact J_iret hq dX11_text_217 rfl wlen (Nat.le_refl _) (Nat.le_refl _) ⟨(u 167 1), u505, g394, rfl, rfl, (ab_c ((fr506 164 (by decide)).trans ((ms_c e406 (by decide)).trans ((fr400 164 (by decide) (by decide) (by decide) (by decide) (by decide)).trans ((ms_c e238 (by decide)).trans (ms_c e236 (by decide)))))) (ab_s e234 (ab_c ((ms_c e232 (by decide)).trans (ms_c e230 (by decide))) hp0) (bd_w (l := 0) (h := 600) (bd_c (v := 0) (lo := 0) (hi := 0) (by decide)) (by decide)))), (ab_c ((fr506 168 (by decide)).trans ((ms_c e406 (by decide)).trans ((fr400 168 (by decide) (by decide) (by decide) (by decide) (by decide)).trans ((ms_c e238 (by decide)).trans ((ms_c e236 (by decide)).trans ((ms_c e234 (by decide)).trans ((ms_c e232 (by decide)).trans (ms_c e230 (by decide))))))))) hp1), ab507, (my_c (fr506 167 (by decide)) (my_s1 e406 (bd_w (l := 0) (h := 3) (bd_add (l := 1) (h := 3) (bd_ne_hi (hp3 0 (by decide)).2 c390 (by decide)) (bd_c (v := 1) (lo := 1) (hi := 1) (by decide)) (by decide)) (by decide)) (my_c ((fr400 167 (by decide) (by decide) (by decide) (by decide) (by decide)).trans ((ms_c e238 (by decide)).trans ((ms_c e236 (by decide)).trans ((ms_c e234 (by decide)).trans ((ms_c e232 (by decide)).trans (ms_c e230 (by decide))))))) hp3))), (hd_c ((fr506 168 (by decide)).trans ((ms_c e406 (by decide)).trans ((fr400 168 (by decide) (by decide) (by decide) (by decide) (by decide)).trans ((ms_c e238 (by decide)).trans ((ms_c e236 (by decide)).trans ((ms_c e234 (by decide)).trans ((ms_c e232 (by decide)).trans (ms_c e230 (by decide))))))))) hp4), (hc_c (fr506 167 (by decide)) (fr506 168 (by decide)) (hc_s1 e406 (hc_c ((fr400 167 (by decide) (by decide) (by decide) (by decide) (by decide)).trans ((ms_c e238 (by decide)).trans ((ms_c e236 (by decide)).trans ((ms_c e234 (by decide)).trans ((ms_c e232 (by decide)).trans (ms_c e230 (by decide))))))) ((fr400 168 (by decide) (by decide) (by decide) (by decide) (by decide)).trans ((ms_c e238 (by decide)).trans ((ms_c e236 (by decide)).trans ((ms_c e234 (by decide)).trans ((ms_c e232 (by decide)).trans (ms_c e230 (by decide))))))) hp5))), hy527, (bd_r ((congrFun (fr506 162 (by decide)) 12).trans (congrFun (ms_c e406 (by decide)) 12)) h396), (bd_r ((congrFun (fr506 162 (by decide)) 17).trans (congrFun (ms_c e406 (by decide)) 17)) h397), (ab_c ((fr506 171 (by decide)).trans (ms_c e406 (by decide))) h398), (ab_c ((fr506 170 (by decide)).trans (ms_c e406 (by decide))) (h399).1), (fun c k0_ k1_ k2_ k3_ k4_ k5_ k6_ k7_ k8_ => ((fr506 c k6_).trans ((ms_c e406 k4_).trans ((fr400 c k0_ k2_ k3_ k7_ k8_).trans ((ms_c e238 k3_).trans ((ms_c e236 k2_).trans ((ms_c e234 k1_).trans ((ms_c e232 k0_).trans (ms_c e230 k0_))))))))), (fun j k0_ k8_ k9_ k10_ k11_ k12_ k14_ k15_ k16_ k17_ k18_ => ((congrFun (fr506 162 (by decide)) j).trans ((congrFun (ms_c e406 (by decide)) j).trans ((fc401 j k8_ k10_ k11_ k12_ k14_ k15_ k16_ k17_ k18_).trans ((congrFun (ms_c e238 (by decide)) j).trans ((congrFun (ms_c e236 (by decide)) j).trans ((congrFun (ms_c e234 (by decide)) j).trans ((ms_i e232 k9_).trans (ms_i e230 k0_)))))))))⟩
                    · refine J_iload_n (i := 1) (j := 1) dX11_text_186 rfl rfl ?_
                      refine J_iconst (v := 1) dX11_text_187 (by decide) ?_
                      refine J_icmp_ne (tgt := 216) dX11_text_188 (by decide) (fun q => absurd (by decide) q) (fun _ => ?_)
                      refine J_aload_n (i := 0) (j := 0) dX11_text_191 rfl rfl ?_
                      refine J_get (C := RX11) (T := TX11) (Z := 43) (ci := 11) (f := 7) dX11_text_192 inG11 rfl (by decide) k1271 wc_162 rfl ?_
                      refine J_bipush (v := 37) dX11_text_195 (by decide) ?_
                      refine J_iload_n (i := 3) (j := 2) dX11_text_197 rfl rfl ?_
                      refine J_imul dX11_text_198 ?_
                      refine J_iload (i := 4) (j := 3) dX11_text_199 rfl ?_
                      refine J_iadd dX11_text_201 ?_
                      refine J_aload_n (i := 0) (j := 0) dX11_text_202 rfl rfl ?_
                      refine J_get (C := RX11) (T := TX11) (Z := 43) (ci := 11) (f := 19) dX11_text_203 inG11 rfl (by decide) k1283 wc_162 rfl ?_
                      refine J_iload (i := 4) (j := 3) dX11_text_206 rfl ?_
                      refine J_iald dX11_text_208 wc_170 (vin (bd_lt_hi bw504 (i_nle c522) (bd_c (v := 37) (lo := 37) (hi := 37) (by decide))) (by decide)) ?_
                      refine J_topi (fun v528 qv528 => ?_)
                      obtain ⟨u529, e530⟩ : ∃ z, z = ms u505 169 ((((37 : Int32) * (u 167 1)) + w504).toNatClampNeg) v528 := ⟨_, rfl⟩
                      refine J_iast dX11_text_209 wc_169 (vin (bd_add (l := 0) (h := 110) (bd_mul (l := 0) (h := 74) (bd_c (v := 37) (lo := 37) (hi := 37) (by decide)) (bd_ne_hi (hp3 0 (by decide)).2 c390 (by decide)) (by decide)) (bd_lt_hi bw504 (i_nle c522) (bd_c (v := 37) (lo := 37) (hi := 37) (by decide))) (by decide)) (by decide)) (ws e530 wk_169 rfl) ?_
                      refine J_iinc (i := 4) (j := 3) (v := (w504 + 1)) (lw := [(4, .int (w504 + 1)), (0, .ref 162), (1, .int 1), (3, .int (u 167 1))]) dX11_text_210 rfl rfl (by decide) rfl ?_
                      refine J_goto (tgt := 179) dX11_text_213 (by decide) ?_
                      refine J_lv [1, 2, 3, 0] rfl ?_
                      exact ih519 (w504 + 1) u529 (bd_w (l := 0) (h := 37) (bd_add (l := 1) (h := 37) (bd_lt_hi bw504 (i_nle c522) (bd_c (v := 37) (lo := 37) (hi := 37) (by decide))) (bd_c (v := 1) (lo := 1) (hi := 1) (by decide)) (by decide)) (by decide)) (fun c k0_ => ((ms_c e530 k0_).trans (fr506 c k0_))) (ab_s e530 ab507 (bd_r qv528 ((ab_c ((fr506 170 (by decide)).trans (ms_c e406 (by decide))) (h399).1) w504.toNatClampNeg))) (cri_s (n := 37) (N := 37) hI521 rfl (by decide) (bd_w (l := 0) (h := 3) (bd_ne_hi (hp3 0 (by decide)).2 c390 (by decide)) (by decide)) (bd_w (l := 0) (h := 600) (bd_lt_hi bw504 (i_nle c522) (bd_c (v := 37) (lo := 37) (hi := 37) (by decide))) (by decide)) e530 (qv528.trans (congrFun (fr506 170 (by decide)) _))) (mu_up 1 bw504 rfl (by decide) (bd_w (l := 1) (h := 37) (bd_add (l := 1) (h := 37) (bd_lt_hi bw504 (i_nle c522) (bd_c (v := 37) (lo := 37) (hi := 37) (by decide))) (bd_c (v := 1) (lo := 1) (hi := 1) (by decide)) (by decide)) (by decide)) hm520)
                refine J_lv [2, 3, 1, 0] rfl ?_
                exact lp517 _ (0 : Int32) u405 (bd_w (l := 0) (h := 37) (bd_c (v := 0) (lo := 0) (hi := 0) (by decide)) (by decide)) (fun c k0_ => rfl) (ab_c ((ms_c e406 (by decide)).trans ((fr400 169 (by decide) (by decide) (by decide) (by decide) (by decide)).trans ((ms_c e238 (by decide)).trans ((ms_c e236 (by decide)).trans ((ms_c e234 (by decide)).trans ((ms_c e232 (by decide)).trans (ms_c e230 (by decide)))))))) hp2) (cri_0 rfl) (Nat.lt_succ_self _)
          · refine J_iconst (v := (-1)) dX11_text_98 (by decide) ?_
            exact J_iret hq dX11_text_99 rfl wlen (Nat.le_refl _) (Nat.le_refl _) ⟨((-1) : Int32), u393, g394, rfl, rfl, (ab_c ((fr400 164 (by decide) (by decide) (by decide) (by decide) (by decide)).trans ((ms_c e238 (by decide)).trans (ms_c e236 (by decide)))) (ab_s e234 (ab_c ((ms_c e232 (by decide)).trans (ms_c e230 (by decide))) hp0) (bd_w (l := 0) (h := 600) (bd_c (v := 0) (lo := 0) (hi := 0) (by decide)) (by decide)))), (ab_c ((fr400 168 (by decide) (by decide) (by decide) (by decide) (by decide)).trans ((ms_c e238 (by decide)).trans ((ms_c e236 (by decide)).trans ((ms_c e234 (by decide)).trans ((ms_c e232 (by decide)).trans (ms_c e230 (by decide))))))) hp1), (ab_c ((fr400 169 (by decide) (by decide) (by decide) (by decide) (by decide)).trans ((ms_c e238 (by decide)).trans ((ms_c e236 (by decide)).trans ((ms_c e234 (by decide)).trans ((ms_c e232 (by decide)).trans (ms_c e230 (by decide))))))) hp2), (my_c ((fr400 167 (by decide) (by decide) (by decide) (by decide) (by decide)).trans ((ms_c e238 (by decide)).trans ((ms_c e236 (by decide)).trans ((ms_c e234 (by decide)).trans ((ms_c e232 (by decide)).trans (ms_c e230 (by decide))))))) hp3), (hd_c ((fr400 168 (by decide) (by decide) (by decide) (by decide) (by decide)).trans ((ms_c e238 (by decide)).trans ((ms_c e236 (by decide)).trans ((ms_c e234 (by decide)).trans ((ms_c e232 (by decide)).trans (ms_c e230 (by decide))))))) hp4), (hc_c ((fr400 167 (by decide) (by decide) (by decide) (by decide) (by decide)).trans ((ms_c e238 (by decide)).trans ((ms_c e236 (by decide)).trans ((ms_c e234 (by decide)).trans ((ms_c e232 (by decide)).trans (ms_c e230 (by decide))))))) ((fr400 168 (by decide) (by decide) (by decide) (by decide) (by decide)).trans ((ms_c e238 (by decide)).trans ((ms_c e236 (by decide)).trans ((ms_c e234 (by decide)).trans ((ms_c e232 (by decide)).trans (ms_c e230 (by decide))))))) hp5), (pl_c ((fr400 169 (by decide) (by decide) (by decide) (by decide) (by decide)).trans ((ms_c e238 (by decide)).trans ((ms_c e236 (by decide)).trans ((ms_c e234 (by decide)).trans ((ms_c e232 (by decide)).trans (ms_c e230 (by decide))))))) hp6), h396, h397, h398, (h399).1, (fun c k0_ k1_ k2_ k3_ k4_ k5_ k6_ k7_ k8_ => ((fr400 c k0_ k2_ k3_ k7_ k8_).trans ((ms_c e238 k3_).trans ((ms_c e236 k2_).trans ((ms_c e234 k1_).trans ((ms_c e232 k0_).trans (ms_c e230 k0_))))))), (fun j k0_ k8_ k9_ k10_ k11_ k12_ k14_ k15_ k16_ k17_ k18_ => ((fc401 j k8_ k10_ k11_ k12_ k14_ k15_ k16_ k17_ k18_).trans ((congrFun (ms_c e238 (by decide)) j).trans ((congrFun (ms_c e236 (by decide)) j).trans ((congrFun (ms_c e234 (by decide)) j).trans ((ms_i e232 k9_).trans (ms_i e230 k0_)))))))⟩
        · refine J_goto (tgt := 87) dX11_text_68 (by decide) ?_
          refine J_bipush (v := (-2)) dX11_text_87 (by decide) ?_
          exact J_iret hq dX11_text_89 rfl wlen (Nat.le_refl _) (Nat.le_refl _) ⟨((-2) : Int32), u237, g, rfl, rfl, (ab_c ((ms_c e238 (by decide)).trans (ms_c e236 (by decide))) (ab_s e234 (ab_c ((ms_c e232 (by decide)).trans (ms_c e230 (by decide))) hp0) (bd_w (l := 0) (h := 600) (bd_c (v := 0) (lo := 0) (hi := 0) (by decide)) (by decide)))), (ab_c ((ms_c e238 (by decide)).trans ((ms_c e236 (by decide)).trans ((ms_c e234 (by decide)).trans ((ms_c e232 (by decide)).trans (ms_c e230 (by decide)))))) hp1), (ab_c ((ms_c e238 (by decide)).trans ((ms_c e236 (by decide)).trans ((ms_c e234 (by decide)).trans ((ms_c e232 (by decide)).trans (ms_c e230 (by decide)))))) hp2), (my_c ((ms_c e238 (by decide)).trans ((ms_c e236 (by decide)).trans ((ms_c e234 (by decide)).trans ((ms_c e232 (by decide)).trans (ms_c e230 (by decide)))))) hp3), (hd_c ((ms_c e238 (by decide)).trans ((ms_c e236 (by decide)).trans ((ms_c e234 (by decide)).trans ((ms_c e232 (by decide)).trans (ms_c e230 (by decide)))))) hp4), (hc_c ((ms_c e238 (by decide)).trans ((ms_c e236 (by decide)).trans ((ms_c e234 (by decide)).trans ((ms_c e232 (by decide)).trans (ms_c e230 (by decide)))))) ((ms_c e238 (by decide)).trans ((ms_c e236 (by decide)).trans ((ms_c e234 (by decide)).trans ((ms_c e232 (by decide)).trans (ms_c e230 (by decide)))))) hp5), (pl_c ((ms_c e238 (by decide)).trans ((ms_c e236 (by decide)).trans ((ms_c e234 (by decide)).trans ((ms_c e232 (by decide)).trans (ms_c e230 (by decide)))))) hp6), (bd_r ((congrFun (ms_c e238 (by decide)) 12).trans ((congrFun (ms_c e236 (by decide)) 12).trans ((congrFun (ms_c e234 (by decide)) 12).trans ((ms_i e232 (by decide)).trans (ms_i e230 (by decide)))))) hp7), (bd_r ((congrFun (ms_c e238 (by decide)) 17).trans ((congrFun (ms_c e236 (by decide)) 17).trans ((congrFun (ms_c e234 (by decide)) 17).trans ((ms_i e232 (by decide)).trans (ms_i e230 (by decide)))))) hp8), (ab_c ((ms_c e238 (by decide)).trans ((ms_c e236 (by decide)).trans ((ms_c e234 (by decide)).trans ((ms_c e232 (by decide)).trans (ms_c e230 (by decide)))))) hp9), (ab_c ((ms_c e238 (by decide)).trans ((ms_c e236 (by decide)).trans ((ms_c e234 (by decide)).trans ((ms_c e232 (by decide)).trans (ms_c e230 (by decide)))))) hp10), (fun c k0_ k1_ k2_ k3_ k4_ k5_ k6_ k7_ k8_ => ((ms_c e238 k3_).trans ((ms_c e236 k2_).trans ((ms_c e234 k1_).trans ((ms_c e232 k0_).trans (ms_c e230 k0_)))))), (fun j k0_ k8_ k9_ k10_ k11_ k12_ k14_ k15_ k16_ k17_ k18_ => ((congrFun (ms_c e238 (by decide)) j).trans ((congrFun (ms_c e236 (by decide)) j).trans ((congrFun (ms_c e234 (by decide)) j).trans ((ms_i e232 k9_).trans (ms_i e230 k0_))))))⟩
  · refine J_aload_n (i := 0) (j := 0) dX11_text_0 rfl rfl ?_
    refine J_iconst (v := 0) dX11_text_1 (by decide) ?_
    obtain ⟨u531, e532⟩ : ∃ z, z = ms u 162 0 0 := ⟨_, rfl⟩
    refine J_put (C := RX11) (T := TX11) (Z := 43) (ci := 11) (f := 0) (ty0 := tyX11) dX11_text_2 inG11 rfl tyX11_ok nmX11 (by decide) k1264 rfl rfl wc_162 (Nat.le_of_ble_eq_true rfl) (fun _ _ => ⟨rfl, rfl⟩) (ws e532 wk_162 rfl) ?_
    refine J_aload_n (i := 0) (j := 0) dX11_text_5 rfl rfl ?_
    refine J_aload_n (i := 0) (j := 0) dX11_text_6 rfl rfl ?_
    refine J_get (C := RX11) (T := TX11) (Z := 43) (ci := 11) (f := 2) dX11_text_7 inG11 rfl (by decide) k1266 wc_162 rfl ?_
    refine J_iconst (v := 0) dX11_text_10 (by decide) ?_
    refine J_iald dX11_text_11 wc_164 (vin (bd_c (v := 0) (lo := 0) (hi := 0) (by decide)) (by decide)) ?_
    refine J_ci (v := u 164 0) (congrFun (ms_c e532 (by decide)) 0) ?_
    obtain ⟨u533, e534⟩ : ∃ z, z = ms u531 162 9 (u 164 0) := ⟨_, rfl⟩
    refine J_put (C := RX11) (T := TX11) (Z := 43) (ci := 11) (f := 9) (ty0 := tyX11) dX11_text_12 inG11 rfl tyX11_ok nmX11 (by decide) k1273 rfl rfl wc_162 (Nat.le_of_ble_eq_true rfl) (fun _ _ => ⟨rfl, rfl⟩) (ws e534 wk_162 rfl) ?_
    refine J_aload_n (i := 0) (j := 0) dX11_text_15 rfl rfl ?_
    refine J_get (C := RX11) (T := TX11) (Z := 43) (ci := 11) (f := 2) dX11_text_16 inG11 rfl (by decide) k1266 wc_162 rfl ?_
    refine J_iconst (v := 0) dX11_text_19 (by decide) ?_
    refine J_iconst (v := 0) dX11_text_20 (by decide) ?_
    obtain ⟨u535, e536⟩ : ∃ z, z = ms u533 164 0 0 := ⟨_, rfl⟩
    refine J_iast dX11_text_21 wc_164 (vin (bd_c (v := 0) (lo := 0) (hi := 0) (by decide)) (by decide)) (ws e536 wk_164 rfl) ?_
    refine J_aload_n (i := 0) (j := 0) dX11_text_22 rfl rfl ?_
    refine J_get (C := RX11) (T := TX11) (Z := 43) (ci := 11) (f := 3) dX11_text_23 inG11 rfl (by decide) k1267 wc_162 rfl ?_
    refine J_iconst (v := 0) dX11_text_26 (by decide) ?_
    refine J_iconst (v := 0) dX11_text_27 (by decide) ?_
    obtain ⟨u537, e538⟩ : ∃ z, z = ms u535 165 0 0 := ⟨_, rfl⟩
    refine J_iast dX11_text_28 wc_165 (vin (bd_c (v := 0) (lo := 0) (hi := 0) (by decide)) (by decide)) (ws e538 wk_165 rfl) ?_
    refine J_aload_n (i := 0) (j := 0) dX11_text_29 rfl rfl ?_
    refine J_get (C := RX11) (T := TX11) (Z := 43) (ci := 11) (f := 4) dX11_text_30 inG11 rfl (by decide) k1268 wc_162 rfl ?_
    refine J_iconst (v := 0) dX11_text_33 (by decide) ?_
    refine J_iconst (v := (-1)) dX11_text_34 (by decide) ?_
    obtain ⟨u539, e540⟩ : ∃ z, z = ms u537 166 0 (-1) := ⟨_, rfl⟩
    refine J_iast dX11_text_35 wc_166 (vin (bd_c (v := 0) (lo := 0) (hi := 0) (by decide)) (by decide)) (ws e540 wk_166 rfl) ?_
    refine J_iload_n (i := 1) (j := 1) dX11_text_36 rfl rfl ?_
    refine J_iconst (v := 0) dX11_text_37 (by decide) ?_
    refine J_iconst (v := 1) dX11_text_38 (by decide) ?_
    refine J_callS (As := [.int sort, .int 0, .int 1]) (rest := []) dX11_text_39 (c_M_in (d := 0) (u := u539) (g := g) (ex := ex) (v := sort) (low := 0) (high := 1)  (by decide) ) hq.n k1406 k1407 k97 k1408 np_X11_in (Nat.le_trans (by decide) hd) (by decide) (Nat.le_refl _) (Nat.le_refl _) wlen rfl (Nat.le_of_ble_eq_true rfl) (fun r_ h_ p541 => ?_)
    obtain ⟨t542, rfl, rfl, h543, h544⟩ := p541
    refine J_ifB_eq (tgt := 87) dX11_text_42 (by decide) (fun c545 => ?_) (fun c545 => ?_)
    · refine J_bipush (v := (-2)) dX11_text_87 (by decide) ?_
      exact J_iret hq dX11_text_89 rfl wlen (Nat.le_refl _) (Nat.le_refl _) ⟨((-2) : Int32), u539, g, rfl, rfl, (ab_c ((ms_c e540 (by decide)).trans (ms_c e538 (by decide))) (ab_s e536 (ab_c ((ms_c e534 (by decide)).trans (ms_c e532 (by decide))) hp0) (bd_w (l := 0) (h := 600) (bd_c (v := 0) (lo := 0) (hi := 0) (by decide)) (by decide)))), (ab_c ((ms_c e540 (by decide)).trans ((ms_c e538 (by decide)).trans ((ms_c e536 (by decide)).trans ((ms_c e534 (by decide)).trans (ms_c e532 (by decide)))))) hp1), (ab_c ((ms_c e540 (by decide)).trans ((ms_c e538 (by decide)).trans ((ms_c e536 (by decide)).trans ((ms_c e534 (by decide)).trans (ms_c e532 (by decide)))))) hp2), (my_c ((ms_c e540 (by decide)).trans ((ms_c e538 (by decide)).trans ((ms_c e536 (by decide)).trans ((ms_c e534 (by decide)).trans (ms_c e532 (by decide)))))) hp3), (hd_c ((ms_c e540 (by decide)).trans ((ms_c e538 (by decide)).trans ((ms_c e536 (by decide)).trans ((ms_c e534 (by decide)).trans (ms_c e532 (by decide)))))) hp4), (hc_c ((ms_c e540 (by decide)).trans ((ms_c e538 (by decide)).trans ((ms_c e536 (by decide)).trans ((ms_c e534 (by decide)).trans (ms_c e532 (by decide)))))) ((ms_c e540 (by decide)).trans ((ms_c e538 (by decide)).trans ((ms_c e536 (by decide)).trans ((ms_c e534 (by decide)).trans (ms_c e532 (by decide)))))) hp5), (pl_c ((ms_c e540 (by decide)).trans ((ms_c e538 (by decide)).trans ((ms_c e536 (by decide)).trans ((ms_c e534 (by decide)).trans (ms_c e532 (by decide)))))) hp6), (bd_r ((congrFun (ms_c e540 (by decide)) 12).trans ((congrFun (ms_c e538 (by decide)) 12).trans ((congrFun (ms_c e536 (by decide)) 12).trans ((ms_i e534 (by decide)).trans (ms_i e532 (by decide)))))) hp7), (bd_r ((congrFun (ms_c e540 (by decide)) 17).trans ((congrFun (ms_c e538 (by decide)) 17).trans ((congrFun (ms_c e536 (by decide)) 17).trans ((ms_i e534 (by decide)).trans (ms_i e532 (by decide)))))) hp8), (ab_c ((ms_c e540 (by decide)).trans ((ms_c e538 (by decide)).trans ((ms_c e536 (by decide)).trans ((ms_c e534 (by decide)).trans (ms_c e532 (by decide)))))) hp9), (ab_c ((ms_c e540 (by decide)).trans ((ms_c e538 (by decide)).trans ((ms_c e536 (by decide)).trans ((ms_c e534 (by decide)).trans (ms_c e532 (by decide)))))) hp10), (fun c k0_ k1_ k2_ k3_ k4_ k5_ k6_ k7_ k8_ => ((ms_c e540 k3_).trans ((ms_c e538 k2_).trans ((ms_c e536 k1_).trans ((ms_c e534 k0_).trans (ms_c e532 k0_)))))), (fun j k0_ k8_ k9_ k10_ k11_ k12_ k14_ k15_ k16_ k17_ k18_ => ((congrFun (ms_c e540 (by decide)) j).trans ((congrFun (ms_c e538 (by decide)) j).trans ((congrFun (ms_c e536 (by decide)) j).trans ((ms_i e534 k9_).trans (ms_i e532 k0_))))))⟩
    · exact (bd_no (bd_ne_lo (bd_ne_lo (bd_le_hi (bd_le_lo (bd_any sort) (h543 c545) (bd_c (v := 0) (lo := 0) (hi := 0) (by decide))) (h544 c545) (bd_c (v := 1) (lo := 1) (hi := 1) (by decide))) hs0 (by decide)) hs1 (by decide)) (by decide)).elim
