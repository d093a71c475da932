/-! the model's text, on a fresh object -/
def RV (o : Int32) (k : Nat) : Int32 := if o = 0 ∧ 2 ≤ k ∧ k ≤ 4 then 1 else 0
theorem rv_up {g : Nat → Int32} {v o : Int32} {k : Nat} (hk : k < 2 ^ 31) (hg : ∀ i, i < k → g i = RV o i) (hv : v = RV o k) : ∀ i, i < k + 1 → upd g ((nI k).toNatClampNeg) v i = RV o i := by
  intro i hi
  rw [nI_clamp hk]
  by_cases h : i = k
  · subst h; rw [pk_us]; exact hv
  · rw [pk_un h]; exact hg i (by omega)
theorem rv_c {k : Nat} (hk : k < 2 ^ 31) : (!decide (nI k < 2) && !decide ((4 : Int32) < nI k)) = decide (2 ≤ k ∧ k ≤ 4) := by
  have e1 : (nI k < 2) ↔ k < 2 := nI_ltI (b := 2) hk (by omega)
  have e2 : ((4 : Int32) < nI k) ↔ 4 < k := nI_ltI (a := 4) (by omega) hk
  simp only [e1, e2]
  by_cases h1 : k < 2
  · simp [h1]; omega
  · by_cases h2 : 4 < k
    · simp [h2, h1]
    · simp [h1, h2]; omega
theorem rv_t {k : Nat} (hk : k < 2 ^ 31) (c : (!decide (nI k < 2) && !decide ((4 : Int32) < nI k)) = true) : (1 : Int32) = RV 0 k := by
  rw [rv_c hk] at c
  have := of_decide_eq_true c
  simp [RV, this]
theorem rv_f {k : Nat} (hk : k < 2 ^ 31) (c : (!decide (nI k < 2) && !decide ((4 : Int32) < nI k)) = false) : (0 : Int32) = RV 0 k := by
  rw [rv_c hk] at c
  have := of_decide_eq_false c
  simp [RV, this]
theorem rv_1 {k : Nat} : (0 : Int32) = RV 1 k := by simp [RV]
theorem in01 {s : Int32} (h0 : ¬ s = 0) (h1 : ¬ s = 1) : (!decide (s < 0) && !decide ((1 : Int32) < s)) = false := by
  cases h : (!decide (s < 0) && !decide ((1 : Int32) < s)) with
  | false => rfl
  | true =>
    have := cn1 h
    simp [h0, h1] at this
theorem k1272 : Cond.fieldLink RX11 86 "PondStairModel" "ahead" "I" ∈ gt := gt_in 1272 (by decide +kernel) (by decide +kernel)
theorem k1279 : Cond.fieldLink RX11 112 "PondStairModel" "laterFault" "I" ∈ gt := gt_in 1279 (by decide +kernel) (by decide +kernel)
theorem k1273 : Cond.fieldLink RX11 89 "PondStairModel" "length" "I" ∈ gt := gt_in 1273 (by decide +kernel) (by decide +kernel)
theorem k1421 : Cond.methodLink RX11 92 yX11_see ∈ gt := gt_in 1421 (by decide +kernel) (by decide +kernel)
theorem k1423 : Cond.instanceMethod yX11_see ∈ gt := gt_in 1423 (by decide +kernel) (by decide +kernel)
theorem k39 : Cond.selects RX11 yX11_see yX11_see ∈ gt := gt_in 39 (by decide +kernel) (by decide +kernel)
theorem k1424 : Cond.code yX11_see cX11_see 1 (some .int) ∈ gt := gt_in 1424 (by decide +kernel) (by decide +kernel)
theorem np_X11_see : yX11_see.cls ≠ "java/lang/invoke/MethodHandle" ∧ yX11_see.cls ≠ "java/lang/invoke/VarHandle" ∧ (parseMethodDescriptor yX11_see.desc).map (fun d => d.parameters.length) = some 0 := by decide +kernel
theorem k1274 : Cond.fieldLink RX11 96 "PondStairModel" "begins" "I" ∈ gt := gt_in 1274 (by decide +kernel) (by decide +kernel)
theorem k1277 : Cond.fieldLink RX11 99 "PondStairModel" "word" "J" ∈ gt := gt_in 1277 (by decide +kernel) (by decide +kernel)
theorem k1275 : Cond.fieldLink RX11 103 "PondStairModel" "sort" "I" ∈ gt := gt_in 1275 (by decide +kernel) (by decide +kernel)
theorem k1417 : Cond.methodLink RX11 133 yX11_token ∈ gt := gt_in 1417 (by decide +kernel) (by decide +kernel)
theorem k1419 : Cond.instanceMethod yX11_token ∈ gt := gt_in 1419 (by decide +kernel) (by decide +kernel)
theorem k38 : Cond.selects RX11 yX11_token yX11_token ∈ gt := gt_in 38 (by decide +kernel) (by decide +kernel)
theorem k1420 : Cond.code yX11_token cX11_token 3 none ∈ gt := gt_in 1420 (by decide +kernel) (by decide +kernel)
theorem np_X11_token : yX11_token.cls ≠ "java/lang/invoke/MethodHandle" ∧ yX11_token.cls ≠ "java/lang/invoke/VarHandle" ∧ (parseMethodDescriptor yX11_token.desc).map (fun d => d.parameters.length) = some 0 := by decide +kernel
theorem k1483 : Cond.methodLink RX11 199 yX11_endsHill ∈ gt := gt_in 1483 (by decide +kernel) (by decide +kernel)
theorem k1485 : Cond.instanceMethod yX11_endsHill ∈ gt := gt_in 1485 (by decide +kernel) (by decide +kernel)
theorem k50 : Cond.selects RX11 yX11_endsHill yX11_endsHill ∈ gt := gt_in 50 (by decide +kernel) (by decide +kernel)
theorem k1486 : Cond.code yX11_endsHill cX11_endsHill 3 none ∈ gt := gt_in 1486 (by decide +kernel) (by decide +kernel)
theorem np_X11_endsHill : yX11_endsHill.cls ≠ "java/lang/invoke/MethodHandle" ∧ yX11_endsHill.cls ≠ "java/lang/invoke/VarHandle" ∧ (parseMethodDescriptor yX11_endsHill.desc).map (fun d => d.parameters.length) = some 0 := by decide +kernel
theorem k1413 : Cond.methodLink RX11 202 yX11_readText ∈ gt := gt_in 1413 (by decide +kernel) (by decide +kernel)
theorem k1415 : Cond.instanceMethod yX11_readText ∈ gt := gt_in 1415 (by decide +kernel) (by decide +kernel)
theorem k37 : Cond.selects RX11 yX11_readText yX11_readText ∈ gt := gt_in 37 (by decide +kernel) (by decide +kernel)
theorem k1416 : Cond.code yX11_readText cX11_readText 4 (some .boolean) ∈ gt := gt_in 1416 (by decide +kernel) (by decide +kernel)
theorem np_X11_readText : yX11_readText.cls ≠ "java/lang/invoke/MethodHandle" ∧ yX11_readText.cls ≠ "java/lang/invoke/VarHandle" ∧ (parseMethodDescriptor yX11_readText.desc).map (fun d => d.parameters.length) = some 1 := by decide +kernel
theorem dX11_endsHill_0 : decode cX11_endsHill 0 = .ok (.iconst 0, 1) := by decide +kernel
theorem dX11_endsHill_1 : decode cX11_endsHill 1 = .ok (.istore_n 1, 1) := by decide +kernel
theorem dX11_endsHill_2 : decode cX11_endsHill 2 = .ok (.iconst 0, 1) := by decide +kernel
theorem dX11_endsHill_3 : decode cX11_endsHill 3 = .ok (.istore_n 2, 1) := by decide +kernel
theorem dX11_endsHill_4 : decode cX11_endsHill 4 = .ok (.iload_n 2, 1) := by decide +kernel
theorem dX11_endsHill_5 : decode cX11_endsHill 5 = .ok (.aload_n 0, 1) := by decide +kernel
theorem dX11_endsHill_6 : decode cX11_endsHill 6 = .ok (.getfield 32, 3) := by decide +kernel
theorem dX11_endsHill_9 : decode cX11_endsHill 9 = .ok (.iconst 1, 1) := by decide +kernel
theorem dX11_endsHill_10 : decode cX11_endsHill 10 = .ok (.iaload, 1) := by decide +kernel
theorem dX11_endsHill_11 : decode cX11_endsHill 11 = .ok (.if_icmp .ge 24, 3) := by decide +kernel
theorem dX11_endsHill_35 : decode cX11_endsHill 35 = .ok (.aload_n 0, 1) := by decide +kernel
theorem dX11_endsHill_36 : decode cX11_endsHill 36 = .ok (.getfield 32, 3) := by decide +kernel
theorem dX11_endsHill_39 : decode cX11_endsHill 39 = .ok (.iconst 1, 1) := by decide +kernel
theorem dX11_endsHill_40 : decode cX11_endsHill 40 = .ok (.iaload, 1) := by decide +kernel
theorem dX11_endsHill_41 : decode cX11_endsHill 41 = .ok (.ifCond .le 25, 3) := by decide +kernel
theorem dX11_endsHill_66 : decode cX11_endsHill 66 = .ok (.aload_n 0, 1) := by decide +kernel
theorem dX11_endsHill_67 : decode cX11_endsHill 67 = .ok (.getfield 32, 3) := by decide +kernel
theorem dX11_endsHill_70 : decode cX11_endsHill 70 = .ok (.iconst 1, 1) := by decide +kernel
theorem dX11_endsHill_71 : decode cX11_endsHill 71 = .ok (.iaload, 1) := by decide +kernel
theorem dX11_endsHill_72 : decode cX11_endsHill 72 = .ok (.ifCond .ne 26, 3) := by decide +kernel
theorem dX11_endsHill_75 : decode cX11_endsHill 75 = .ok (.aload_n 0, 1) := by decide +kernel
theorem dX11_endsHill_76 : decode cX11_endsHill 76 = .ok (.getfield 32, 3) := by decide +kernel
theorem dX11_endsHill_79 : decode cX11_endsHill 79 = .ok (.iconst 1, 1) := by decide +kernel
theorem dX11_endsHill_80 : decode cX11_endsHill 80 = .ok (.iconst 1, 1) := by decide +kernel
theorem dX11_endsHill_81 : decode cX11_endsHill 81 = .ok (.iastore, 1) := by decide +kernel
theorem dX11_endsHill_82 : decode cX11_endsHill 82 = .ok (.aload_n 0, 1) := by decide +kernel
theorem dX11_endsHill_83 : decode cX11_endsHill 83 = .ok (.getfield 32, 3) := by decide +kernel
theorem dX11_endsHill_86 : decode cX11_endsHill 86 = .ok (.iconst 5, 1) := by decide +kernel
theorem dX11_endsHill_87 : decode cX11_endsHill 87 = .ok (.iconst 0, 1) := by decide +kernel
theorem dX11_endsHill_88 : decode cX11_endsHill 88 = .ok (.iastore, 1) := by decide +kernel
theorem dX11_endsHill_89 : decode cX11_endsHill 89 = .ok (.aload_n 0, 1) := by decide +kernel
theorem dX11_endsHill_90 : decode cX11_endsHill 90 = .ok (.getfield 32, 3) := by decide +kernel
theorem dX11_endsHill_93 : decode cX11_endsHill 93 = .ok (.bipush 6, 2) := by decide +kernel
theorem dX11_endsHill_95 : decode cX11_endsHill 95 = .ok (.bipush 100, 2) := by decide +kernel
theorem dX11_endsHill_97 : decode cX11_endsHill 97 = .ok (.iastore, 1) := by decide +kernel
theorem dX11_endsHill_98 : decode cX11_endsHill 98 = .ok (.return_, 1) := by decide +kernel
theorem dX11_readText_0 : decode cX11_readText 0 = .ok (.iconst 0, 1) := by decide +kernel
theorem dX11_readText_1 : decode cX11_readText 1 = .ok (.istore_n 2, 1) := by decide +kernel
theorem dX11_readText_2 : decode cX11_readText 2 = .ok (.iload_n 2, 1) := by decide +kernel
theorem dX11_readText_3 : decode cX11_readText 3 = .ok (.sipush 157, 3) := by decide +kernel
theorem dX11_readText_6 : decode cX11_readText 6 = .ok (.if_icmp .ge 33, 3) := by decide +kernel
theorem dX11_readText_9 : decode cX11_readText 9 = .ok (.aload_n 0, 1) := by decide +kernel
theorem dX11_readText_10 : decode cX11_readText 10 = .ok (.getfield 32, 3) := by decide +kernel
theorem dX11_readText_13 : decode cX11_readText 13 = .ok (.iload_n 2, 1) := by decide +kernel
theorem dX11_readText_14 : decode cX11_readText 14 = .ok (.iload_n 1, 1) := by decide +kernel
theorem dX11_readText_15 : decode cX11_readText 15 = .ok (.ifCond .ne 16, 3) := by decide +kernel
theorem dX11_readText_18 : decode cX11_readText 18 = .ok (.iload_n 2, 1) := by decide +kernel
theorem dX11_readText_19 : decode cX11_readText 19 = .ok (.iconst 2, 1) := by decide +kernel
theorem dX11_readText_20 : decode cX11_readText 20 = .ok (.iconst 4, 1) := by decide +kernel
theorem dX11_readText_21 : decode cX11_readText 21 = .ok (.invokestatic 78, 3) := by decide +kernel
theorem dX11_readText_24 : decode cX11_readText 24 = .ok (.ifCond .eq 7, 3) := by decide +kernel
theorem dX11_readText_27 : decode cX11_readText 27 = .ok (.iconst 1, 1) := by decide +kernel
theorem dX11_readText_28 : decode cX11_readText 28 = .ok (.goto 4, 3) := by decide +kernel
theorem dX11_readText_31 : decode cX11_readText 31 = .ok (.iconst 0, 1) := by decide +kernel
theorem dX11_readText_32 : decode cX11_readText 32 = .ok (.iastore, 1) := by decide +kernel
theorem dX11_readText_33 : decode cX11_readText 33 = .ok (.iinc 2 1, 3) := by decide +kernel
theorem dX11_readText_36 : decode cX11_readText 36 = .ok (.goto (-34), 3) := by decide +kernel
theorem dX11_readText_39 : decode cX11_readText 39 = .ok (.aload_n 0, 1) := by decide +kernel
theorem dX11_readText_40 : decode cX11_readText 40 = .ok (.iconst 0, 1) := by decide +kernel
theorem dX11_readText_41 : decode cX11_readText 41 = .ok (.putfield 86, 3) := by decide +kernel
theorem dX11_readText_44 : decode cX11_readText 44 = .ok (.aload_n 0, 1) := by decide +kernel
theorem dX11_readText_45 : decode cX11_readText 45 = .ok (.iconst 0, 1) := by decide +kernel
theorem dX11_readText_46 : decode cX11_readText 46 = .ok (.putfield 112, 3) := by decide +kernel
theorem dX11_readText_49 : decode cX11_readText 49 = .ok (.iconst 1, 1) := by decide +kernel
theorem dX11_readText_50 : decode cX11_readText 50 = .ok (.istore_n 2, 1) := by decide +kernel
theorem dX11_readText_51 : decode cX11_readText 51 = .ok (.aload_n 0, 1) := by decide +kernel
theorem dX11_readText_52 : decode cX11_readText 52 = .ok (.invokevirtual 133, 3) := by decide +kernel
theorem dX11_readText_55 : decode cX11_readText 55 = .ok (.iload_n 2, 1) := by decide +kernel
theorem dX11_readText_56 : decode cX11_readText 56 = .ok (.ifCond .eq 66, 3) := by decide +kernel
theorem dX11_readText_59 : decode cX11_readText 59 = .ok (.aload_n 0, 1) := by decide +kernel
theorem dX11_readText_60 : decode cX11_readText 60 = .ok (.getfield 103, 3) := by decide +kernel
theorem dX11_readText_63 : decode cX11_readText 63 = .ok (.ifCond .eq 59, 3) := by decide +kernel
theorem dX11_readText_122 : decode cX11_readText 122 = .ok (.iload_n 2, 1) := by decide +kernel
theorem dX11_readText_123 : decode cX11_readText 123 = .ok (.ifCond .eq 11, 3) := by decide +kernel
theorem dX11_readText_126 : decode cX11_readText 126 = .ok (.iload_n 1, 1) := by decide +kernel
theorem dX11_readText_127 : decode cX11_readText 127 = .ok (.ifCond .ne 7, 3) := by decide +kernel
theorem dX11_readText_130 : decode cX11_readText 130 = .ok (.aload_n 0, 1) := by decide +kernel
theorem dX11_readText_131 : decode cX11_readText 131 = .ok (.invokevirtual 199, 3) := by decide +kernel
theorem dX11_readText_134 : decode cX11_readText 134 = .ok (.aload_n 0, 1) := by decide +kernel
theorem dX11_readText_135 : decode cX11_readText 135 = .ok (.getfield 17, 3) := by decide +kernel
theorem dX11_readText_138 : decode cX11_readText 138 = .ok (.iconst 0, 1) := by decide +kernel
theorem dX11_readText_139 : decode cX11_readText 139 = .ok (.iload_n 2, 1) := by decide +kernel
theorem dX11_readText_140 : decode cX11_readText 140 = .ok (.ifCond .eq 10, 3) := by decide +kernel
theorem dX11_readText_143 : decode cX11_readText 143 = .ok (.aload_n 0, 1) := by decide +kernel
theorem dX11_readText_144 : decode cX11_readText 144 = .ok (.getfield 112, 3) := by decide +kernel
theorem dX11_readText_147 : decode cX11_readText 147 = .ok (.goto 4, 3) := by decide +kernel
theorem dX11_readText_151 : decode cX11_readText 151 = .ok (.iastore, 1) := by decide +kernel
theorem dX11_readText_152 : decode cX11_readText 152 = .ok (.aload_n 0, 1) := by decide +kernel
theorem dX11_readText_153 : decode cX11_readText 153 = .ok (.getfield 20, 3) := by decide +kernel
theorem dX11_readText_156 : decode cX11_readText 156 = .ok (.iconst 0, 1) := by decide +kernel
theorem dX11_readText_157 : decode cX11_readText 157 = .ok (.iload_n 2, 1) := by decide +kernel
theorem dX11_readText_158 : decode cX11_readText 158 = .ok (.ifCond .ne 10, 3) := by decide +kernel
theorem dX11_readText_168 : decode cX11_readText 168 = .ok (.aload_n 0, 1) := by decide +kernel
theorem dX11_readText_169 : decode cX11_readText 169 = .ok (.getfield 112, 3) := by decide +kernel
theorem dX11_readText_172 : decode cX11_readText 172 = .ok (.ifCond .le 10, 3) := by decide +kernel
theorem dX11_readText_182 : decode cX11_readText 182 = .ok (.iconst (-1), 1) := by decide +kernel
theorem dX11_readText_183 : decode cX11_readText 183 = .ok (.iastore, 1) := by decide +kernel
theorem dX11_readText_184 : decode cX11_readText 184 = .ok (.aload_n 0, 1) := by decide +kernel
theorem dX11_readText_185 : decode cX11_readText 185 = .ok (.getfield 17, 3) := by decide +kernel
theorem dX11_readText_188 : decode cX11_readText 188 = .ok (.iconst 0, 1) := by decide +kernel
theorem dX11_readText_189 : decode cX11_readText 189 = .ok (.iaload, 1) := by decide +kernel
theorem dX11_readText_190 : decode cX11_readText 190 = .ok (.ifCond .ne 7, 3) := by decide +kernel
theorem dX11_readText_193 : decode cX11_readText 193 = .ok (.iconst 1, 1) := by decide +kernel
theorem dX11_readText_194 : decode cX11_readText 194 = .ok (.goto 4, 3) := by decide +kernel
theorem dX11_readText_198 : decode cX11_readText 198 = .ok (.ireturn, 1) := by decide +kernel
theorem dX11_see_0 : decode cX11_see 0 = .ok (.aload_n 0, 1) := by decide +kernel
theorem dX11_see_1 : decode cX11_see 1 = .ok (.getfield 86, 3) := by decide +kernel
theorem dX11_see_4 : decode cX11_see 4 = .ok (.aload_n 0, 1) := by decide +kernel
theorem dX11_see_5 : decode cX11_see 5 = .ok (.getfield 89, 3) := by decide +kernel
theorem dX11_see_8 : decode cX11_see 8 = .ok (.if_icmp .ge 19, 3) := by decide +kernel
theorem dX11_see_27 : decode cX11_see 27 = .ok (.iconst (-1), 1) := by decide +kernel
theorem dX11_see_28 : decode cX11_see 28 = .ok (.ireturn, 1) := by decide +kernel
theorem dX11_text_0 : decode cX11_text 0 = .ok (.aload_n 0, 1) := by decide +kernel
theorem dX11_text_1 : decode cX11_text 1 = .ok (.iconst 0, 1) := by decide +kernel
theorem dX11_text_2 : decode cX11_text 2 = .ok (.putfield 70, 3) := by decide +kernel
theorem dX11_text_5 : decode cX11_text 5 = .ok (.aload_n 0, 1) := by decide +kernel
theorem dX11_text_6 : decode cX11_text 6 = .ok (.aload_n 0, 1) := by decide +kernel
theorem dX11_text_7 : decode cX11_text 7 = .ok (.getfield 13, 3) := by decide +kernel
theorem dX11_text_10 : decode cX11_text 10 = .ok (.iconst 0, 1) := by decide +kernel
theorem dX11_text_11 : decode cX11_text 11 = .ok (.iaload, 1) := by decide +kernel
theorem dX11_text_12 : decode cX11_text 12 = .ok (.putfield 89, 3) := by decide +kernel
theorem dX11_text_15 : decode cX11_text 15 = .ok (.aload_n 0, 1) := by decide +kernel
theorem dX11_text_16 : decode cX11_text 16 = .ok (.getfield 13, 3) := by decide +kernel
theorem dX11_text_19 : decode cX11_text 19 = .ok (.iconst 0, 1) := by decide +kernel
theorem dX11_text_20 : decode cX11_text 20 = .ok (.iconst 0, 1) := by decide +kernel
theorem dX11_text_21 : decode cX11_text 21 = .ok (.iastore, 1) := by decide +kernel
theorem dX11_text_22 : decode cX11_text 22 = .ok (.aload_n 0, 1) := by decide +kernel
theorem dX11_text_23 : decode cX11_text 23 = .ok (.getfield 17, 3) := by decide +kernel
theorem dX11_text_26 : decode cX11_text 26 = .ok (.iconst 0, 1) := by decide +kernel
theorem dX11_text_27 : decode cX11_text 27 = .ok (.iconst 0, 1) := by decide +kernel
theorem dX11_text_28 : decode cX11_text 28 = .ok (.iastore, 1) := by decide +kernel
theorem dX11_text_29 : decode cX11_text 29 = .ok (.aload_n 0, 1) := by decide +kernel
theorem dX11_text_30 : decode cX11_text 30 = .ok (.getfield 20, 3) := by decide +kernel
theorem dX11_text_33 : decode cX11_text 33 = .ok (.iconst 0, 1) := by decide +kernel
theorem dX11_text_34 : decode cX11_text 34 = .ok (.iconst (-1), 1) := by decide +kernel
theorem dX11_text_35 : decode cX11_text 35 = .ok (.iastore, 1) := by decide +kernel
theorem dX11_text_36 : decode cX11_text 36 = .ok (.iload_n 1, 1) := by decide +kernel
theorem dX11_text_37 : decode cX11_text 37 = .ok (.iconst 0, 1) := by decide +kernel
theorem dX11_text_38 : decode cX11_text 38 = .ok (.iconst 1, 1) := by decide +kernel
theorem dX11_text_39 : decode cX11_text 39 = .ok (.invokestatic 78, 3) := by decide +kernel
theorem dX11_text_42 : decode cX11_text 42 = .ok (.ifCond .eq 45, 3) := by decide +kernel
theorem dX11_text_45 : decode cX11_text 45 = .ok (.iload_n 2, 1) := by decide +kernel
theorem dX11_text_46 : decode cX11_text 46 = .ok (.iconst (-1), 1) := by decide +kernel
theorem dX11_text_47 : decode cX11_text 47 = .ok (.if_icmp .ne 24, 3) := by decide +kernel
theorem dX11_text_50 : decode cX11_text 50 = .ok (.aload_n 0, 1) := by decide +kernel
theorem dX11_text_51 : decode cX11_text 51 = .ok (.getfield 23, 3) := by decide +kernel
theorem dX11_text_54 : decode cX11_text 54 = .ok (.iload_n 1, 1) := by decide +kernel
theorem dX11_text_55 : decode cX11_text 55 = .ok (.iaload, 1) := by decide +kernel
theorem dX11_text_56 : decode cX11_text 56 = .ok (.iload_n 1, 1) := by decide +kernel
theorem dX11_text_57 : decode cX11_text 57 = .ok (.ifCond .ne 7, 3) := by decide +kernel
theorem dX11_text_60 : decode cX11_text 60 = .ok (.iconst 2, 1) := by decide +kernel
theorem dX11_text_61 : decode cX11_text 61 = .ok (.goto 4, 3) := by decide +kernel
theorem dX11_text_64 : decode cX11_text 64 = .ok (.iconst 3, 1) := by decide +kernel
theorem dX11_text_65 : decode cX11_text 65 = .ok (.if_icmp .ne 25, 3) := by decide +kernel
theorem dX11_text_71 : decode cX11_text 71 = .ok (.iload_n 2, 1) := by decide +kernel
theorem dX11_text_72 : decode cX11_text 72 = .ok (.iconst 0, 1) := by decide +kernel
theorem dX11_text_73 : decode cX11_text 73 = .ok (.aload_n 0, 1) := by decide +kernel
theorem dX11_text_74 : decode cX11_text 74 = .ok (.getfield 23, 3) := by decide +kernel
theorem dX11_text_77 : decode cX11_text 77 = .ok (.iload_n 1, 1) := by decide +kernel
theorem dX11_text_78 : decode cX11_text 78 = .ok (.iaload, 1) := by decide +kernel
theorem dX11_text_79 : decode cX11_text 79 = .ok (.iconst 1, 1) := by decide +kernel
theorem dX11_text_80 : decode cX11_text 80 = .ok (.isub, 1) := by decide +kernel
theorem dX11_text_81 : decode cX11_text 81 = .ok (.invokestatic 78, 3) := by decide +kernel
theorem dX11_text_84 : decode cX11_text 84 = .ok (.ifCond .ne 6, 3) := by decide +kernel
theorem dX11_text_87 : decode cX11_text 87 = .ok (.bipush (-2), 2) := by decide +kernel
theorem dX11_text_89 : decode cX11_text 89 = .ok (.ireturn, 1) := by decide +kernel
theorem dX11_text_90 : decode cX11_text 90 = .ok (.aload_n 0, 1) := by decide +kernel
theorem dX11_text_91 : decode cX11_text 91 = .ok (.iload_n 1, 1) := by decide +kernel
theorem dX11_text_92 : decode cX11_text 92 = .ok (.invokevirtual 202, 3) := by decide +kernel
theorem dX11_text_95 : decode cX11_text 95 = .ok (.ifCond .ne 5, 3) := by decide +kernel
theorem dX11_text_100 : decode cX11_text 100 = .ok (.iload_n 2, 1) := by decide +kernel
theorem dX11_text_101 : decode cX11_text 101 = .ok (.iconst (-1), 1) := by decide +kernel
theorem dX11_text_102 : decode cX11_text 102 = .ok (.if_icmp .ne 12, 3) := by decide +kernel
theorem dX11_text_105 : decode cX11_text 105 = .ok (.aload_n 0, 1) := by decide +kernel
theorem dX11_text_106 : decode cX11_text 106 = .ok (.getfield 23, 3) := by decide +kernel
theorem dX11_text_109 : decode cX11_text 109 = .ok (.iload_n 1, 1) := by decide +kernel
theorem dX11_text_110 : decode cX11_text 110 = .ok (.iaload, 1) := by decide +kernel
theorem dX11_text_111 : decode cX11_text 111 = .ok (.goto 4, 3) := by decide +kernel
theorem dX11_text_115 : decode cX11_text 115 = .ok (.istore_n 3, 1) := by decide +kernel
theorem dX11_text_116 : decode cX11_text 116 = .ok (.aload_n 0, 1) := by decide +kernel
theorem dX11_text_117 : decode cX11_text 117 = .ok (.getfield 23, 3) := by decide +kernel
theorem dX11_text_120 : decode cX11_text 120 = .ok (.iload_n 1, 1) := by decide +kernel
theorem dX11_text_121 : decode cX11_text 121 = .ok (.dup2, 1) := by decide +kernel
theorem dX11_text_122 : decode cX11_text 122 = .ok (.iaload, 1) := by decide +kernel
theorem dX11_text_123 : decode cX11_text 123 = .ok (.iload_n 2, 1) := by decide +kernel
theorem dX11_text_124 : decode cX11_text 124 = .ok (.iconst (-1), 1) := by decide +kernel
theorem dX11_text_125 : decode cX11_text 125 = .ok (.if_icmp .ne 7, 3) := by decide +kernel
theorem dX11_text_128 : decode cX11_text 128 = .ok (.iconst 1, 1) := by decide +kernel
theorem dX11_text_129 : decode cX11_text 129 = .ok (.goto 4, 3) := by decide +kernel
theorem dX11_text_133 : decode cX11_text 133 = .ok (.iadd, 1) := by decide +kernel
theorem dX11_text_134 : decode cX11_text 134 = .ok (.iastore, 1) := by decide +kernel
theorem dX11_text_135 : decode cX11_text 135 = .ok (.iconst 0, 1) := by decide +kernel
theorem dX11_text_136 : decode cX11_text 136 = .ok (.istore 4, 2) := by decide +kernel
theorem dX11_text_138 : decode cX11_text 138 = .ok (.iload 4, 2) := by decide +kernel
theorem dX11_text_140 : decode cX11_text 140 = .ok (.sipush 157, 3) := by decide +kernel
theorem dX11_text_143 : decode cX11_text 143 = .ok (.if_icmp .ge 33, 3) := by decide +kernel
theorem dX11_text_146 : decode cX11_text 146 = .ok (.iload_n 1, 1) := by decide +kernel
theorem dX11_text_147 : decode cX11_text 147 = .ok (.ifCond .ne 29, 3) := by decide +kernel
theorem dX11_text_150 : decode cX11_text 150 = .ok (.aload_n 0, 1) := by decide +kernel
theorem dX11_text_151 : decode cX11_text 151 = .ok (.getfield 26, 3) := by decide +kernel
theorem dX11_text_154 : decode cX11_text 154 = .ok (.sipush 157, 3) := by decide +kernel
theorem dX11_text_157 : decode cX11_text 157 = .ok (.iload_n 3, 1) := by decide +kernel
theorem dX11_text_158 : decode cX11_text 158 = .ok (.imul, 1) := by decide +kernel
theorem dX11_text_159 : decode cX11_text 159 = .ok (.iload 4, 2) := by decide +kernel
theorem dX11_text_161 : decode cX11_text 161 = .ok (.iadd, 1) := by decide +kernel
theorem dX11_text_162 : decode cX11_text 162 = .ok (.aload_n 0, 1) := by decide +kernel
theorem dX11_text_163 : decode cX11_text 163 = .ok (.getfield 32, 3) := by decide +kernel
theorem dX11_text_166 : decode cX11_text 166 = .ok (.iload 4, 2) := by decide +kernel
theorem dX11_text_168 : decode cX11_text 168 = .ok (.iaload, 1) := by decide +kernel
theorem dX11_text_169 : decode cX11_text 169 = .ok (.iastore, 1) := by decide +kernel
theorem dX11_text_170 : decode cX11_text 170 = .ok (.iinc 4 1, 3) := by decide +kernel
theorem dX11_text_173 : decode cX11_text 173 = .ok (.goto (-35), 3) := by decide +kernel
theorem dX11_text_176 : decode cX11_text 176 = .ok (.iconst 0, 1) := by decide +kernel
theorem dX11_text_177 : decode cX11_text 177 = .ok (.istore 4, 2) := by decide +kernel
theorem dX11_text_179 : decode cX11_text 179 = .ok (.iload 4, 2) := by decide +kernel
theorem dX11_text_181 : decode cX11_text 181 = .ok (.bipush 37, 2) := by decide +kernel
theorem dX11_text_183 : decode cX11_text 183 = .ok (.if_icmp .ge 33, 3) := by decide +kernel
theorem dX11_text_186 : decode cX11_text 186 = .ok (.iload_n 1, 1) := by decide +kernel
theorem dX11_text_187 : decode cX11_text 187 = .ok (.iconst 1, 1) := by decide +kernel
theorem dX11_text_188 : decode cX11_text 188 = .ok (.if_icmp .ne 28, 3) := by decide +kernel
theorem dX11_text_191 : decode cX11_text 191 = .ok (.aload_n 0, 1) := by decide +kernel
theorem dX11_text_192 : decode cX11_text 192 = .ok (.getfield 29, 3) := by decide +kernel
theorem dX11_text_195 : decode cX11_text 195 = .ok (.bipush 37, 2) := by decide +kernel
theorem dX11_text_197 : decode cX11_text 197 = .ok (.iload_n 3, 1) := by decide +kernel
theorem dX11_text_198 : decode cX11_text 198 = .ok (.imul, 1) := by decide +kernel
theorem dX11_text_199 : decode cX11_text 199 = .ok (.iload 4, 2) := by decide +kernel
theorem dX11_text_201 : decode cX11_text 201 = .ok (.iadd, 1) := by decide +kernel
theorem dX11_text_202 : decode cX11_text 202 = .ok (.aload_n 0, 1) := by decide +kernel
theorem dX11_text_203 : decode cX11_text 203 = .ok (.getfield 32, 3) := by decide +kernel
theorem dX11_text_206 : decode cX11_text 206 = .ok (.iload 4, 2) := by decide +kernel
theorem dX11_text_208 : decode cX11_text 208 = .ok (.iaload, 1) := by decide +kernel
theorem dX11_text_209 : decode cX11_text 209 = .ok (.iastore, 1) := by decide +kernel
theorem dX11_text_210 : decode cX11_text 210 = .ok (.iinc 4 1, 3) := by decide +kernel
theorem dX11_text_213 : decode cX11_text 213 = .ok (.goto (-34), 3) := by decide +kernel
theorem dX11_text_216 : decode cX11_text 216 = .ok (.iload_n 3, 1) := by decide +kernel
theorem dX11_text_217 : decode cX11_text 217 = .ok (.ireturn, 1) := by decide +kernel
theorem dX11_token_0 : decode cX11_token 0 = .ok (.aload_n 0, 1) := by decide +kernel
theorem dX11_token_1 : decode cX11_token 1 = .ok (.invokevirtual 92, 3) := by decide +kernel
theorem dX11_token_4 : decode cX11_token 4 = .ok (.bipush 10, 2) := by decide +kernel
theorem dX11_token_6 : decode cX11_token 6 = .ok (.if_icmp .eq 12, 3) := by decide +kernel
theorem dX11_token_9 : decode cX11_token 9 = .ok (.aload_n 0, 1) := by decide +kernel
theorem dX11_token_10 : decode cX11_token 10 = .ok (.invokevirtual 92, 3) := by decide +kernel
theorem dX11_token_13 : decode cX11_token 13 = .ok (.bipush 32, 2) := by decide +kernel
theorem dX11_token_15 : decode cX11_token 15 = .ok (.if_icmp .ne 16, 3) := by decide +kernel
theorem dX11_token_31 : decode cX11_token 31 = .ok (.aload_n 0, 1) := by decide +kernel
theorem dX11_token_32 : decode cX11_token 32 = .ok (.aload_n 0, 1) := by decide +kernel
theorem dX11_token_33 : decode cX11_token 33 = .ok (.getfield 86, 3) := by decide +kernel
theorem dX11_token_36 : decode cX11_token 36 = .ok (.putfield 96, 3) := by decide +kernel
theorem dX11_token_39 : decode cX11_token 39 = .ok (.aload_n 0, 1) := by decide +kernel
theorem dX11_token_40 : decode cX11_token 40 = .ok (.invokevirtual 92, 3) := by decide +kernel
theorem dX11_token_43 : decode cX11_token 43 = .ok (.istore_n 1, 1) := by decide +kernel
theorem dX11_token_44 : decode cX11_token 44 = .ok (.aload_n 0, 1) := by decide +kernel
theorem dX11_token_45 : decode cX11_token 45 = .ok (.lconst 0, 1) := by decide +kernel
theorem dX11_token_46 : decode cX11_token 46 = .ok (.putfield 99, 3) := by decide +kernel
theorem dX11_token_49 : decode cX11_token 49 = .ok (.iconst 0, 1) := by decide +kernel
theorem dX11_token_50 : decode cX11_token 50 = .ok (.istore_n 2, 1) := by decide +kernel
theorem dX11_token_51 : decode cX11_token 51 = .ok (.iload_n 1, 1) := by decide +kernel
theorem dX11_token_52 : decode cX11_token 52 = .ok (.ifCond .ge 11, 3) := by decide +kernel
theorem dX11_token_55 : decode cX11_token 55 = .ok (.aload_n 0, 1) := by decide +kernel
theorem dX11_token_56 : decode cX11_token 56 = .ok (.iconst 0, 1) := by decide +kernel
theorem dX11_token_57 : decode cX11_token 57 = .ok (.putfield 103, 3) := by decide +kernel
theorem dX11_token_60 : decode cX11_token 60 = .ok (.goto 206, 3) := by decide +kernel
theorem dX11_token_266 : decode cX11_token 266 = .ok (.return_, 1) := by decide +kernel
set_option maxHeartbeats 4000000 in
set_option maxRecDepth 100000 in
theorem c_X11_endsHill0 {d : Nat} {h : List MC} {g : Nat → Int32} (hd : 1 ≤ d) (hm : h[162]? = some (.inr (11, [.int 0, .ref 163, .ref 164, .ref 165, .ref 166, .ref 167, .ref 168, .ref 169, .int 0, .int 0, .int 0, .int 0, .int 0, .long 0, .int 0, .int 0, .int 0, .int 0, .int 0, .ref 170, .ref 171, .ref 172, .int 0, .int 0, .int 0, .int 0, .int 0, .int 0, .ref 173, .ref 174, .ref 175, .int 0, .int 0, .int 0, .ref 176, .ref 177, .ref 178, .ref 179, .ref 180, .int 0, .long 0, .int 0, .ref 181]))) (h10 : h[170]? = some (.inl (1, 157, .inl g))) (hg : g 1 = 0) : CT con0 d 0 0 yX11_endsHill cX11_endsHill 3 none [.ref 162] h (fun r h2 => r = none ∧ h2.length = h.length ∧ (∃ g2, h2[170]? = some (.inl (1, 157, .inl g2))) ∧ ∀ j, j ≠ 170 → h2[j]? = h[j]?) := by
  refine CT_of (by decide) (Nat.le_of_ble_eq_true rfl) (fun x hq => ?_)
  show J x yX11_endsHill cX11_endsHill 3 none d 0 0 h.length 0 [(0, .ref 162)] [] h 0 0
  refine J_iconst (v := 0) dX11_endsHill_0 (by decide) ?_
  refine J_istore_n (i := 1) (lw := [(1, .int 0), (0, .ref 162)]) dX11_endsHill_1 rfl (by decide) rfl ?_
  refine J_iconst (v := 0) dX11_endsHill_2 (by decide) ?_
  refine J_istore_n (i := 2) (lw := [(2, .int 0), (1, .int 0), (0, .ref 162)]) dX11_endsHill_3 rfl (by decide) rfl ?_
  refine J_iload_n (i := 2) (j := 0) dX11_endsHill_4 rfl rfl ?_
  refine J_aload_n (i := 0) (j := 2) dX11_endsHill_5 rfl rfl ?_
  refine J_get (C := RX11) (T := TX11) (Z := 43) (ci := 11) (f := 19) dX11_endsHill_6 inG11 rfl (by decide) k1283 hm rfl ?_
  refine J_iconst (v := 1) dX11_endsHill_9 (by decide) ?_
  refine J_iald dX11_endsHill_10 h10 (vp_c (by decide)) ?_
  refine J_ci (v := 0) hg ?_
  refine J_icmp_ge (tgt := 35) dX11_endsHill_11 (by decide) (fun _ => ?_) (fun q => absurd (by decide) q)
  refine J_aload_n (i := 0) (j := 2) dX11_endsHill_35 rfl rfl ?_
  refine J_get (C := RX11) (T := TX11) (Z := 43) (ci := 11) (f := 19) dX11_endsHill_36 inG11 rfl (by decide) k1283 hm rfl ?_
  refine J_iconst (v := 1) dX11_endsHill_39 (by decide) ?_
  refine J_iald dX11_endsHill_40 h10 (vp_c (by decide)) ?_
  refine J_ci (v := 0) hg ?_
  refine J_if_le (tgt := 66) dX11_endsHill_41 (by decide) (fun _ => ?_) (fun q => absurd (by decide) q)
  refine J_aload_n (i := 0) (j := 2) dX11_endsHill_66 rfl rfl ?_
  refine J_get (C := RX11) (T := TX11) (Z := 43) (ci := 11) (f := 19) dX11_endsHill_67 inG11 rfl (by decide) k1283 hm rfl ?_
  refine J_iconst (v := 1) dX11_endsHill_70 (by decide) ?_
  refine J_iald dX11_endsHill_71 h10 (vp_c (by decide)) ?_
  refine J_ci (v := 0) hg ?_
  refine J_if_ne (tgt := 98) dX11_endsHill_72 (by decide) (fun q => absurd (by decide) q) (fun _ => ?_)
  refine J_aload_n (i := 0) (j := 2) dX11_endsHill_75 rfl rfl ?_
  refine J_get (C := RX11) (T := TX11) (Z := 43) (ci := 11) (f := 19) dX11_endsHill_76 inG11 rfl (by decide) k1283 hm rfl ?_
  refine J_iconst (v := 1) dX11_endsHill_79 (by decide) ?_
  refine J_iconst (v := 1) dX11_endsHill_80 (by decide) ?_
  obtain ⟨h_1, e_2⟩ : ∃ z, z = h.set 170 (.inl (1, 157, .inl (upd g ((1 : Int32).toNatClampNeg) 1))) := ⟨_, rfl⟩
  refine J_iast dX11_endsHill_81 h10 (vp_c (by decide)) e_2.symm ?_
  have f_3 := a_set e_2 h10
  have l_4 := l_set e_2 rfl
  refine J_aload_n (i := 0) (j := 2) dX11_endsHill_82 rfl rfl ?_
  have f_5 : h_1[162]? = some (.inr (11, [.int 0, .ref 163, .ref 164, .ref 165, .ref 166, .ref 167, .ref 168, .ref 169, .int 0, .int 0, .int 0, .int 0, .int 0, .long 0, .int 0, .int 0, .int 0, .int 0, .int 0, .ref 170, .ref 171, .ref 172, .int 0, .int 0, .int 0, .int 0, .int 0, .int 0, .ref 173, .ref 174, .ref 175, .int 0, .int 0, .int 0, .ref 176, .ref 177, .ref 178, .ref 179, .ref 180, .int 0, .long 0, .int 0, .ref 181])) := (s_ne e_2 (by decide)).trans hm
  refine J_get (C := RX11) (T := TX11) (Z := 43) (ci := 11) (f := 19) dX11_endsHill_83 inG11 rfl (by decide) k1283 f_5 rfl ?_
  refine J_iconst (v := 5) dX11_endsHill_86 (by decide) ?_
  refine J_iconst (v := 0) dX11_endsHill_87 (by decide) ?_
  obtain ⟨h_6, e_7⟩ : ∃ z, z = h_1.set 170 (.inl (1, 157, .inl (upd (upd g ((1 : Int32).toNatClampNeg) 1) ((5 : Int32).toNatClampNeg) 0))) := ⟨_, rfl⟩
  refine J_iast dX11_endsHill_88 f_3 (vp_c (by decide)) e_7.symm ?_
  have f_8 := a_set e_7 f_3
  have l_9 := l_set e_7 l_4
  refine J_aload_n (i := 0) (j := 2) dX11_endsHill_89 rfl rfl ?_
  have f_10 : h_6[162]? = some (.inr (11, [.int 0, .ref 163, .ref 164, .ref 165, .ref 166, .ref 167, .ref 168, .ref 169, .int 0, .int 0, .int 0, .int 0, .int 0, .long 0, .int 0, .int 0, .int 0, .int 0, .int 0, .ref 170, .ref 171, .ref 172, .int 0, .int 0, .int 0, .int 0, .int 0, .int 0, .ref 173, .ref 174, .ref 175, .int 0, .int 0, .int 0, .ref 176, .ref 177, .ref 178, .ref 179, .ref 180, .int 0, .long 0, .int 0, .ref 181])) := (s_ne e_7 (by decide)).trans f_5
  refine J_get (C := RX11) (T := TX11) (Z := 43) (ci := 11) (f := 19) dX11_endsHill_90 inG11 rfl (by decide) k1283 f_10 rfl ?_
  refine J_bipush (v := 6) dX11_endsHill_93 (by decide) ?_
  refine J_bipush (v := 100) dX11_endsHill_95 (by decide) ?_
  obtain ⟨h_11, e_12⟩ : ∃ z, z = h_6.set 170 (.inl (1, 157, .inl (upd (upd (upd g ((1 : Int32).toNatClampNeg) 1) ((5 : Int32).toNatClampNeg) 0) ((6 : Int32).toNatClampNeg) 100))) := ⟨_, rfl⟩
  refine J_iast dX11_endsHill_97 f_8 (vp_c (by decide)) e_12.symm ?_
  have f_13 := a_set e_12 f_8
  have l_14 := l_set e_12 l_9
  exact J_vret hq dX11_endsHill_98 rfl (hkz l_14) (Nat.le_refl _) (Nat.le_refl _) ⟨rfl, l_14, ⟨_, f_13⟩, fun j hj => (((s_ne e_12 hj)).trans (s_ne e_7 hj)).trans (s_ne e_2 hj)⟩
set_option maxHeartbeats 4000000 in
set_option maxRecDepth 100000 in
theorem c_X11_see_s1 {d : Nat} {h : List MC}  (hd : 0 ≤ d) (g162 : h[162]? = some (.inr (11, [.int 0, .ref 163, .ref 164, .ref 165, .ref 166, .ref 167, .ref 168, .ref 169, .int 0, .int 0, .int 0, .int 0, .int 0, .long 0, .int 0, .int 0, .int 0, .int 0, .int 0, .ref 170, .ref 171, .ref 172, .int 0, .int 0, .int 0, .int 0, .int 0, .int 0, .ref 173, .ref 174, .ref 175, .int 0, .int 0, .int 0, .ref 176, .ref 177, .ref 178, .ref 179, .ref 180, .int 0, .long 0, .int 0, .ref 181]))) : CT con0 d 0 0 yX11_see cX11_see 1 (some .int) [.ref 162] h (fun r h2 => r = some (.int (-1)) ∧ h2.length = h.length ∧ ∀ j : Nat, h2[j]? = h[j]?) := by
  refine CT_of (by decide) (Nat.le_of_ble_eq_true rfl) (fun x hq => ?_)
  show J x yX11_see cX11_see 1 (some .int) d 0 0 h.length 0 [(0, .ref 162)] [] h 0 0
  refine J_aload_n (i := 0) (j := 0) dX11_see_0 rfl rfl ?_
  refine J_get (C := RX11) (T := TX11) (Z := 43) (ci := 11) (f := 8) dX11_see_1 inG11 rfl (by decide) k1272 g162 rfl ?_
  refine J_aload_n (i := 0) (j := 0) dX11_see_4 rfl rfl ?_
  refine J_get (C := RX11) (T := TX11) (Z := 43) (ci := 11) (f := 9) dX11_see_5 inG11 rfl (by decide) k1273 g162 rfl ?_
  refine J_icmp_ge (tgt := 27) dX11_see_8 (by decide) (fun _ => ?_) (fun q => absurd (by decide) q)
  refine J_iconst (v := (-1)) dX11_see_27 (by decide) ?_
  exact J_iret hq dX11_see_28 rfl (hkz rfl) (Nat.le_refl _) (Nat.le_refl _) ⟨rfl, rfl, fun j  => rfl⟩
set_option maxHeartbeats 4000000 in
set_option maxRecDepth 100000 in
theorem c_X11_see_s2 {d : Nat} {h : List MC}  (hd : 0 ≤ d) (g162 : h[162]? = some (.inr (11, [.int 0, .ref 163, .ref 164, .ref 165, .ref 166, .ref 167, .ref 168, .ref 169, .int 0, .int 0, .int 0, .int 0, .int 0, .long 0, .int 0, .int 0, .int 0, .int 0, .int 0, .ref 170, .ref 171, .ref 172, .int 0, .int 0, .int 0, .int 0, .int 0, .int 0, .ref 173, .ref 174, .ref 175, .int 0, .int 0, .int 0, .ref 176, .ref 177, .ref 178, .ref 179, .ref 180, .int 0, .long 0, .int 0, .ref 181]))) : CT con0 d 0 0 yX11_see cX11_see 1 (some .int) [.ref 162] h (fun r h2 => r = some (.int (-1)) ∧ h2.length = h.length ∧ ∀ j : Nat, h2[j]? = h[j]?) := by
  refine CT_of (by decide) (Nat.le_of_ble_eq_true rfl) (fun x hq => ?_)
  show J x yX11_see cX11_see 1 (some .int) d 0 0 h.length 0 [(0, .ref 162)] [] h 0 0
  refine J_aload_n (i := 0) (j := 0) dX11_see_0 rfl rfl ?_
  refine J_get (C := RX11) (T := TX11) (Z := 43) (ci := 11) (f := 8) dX11_see_1 inG11 rfl (by decide) k1272 g162 rfl ?_
  refine J_aload_n (i := 0) (j := 0) dX11_see_4 rfl rfl ?_
  refine J_get (C := RX11) (T := TX11) (Z := 43) (ci := 11) (f := 9) dX11_see_5 inG11 rfl (by decide) k1273 g162 rfl ?_
  refine J_icmp_ge (tgt := 27) dX11_see_8 (by decide) (fun _ => ?_) (fun q => absurd (by decide) q)
  refine J_iconst (v := (-1)) dX11_see_27 (by decide) ?_
  exact J_iret hq dX11_see_28 rfl (hkz rfl) (Nat.le_refl _) (Nat.le_refl _) ⟨rfl, rfl, fun j  => rfl⟩
set_option maxHeartbeats 4000000 in
set_option maxRecDepth 100000 in
theorem c_X11_see_s3 {d : Nat} {h : List MC}  (hd : 0 ≤ d) (g162 : h[162]? = some (.inr (11, [.int 0, .ref 163, .ref 164, .ref 165, .ref 166, .ref 167, .ref 168, .ref 169, .int 0, .int 0, .int 0, .int 0, .int 0, .long 0, .int 0, .int 0, .int 0, .int 0, .int 0, .ref 170, .ref 171, .ref 172, .int 0, .int 0, .int 0, .int 0, .int 0, .int 0, .ref 173, .ref 174, .ref 175, .int 0, .int 0, .int 0, .ref 176, .ref 177, .ref 178, .ref 179, .ref 180, .int 0, .long 0, .int 0, .ref 181]))) : CT con0 d 0 0 yX11_see cX11_see 1 (some .int) [.ref 162] h (fun r h2 => r = some (.int (-1)) ∧ h2.length = h.length ∧ ∀ j : Nat, h2[j]? = h[j]?) := by
  refine CT_of (by decide) (Nat.le_of_ble_eq_true rfl) (fun x hq => ?_)
  show J x yX11_see cX11_see 1 (some .int) d 0 0 h.length 0 [(0, .ref 162)] [] h 0 0
  refine J_aload_n (i := 0) (j := 0) dX11_see_0 rfl rfl ?_
  refine J_get (C := RX11) (T := TX11) (Z := 43) (ci := 11) (f := 8) dX11_see_1 inG11 rfl (by decide) k1272 g162 rfl ?_
  refine J_aload_n (i := 0) (j := 0) dX11_see_4 rfl rfl ?_
  refine J_get (C := RX11) (T := TX11) (Z := 43) (ci := 11) (f := 9) dX11_see_5 inG11 rfl (by decide) k1273 g162 rfl ?_
  refine J_icmp_ge (tgt := 27) dX11_see_8 (by decide) (fun _ => ?_) (fun q => absurd (by decide) q)
  refine J_iconst (v := (-1)) dX11_see_27 (by decide) ?_
  exact J_iret hq dX11_see_28 rfl (hkz rfl) (Nat.le_refl _) (Nat.le_refl _) ⟨rfl, rfl, fun j  => rfl⟩
set_option maxHeartbeats 4000000 in
set_option maxRecDepth 100000 in
theorem c_X11_token_s1 {d : Nat} {h : List MC}  (hd : 1 ≤ d) (g162 : h[162]? = some (.inr (11, [.int 0, .ref 163, .ref 164, .ref 165, .ref 166, .ref 167, .ref 168, .ref 169, .int 0, .int 0, .int 0, .int 0, .int 0, .long 0, .int 0, .int 0, .int 0, .int 0, .int 0, .ref 170, .ref 171, .ref 172, .int 0, .int 0, .int 0, .int 0, .int 0, .int 0, .ref 173, .ref 174, .ref 175, .int 0, .int 0, .int 0, .ref 176, .ref 177, .ref 178, .ref 179, .ref 180, .int 0, .long 0, .int 0, .ref 181]))) : CT con0 d 0 0 yX11_token cX11_token 3 none [.ref 162] h (fun r h2 => r = none ∧ h2.length = h.length ∧ h2[162]? = some (.inr (11, [.int 0, .ref 163, .ref 164, .ref 165, .ref 166, .ref 167, .ref 168, .ref 169, .int 0, .int 0, .int 0, .int 0, .int 0, .long 0, .int 0, .int 0, .int 0, .int 0, .int 0, .ref 170, .ref 171, .ref 172, .int 0, .int 0, .int 0, .int 0, .int 0, .int 0, .ref 173, .ref 174, .ref 175, .int 0, .int 0, .int 0, .ref 176, .ref 177, .ref 178, .ref 179, .ref 180, .int 0, .long 0, .int 0, .ref 181])) ∧ ∀ j : Nat, j ≠ 162 → h2[j]? = h[j]?) := by
  refine CT_of (by decide) (Nat.le_of_ble_eq_true rfl) (fun x hq => ?_)
  show J x yX11_token cX11_token 3 none d 0 0 h.length 0 [(0, .ref 162)] [] h 0 0
  refine J_aload_n (i := 0) (j := 0) dX11_token_0 rfl rfl ?_
  refine J_callV (As := []) (rest := []) dX11_token_1 (c_X11_see_s1 (d := 0) (h := h) (by decide) g162) hq.n k1421 k1423 k39 g162 rfl rfl k97 k1424 np_X11_see (Nat.le_trans (by decide) hd) (by decide) (Nat.le_refl _) (Nat.le_refl _) (hkz rfl) rfl (Nat.le_of_ble_eq_true rfl) (fun r_1 h_2 p_3 => ?_)
  obtain ⟨rfl, l_4, r_5⟩ := p_3
  have l_6 := l_4.trans rfl
  refine J_bipush (v := 10) dX11_token_4 (by decide) ?_
  refine J_icmp_eq (tgt := 18) dX11_token_6 (by decide) (fun q => absurd q (by decide)) (fun _ => ?_)
  refine J_aload_n (i := 0) (j := 0) dX11_token_9 rfl rfl ?_
  have f_7 : h_2[162]? = some (.inr (11, [.int 0, .ref 163, .ref 164, .ref 165, .ref 166, .ref 167, .ref 168, .ref 169, .int 0, .int 0, .int 0, .int 0, .int 0, .long 0, .int 0, .int 0, .int 0, .int 0, .int 0, .ref 170, .ref 171, .ref 172, .int 0, .int 0, .int 0, .int 0, .int 0, .int 0, .ref 173, .ref 174, .ref 175, .int 0, .int 0, .int 0, .ref 176, .ref 177, .ref 178, .ref 179, .ref 180, .int 0, .long 0, .int 0, .ref 181])) := (r_5 162 ).trans g162
  refine J_callV (As := []) (rest := []) dX11_token_10 (c_X11_see_s2 (d := 0) (h := h_2) (by decide) f_7) hq.n k1421 k1423 k39 f_7 rfl rfl k97 k1424 np_X11_see (Nat.le_trans (by decide) hd) (by decide) (Nat.le_refl _) (Nat.le_refl _) (hkz l_6) rfl (Nat.le_of_ble_eq_true rfl) (fun r_8 h_9 p_10 => ?_)
  obtain ⟨rfl, l_11, r_12⟩ := p_10
  have l_13 := l_11.trans l_6
  refine J_bipush (v := 32) dX11_token_13 (by decide) ?_
  refine J_icmp_ne (tgt := 31) dX11_token_15 (by decide) (fun _ => ?_) (fun q => absurd q (by decide))
  refine J_aload_n (i := 0) (j := 0) dX11_token_31 rfl rfl ?_
  refine J_aload_n (i := 0) (j := 0) dX11_token_32 rfl rfl ?_
  have f_14 : h_9[162]? = some (.inr (11, [.int 0, .ref 163, .ref 164, .ref 165, .ref 166, .ref 167, .ref 168, .ref 169, .int 0, .int 0, .int 0, .int 0, .int 0, .long 0, .int 0, .int 0, .int 0, .int 0, .int 0, .ref 170, .ref 171, .ref 172, .int 0, .int 0, .int 0, .int 0, .int 0, .int 0, .ref 173, .ref 174, .ref 175, .int 0, .int 0, .int 0, .ref 176, .ref 177, .ref 178, .ref 179, .ref 180, .int 0, .long 0, .int 0, .ref 181])) := (r_12 162 ).trans f_7
  refine J_get (C := RX11) (T := TX11) (Z := 43) (ci := 11) (f := 8) dX11_token_33 inG11 rfl (by decide) k1272 f_14 rfl ?_
  obtain ⟨h_15, e_16⟩ : ∃ z, z = h_9.set 162 (.inr (11, [.int 0, .ref 163, .ref 164, .ref 165, .ref 166, .ref 167, .ref 168, .ref 169, .int 0, .int 0, .int 0, .int 0, .int 0, .long 0, .int 0, .int 0, .int 0, .int 0, .int 0, .ref 170, .ref 171, .ref 172, .int 0, .int 0, .int 0, .int 0, .int 0, .int 0, .ref 173, .ref 174, .ref 175, .int 0, .int 0, .int 0, .ref 176, .ref 177, .ref 178, .ref 179, .ref 180, .int 0, .long 0, .int 0, .ref 181])) := ⟨_, rfl⟩
  refine J_put (C := RX11) (T := TX11) (Z := 43) (ci := 11) (f := 10) (ty0 := tyX11) dX11_token_36 inG11 rfl tyX11_ok nmX11 (by decide) k1274 rfl rfl f_14 (Nat.le_of_ble_eq_true rfl) (fun _ _ => ⟨rfl, rfl⟩) e_16.symm ?_
  have f_17 := a_set e_16 f_14
  have l_18 := l_set e_16 l_13
  refine J_aload_n (i := 0) (j := 0) dX11_token_39 rfl rfl ?_
  refine J_callV (As := []) (rest := []) dX11_token_40 (c_X11_see_s3 (d := 0) (h := h_15) (by decide) f_17) hq.n k1421 k1423 k39 f_17 rfl rfl k97 k1424 np_X11_see (Nat.le_trans (by decide) hd) (by decide) (Nat.le_refl _) (Nat.le_refl _) (hkz l_18) rfl (Nat.le_of_ble_eq_true rfl) (fun r_19 h_20 p_21 => ?_)
  obtain ⟨rfl, l_22, r_23⟩ := p_21
  have l_24 := l_22.trans l_18
  refine J_istore_n (i := 1) (lw := [(1, .int (-1)), (0, .ref 162)]) dX11_token_43 rfl (by decide) rfl ?_
  refine J_aload_n (i := 0) (j := 1) dX11_token_44 rfl rfl ?_
  refine J_lconst (v := 0) dX11_token_45 (by decide) ?_
  have f_25 : h_20[162]? = some (.inr (11, [.int 0, .ref 163, .ref 164, .ref 165, .ref 166, .ref 167, .ref 168, .ref 169, .int 0, .int 0, .int 0, .int 0, .int 0, .long 0, .int 0, .int 0, .int 0, .int 0, .int 0, .ref 170, .ref 171, .ref 172, .int 0, .int 0, .int 0, .int 0, .int 0, .int 0, .ref 173, .ref 174, .ref 175, .int 0, .int 0, .int 0, .ref 176, .ref 177, .ref 178, .ref 179, .ref 180, .int 0, .long 0, .int 0, .ref 181])) := (r_23 162 ).trans f_17
  obtain ⟨h_26, e_27⟩ : ∃ z, z = h_20.set 162 (.inr (11, [.int 0, .ref 163, .ref 164, .ref 165, .ref 166, .ref 167, .ref 168, .ref 169, .int 0, .int 0, .int 0, .int 0, .int 0, .long 0, .int 0, .int 0, .int 0, .int 0, .int 0, .ref 170, .ref 171, .ref 172, .int 0, .int 0, .int 0, .int 0, .int 0, .int 0, .ref 173, .ref 174, .ref 175, .int 0, .int 0, .int 0, .ref 176, .ref 177, .ref 178, .ref 179, .ref 180, .int 0, .long 0, .int 0, .ref 181])) := ⟨_, rfl⟩
  refine J_put (C := RX11) (T := TX11) (Z := 43) (ci := 11) (f := 13) (ty0 := tyX11) dX11_token_46 inG11 rfl tyX11_ok nmX11 (by decide) k1277 rfl rfl f_25 (Nat.le_of_ble_eq_true rfl) (fun _ _ => ⟨rfl, rfl⟩) e_27.symm ?_
  have f_28 := a_set e_27 f_25
  have l_29 := l_set e_27 l_24
  refine J_iconst (v := 0) dX11_token_49 (by decide) ?_
  refine J_istore_n (i := 2) (lw := [(2, .int 0), (1, .int (-1)), (0, .ref 162)]) dX11_token_50 rfl (by decide) rfl ?_
  refine J_iload_n (i := 1) (j := 1) dX11_token_51 rfl rfl ?_
  refine J_if_ge (tgt := 63) dX11_token_52 (by decide) (fun q => absurd q (by decide)) (fun _ => ?_)
  refine J_aload_n (i := 0) (j := 2) dX11_token_55 rfl rfl ?_
  refine J_iconst (v := 0) dX11_token_56 (by decide) ?_
  obtain ⟨h_30, e_31⟩ : ∃ z, z = h_26.set 162 (.inr (11, [.int 0, .ref 163, .ref 164, .ref 165, .ref 166, .ref 167, .ref 168, .ref 169, .int 0, .int 0, .int 0, .int 0, .int 0, .long 0, .int 0, .int 0, .int 0, .int 0, .int 0, .ref 170, .ref 171, .ref 172, .int 0, .int 0, .int 0, .int 0, .int 0, .int 0, .ref 173, .ref 174, .ref 175, .int 0, .int 0, .int 0, .ref 176, .ref 177, .ref 178, .ref 179, .ref 180, .int 0, .long 0, .int 0, .ref 181])) := ⟨_, rfl⟩
  refine J_put (C := RX11) (T := TX11) (Z := 43) (ci := 11) (f := 11) (ty0 := tyX11) dX11_token_57 inG11 rfl tyX11_ok nmX11 (by decide) k1275 rfl rfl f_28 (Nat.le_of_ble_eq_true rfl) (fun _ _ => ⟨rfl, rfl⟩) e_31.symm ?_
  have f_32 := a_set e_31 f_28
  have l_33 := l_set e_31 l_29
  refine J_goto (tgt := 266) dX11_token_60 (by decide) ?_
  exact J_vret hq dX11_token_266 rfl (hkz l_33) (Nat.le_refl _) (Nat.le_refl _) ⟨rfl, l_33, f_32, fun j q162 => ((((((s_ne e_31 q162)).trans (s_ne e_27 q162)).trans (r_23 j )).trans (s_ne e_16 q162)).trans (r_12 j )).trans (r_5 j )⟩
set_option maxHeartbeats 4000000 in
set_option maxRecDepth 100000 in
theorem l_X11_readText0 {x : JX} {d : Nat} {h : List MC} {g5 g6 : Nat → Int32} (hd : 4 ≤ d) (hq : JQ x con0 0 0 (fun r h2 => r = some (.int 1) ∧ h2.length = h.length ∧ h2[162]? = some (.inr (11, [.int 0, .ref 163, .ref 164, .ref 165, .ref 166, .ref 167, .ref 168, .ref 169, .int 0, .int 0, .int 0, .int 0, .int 0, .long 0, .int 0, .int 0, .int 0, .int 0, .int 0, .ref 170, .ref 171, .ref 172, .int 0, .int 0, .int 0, .int 0, .int 0, .int 0, .ref 173, .ref 174, .ref 175, .int 0, .int 0, .int 0, .ref 176, .ref 177, .ref 178, .ref 179, .ref 180, .int 0, .long 0, .int 0, .ref 181])) ∧ (∃ g, h2[170]? = some (.inl (1, 157, .inl g))) ∧ ∀ j, j ≠ 162 → j ≠ 165 → j ≠ 166 → j ≠ 170 → h2[j]? = h[j]?)) (hm : h[162]? = some (.inr (11, [.int 0, .ref 163, .ref 164, .ref 165, .ref 166, .ref 167, .ref 168, .ref 169, .int 0, .int 0, .int 0, .int 0, .int 0, .long 0, .int 0, .int 0, .int 0, .int 0, .int 0, .ref 170, .ref 171, .ref 172, .int 0, .int 0, .int 0, .int 0, .int 0, .int 0, .ref 173, .ref 174, .ref 175, .int 0, .int 0, .int 0, .ref 176, .ref 177, .ref 178, .ref 179, .ref 180, .int 0, .long 0, .int 0, .ref 181]))) (h5 : h[165]? = some (.inl (1, 4, .inl g5))) (h6 : h[166]? = some (.inl (1, 4, .inl g6))) : ∀ (m k : Nat) (w : List MC) (g : Nat → Int32), k + m = 157 → w.length = h.length → w[170]? = some (.inl (1, 157, .inl g)) → (∀ i, i < k → g i = RV 0 i) → (∀ j, j ≠ 170 → w[j]? = h[j]?) → J x yX11_readText cX11_readText 4 (some .boolean) d 0 0 h.length 2 [(2, .int (nI k)), (0, .ref 162), (1, .int 0)] [] w 0 0 := by
  intro m
  induction m with
  | zero =>
    intro k w g hk hl ha hg hf
    have hg1 : g 1 = 0 := (hg 1 (by omega)).trans (by decide)
    refine J_iload_n (i := 2) (j := 0) dX11_readText_2 rfl rfl ?_
    refine J_sipush (v := 157) dX11_readText_3 (by decide) ?_
    refine J_icmp_ge (tgt := 39) dX11_readText_6 (by decide) (fun c_1 => ?_) (fun c_1 => ?_)
    · refine J_aload_n (i := 0) (j := 1) dX11_readText_39 rfl rfl ?_
      refine J_iconst (v := 0) dX11_readText_40 (by decide) ?_
      obtain ⟨h_2, e_3⟩ : ∃ z, z = w.set 162 (.inr (11, [.int 0, .ref 163, .ref 164, .ref 165, .ref 166, .ref 167, .ref 168, .ref 169, .int 0, .int 0, .int 0, .int 0, .int 0, .long 0, .int 0, .int 0, .int 0, .int 0, .int 0, .ref 170, .ref 171, .ref 172, .int 0, .int 0, .int 0, .int 0, .int 0, .int 0, .ref 173, .ref 174, .ref 175, .int 0, .int 0, .int 0, .ref 176, .ref 177, .ref 178, .ref 179, .ref 180, .int 0, .long 0, .int 0, .ref 181])) := ⟨_, rfl⟩
      refine J_put (C := RX11) (T := TX11) (Z := 43) (ci := 11) (f := 8) (ty0 := tyX11) dX11_readText_41 inG11 rfl tyX11_ok nmX11 (by decide) k1272 rfl rfl ((hf 162 (by decide)).trans hm) (Nat.le_of_ble_eq_true rfl) (fun _ _ => ⟨rfl, rfl⟩) e_3.symm ?_
      have f_4 := a_set e_3 ((hf 162 (by decide)).trans hm)
      have l_5 := l_set e_3 hl
      refine J_aload_n (i := 0) (j := 1) dX11_readText_44 rfl rfl ?_
      refine J_iconst (v := 0) dX11_readText_45 (by decide) ?_
      obtain ⟨h_6, e_7⟩ : ∃ z, z = h_2.set 162 (.inr (11, [.int 0, .ref 163, .ref 164, .ref 165, .ref 166, .ref 167, .ref 168, .ref 169, .int 0, .int 0, .int 0, .int 0, .int 0, .long 0, .int 0, .int 0, .int 0, .int 0, .int 0, .ref 170, .ref 171, .ref 172, .int 0, .int 0, .int 0, .int 0, .int 0, .int 0, .ref 173, .ref 174, .ref 175, .int 0, .int 0, .int 0, .ref 176, .ref 177, .ref 178, .ref 179, .ref 180, .int 0, .long 0, .int 0, .ref 181])) := ⟨_, rfl⟩
      refine J_put (C := RX11) (T := TX11) (Z := 43) (ci := 11) (f := 15) (ty0 := tyX11) dX11_readText_46 inG11 rfl tyX11_ok nmX11 (by decide) k1279 rfl rfl f_4 (Nat.le_of_ble_eq_true rfl) (fun _ _ => ⟨rfl, rfl⟩) e_7.symm ?_
      have f_8 := a_set e_7 f_4
      have l_9 := l_set e_7 l_5
      refine J_iconst (v := 1) dX11_readText_49 (by decide) ?_
      refine J_istore_n (i := 2) (lw := [(2, .int 1), (0, .ref 162), (1, .int 0)]) dX11_readText_50 rfl (by decide) rfl ?_
      refine J_aload_n (i := 0) (j := 1) dX11_readText_51 rfl rfl ?_
      refine J_callV (As := []) (rest := []) dX11_readText_52 (c_X11_token_s1 (d := 1) (h := h_6) (by decide) f_8) hq.n k1417 k1419 k38 f_8 rfl rfl k97 k1420 np_X11_token (Nat.le_trans (by decide) hd) (by decide) (Nat.le_refl _) (Nat.le_refl _) (hkz l_9) rfl (Nat.le_of_ble_eq_true rfl) (fun r_10 h_11 p_12 => ?_)
      obtain ⟨rfl, l_13, f_14, r_15⟩ := p_12
      have l_16 := l_13.trans l_9
      refine J_iload_n (i := 2) (j := 0) dX11_readText_55 rfl rfl ?_
      refine J_if_eq (tgt := 122) dX11_readText_56 (by decide) (fun q => absurd q (by decide)) (fun _ => ?_)
      refine J_aload_n (i := 0) (j := 1) dX11_readText_59 rfl rfl ?_
      refine J_get (C := RX11) (T := TX11) (Z := 43) (ci := 11) (f := 11) dX11_readText_60 inG11 rfl (by decide) k1275 f_14 rfl ?_
      refine J_if_eq (tgt := 122) dX11_readText_63 (by decide) (fun _ => ?_) (fun q => absurd (by decide) q)
      refine J_iload_n (i := 2) (j := 0) dX11_readText_122 rfl rfl ?_
      refine J_if_eq (tgt := 134) dX11_readText_123 (by decide) (fun q => absurd q (by decide)) (fun _ => ?_)
      refine J_iload_n (i := 1) (j := 2) dX11_readText_126 rfl rfl ?_
      refine J_if_ne (tgt := 134) dX11_readText_127 (by decide) (fun q => absurd (by decide) q) (fun _ => ?_)
      refine J_aload_n (i := 0) (j := 1) dX11_readText_130 rfl rfl ?_
      have f_17 : h_2[170]? = some (.inl (1, 157, .inl g)) := (s_ne e_3 (by decide)).trans ha
      have f_18 : h_6[170]? = some (.inl (1, 157, .inl g)) := (s_ne e_7 (by decide)).trans f_17
      have f_19 : h_11[170]? = some (.inl (1, 157, .inl g)) := (r_15 170 (by decide)).trans f_18
      refine J_callV (As := []) (rest := []) dX11_readText_131 (c_X11_endsHill0 (d := 1) (h := h_11) (by decide) f_14 f_19 ((hg 1 (by omega)).trans (by decide))) hq.n k1483 k1485 k50 f_14 rfl rfl k97 k1486 np_X11_endsHill (Nat.le_trans (by decide) hd) (by decide) (Nat.le_refl _) (Nat.le_refl _) (hkz l_16) rfl (Nat.le_of_ble_eq_true rfl) (fun r_20 h_21 p_22 => ?_)
      obtain ⟨rfl, l_23, ⟨g_24, f_25⟩, r_26⟩ := p_22
      have l_27 := l_23.trans l_16
      refine J_aload_n (i := 0) (j := 1) dX11_readText_134 rfl rfl ?_
      have f_28 : h_21[162]? = some (.inr (11, [.int 0, .ref 163, .ref 164, .ref 165, .ref 166, .ref 167, .ref 168, .ref 169, .int 0, .int 0, .int 0, .int 0, .int 0, .long 0, .int 0, .int 0, .int 0, .int 0, .int 0, .ref 170, .ref 171, .ref 172, .int 0, .int 0, .int 0, .int 0, .int 0, .int 0, .ref 173, .ref 174, .ref 175, .int 0, .int 0, .int 0, .ref 176, .ref 177, .ref 178, .ref 179, .ref 180, .int 0, .long 0, .int 0, .ref 181])) := (r_26 162 (by decide)).trans f_14
      refine J_get (C := RX11) (T := TX11) (Z := 43) (ci := 11) (f := 3) dX11_readText_135 inG11 rfl (by decide) k1267 f_28 rfl ?_
      refine J_iconst (v := 0) dX11_readText_138 (by decide) ?_
      refine J_iload_n (i := 2) (j := 0) dX11_readText_139 rfl rfl ?_
      refine J_if_eq (tgt := 150) dX11_readText_140 (by decide) (fun q => absurd q (by decide)) (fun _ => ?_)
      refine J_aload_n (i := 0) (j := 1) dX11_readText_143 rfl rfl ?_
      refine J_get (C := RX11) (T := TX11) (Z := 43) (ci := 11) (f := 15) dX11_readText_144 inG11 rfl (by decide) k1279 f_28 rfl ?_
      refine J_goto (tgt := 151) dX11_readText_147 (by decide) ?_
      have f_29 : h_2[165]? = some (.inl (1, 4, .inl g5)) := (s_ne e_3 (by decide)).trans ((hf 165 (by decide)).trans h5)
      have f_30 : h_6[165]? = some (.inl (1, 4, .inl g5)) := (s_ne e_7 (by decide)).trans f_29
      have f_31 : h_11[165]? = some (.inl (1, 4, .inl g5)) := (r_15 165 (by decide)).trans f_30
      have f_32 : h_21[165]? = some (.inl (1, 4, .inl g5)) := (r_26 165 (by decide)).trans f_31
      obtain ⟨h_33, e_34⟩ : ∃ z, z = h_21.set 165 (.inl (1, 4, .inl (upd g5 ((0 : Int32).toNatClampNeg) 0))) := ⟨_, rfl⟩
      refine J_iast dX11_readText_151 f_32 (vp_c (by decide)) e_34.symm ?_
      have f_35 := a_set e_34 f_32
      have l_36 := l_set e_34 l_27
      refine J_aload_n (i := 0) (j := 1) dX11_readText_152 rfl rfl ?_
      have f_37 : h_33[162]? = some (.inr (11, [.int 0, .ref 163, .ref 164, .ref 165, .ref 166, .ref 167, .ref 168, .ref 169, .int 0, .int 0, .int 0, .int 0, .int 0, .long 0, .int 0, .int 0, .int 0, .int 0, .int 0, .ref 170, .ref 171, .ref 172, .int 0, .int 0, .int 0, .int 0, .int 0, .int 0, .ref 173, .ref 174, .ref 175, .int 0, .int 0, .int 0, .ref 176, .ref 177, .ref 178, .ref 179, .ref 180, .int 0, .long 0, .int 0, .ref 181])) := (s_ne e_34 (by decide)).trans f_28
      refine J_get (C := RX11) (T := TX11) (Z := 43) (ci := 11) (f := 4) dX11_readText_153 inG11 rfl (by decide) k1268 f_37 rfl ?_
      refine J_iconst (v := 0) dX11_readText_156 (by decide) ?_
      refine J_iload_n (i := 2) (j := 0) dX11_readText_157 rfl rfl ?_
      refine J_if_ne (tgt := 168) dX11_readText_158 (by decide) (fun _ => ?_) (fun q => absurd q (by decide))
      refine J_aload_n (i := 0) (j := 1) dX11_readText_168 rfl rfl ?_
      refine J_get (C := RX11) (T := TX11) (Z := 43) (ci := 11) (f := 15) dX11_readText_169 inG11 rfl (by decide) k1279 f_37 rfl ?_
      refine J_if_le (tgt := 182) dX11_readText_172 (by decide) (fun _ => ?_) (fun q => absurd (by decide) q)
      refine J_iconst (v := (-1)) dX11_readText_182 (by decide) ?_
      have f_38 : h_2[166]? = some (.inl (1, 4, .inl g6)) := (s_ne e_3 (by decide)).trans ((hf 166 (by decide)).trans h6)
      have f_39 : h_6[166]? = some (.inl (1, 4, .inl g6)) := (s_ne e_7 (by decide)).trans f_38
      have f_40 : h_11[166]? = some (.inl (1, 4, .inl g6)) := (r_15 166 (by decide)).trans f_39
      have f_41 : h_21[166]? = some (.inl (1, 4, .inl g6)) := (r_26 166 (by decide)).trans f_40
      have f_42 : h_33[166]? = some (.inl (1, 4, .inl g6)) := (s_ne e_34 (by decide)).trans f_41
      obtain ⟨h_43, e_44⟩ : ∃ z, z = h_33.set 166 (.inl (1, 4, .inl (upd g6 ((0 : Int32).toNatClampNeg) (-1)))) := ⟨_, rfl⟩
      refine J_iast dX11_readText_183 f_42 (vp_c (by decide)) e_44.symm ?_
      have f_45 := a_set e_44 f_42
      have l_46 := l_set e_44 l_36
      refine J_aload_n (i := 0) (j := 1) dX11_readText_184 rfl rfl ?_
      have f_47 : h_43[162]? = some (.inr (11, [.int 0, .ref 163, .ref 164, .ref 165, .ref 166, .ref 167, .ref 168, .ref 169, .int 0, .int 0, .int 0, .int 0, .int 0, .long 0, .int 0, .int 0, .int 0, .int 0, .int 0, .ref 170, .ref 171, .ref 172, .int 0, .int 0, .int 0, .int 0, .int 0, .int 0, .ref 173, .ref 174, .ref 175, .int 0, .int 0, .int 0, .ref 176, .ref 177, .ref 178, .ref 179, .ref 180, .int 0, .long 0, .int 0, .ref 181])) := (s_ne e_44 (by decide)).trans f_37
      refine J_get (C := RX11) (T := TX11) (Z := 43) (ci := 11) (f := 3) dX11_readText_185 inG11 rfl (by decide) k1267 f_47 rfl ?_
      refine J_iconst (v := 0) dX11_readText_188 (by decide) ?_
      have f_48 : h_43[165]? = some (.inl (1, 4, .inl (upd g5 ((0 : Int32).toNatClampNeg) 0))) := (s_ne e_44 (by decide)).trans f_35
      refine J_iald dX11_readText_189 f_48 (vp_c (by decide)) ?_
      refine J_ci (v := 0) rfl ?_
      refine J_if_ne (tgt := 197) dX11_readText_190 (by decide) (fun q => absurd (by decide) q) (fun _ => ?_)
      refine J_iconst (v := 1) dX11_readText_193 (by decide) ?_
      refine J_goto (tgt := 198) dX11_readText_194 (by decide) ?_
      have f_49 : h_33[170]? = some (.inl (1, 157, .inl g_24)) := (s_ne e_34 (by decide)).trans f_25
      have f_50 : h_43[170]? = some (.inl (1, 157, .inl g_24)) := (s_ne e_44 (by decide)).trans f_49
      exact J_zret hq dX11_readText_198 rfl rfl (hkz l_46) (Nat.le_refl _) (Nat.le_refl _) ⟨rfl, l_46, f_47, ⟨_, f_50⟩, fun j q162 q165 q166 q170 => (((((((s_ne e_44 q166)).trans (s_ne e_34 q165)).trans (r_26 j q170)).trans (r_15 j q162)).trans (s_ne e_7 q162)).trans (s_ne e_3 q162)).trans (hf j q170)⟩
    · exact absurd ((nI_leI (a := 157) (by omega) (by omega)).mpr (by omega)) c_1
  | succ m ih =>
    intro k w g hk hl ha hg hf
    refine J_iload_n (i := 2) (j := 0) dX11_readText_2 rfl rfl ?_
    refine J_sipush (v := 157) dX11_readText_3 (by decide) ?_
    refine J_icmp_ge (tgt := 39) dX11_readText_6 (by decide) (fun c_1 => ?_) (fun c_1 => ?_)
    · exact absurd ((nI_leI (a := 157) (by omega) (by omega)).mp c_1) (by omega)
    · refine J_aload_n (i := 0) (j := 1) dX11_readText_9 rfl rfl ?_
      refine J_get (C := RX11) (T := TX11) (Z := 43) (ci := 11) (f := 19) dX11_readText_10 inG11 rfl (by decide) k1283 ((hf 162 (by decide)).trans hm) rfl ?_
      refine J_iload_n (i := 2) (j := 0) dX11_readText_13 rfl rfl ?_
      refine J_iload_n (i := 1) (j := 2) dX11_readText_14 rfl rfl ?_
      refine J_if_ne (tgt := 31) dX11_readText_15 (by decide) (fun q => absurd (by decide) q) (fun _ => ?_)
      refine J_iload_n (i := 2) (j := 0) dX11_readText_18 rfl rfl ?_
      refine J_iconst (v := 2) dX11_readText_19 (by decide) ?_
      refine J_iconst (v := 4) dX11_readText_20 (by decide) ?_
      refine J_callS (As := [.int (nI (k)), .int 2, .int 4]) (rest := [.int (nI (k)), .ref 170]) dX11_readText_21 (c_X11_in (d := 0) (h := w) (v := nI (k)) (lo := 2) (hi := 4) (by decide)) hq.n k1406 k1407 k97 k1408 np_X11_in (Nat.le_trans (by decide) hd) (by decide) (Nat.le_refl _) (Nat.le_refl _) (hkz hl) rfl (Nat.le_of_ble_eq_true rfl) (fun r_2 h_3 p_4 => ?_)
      obtain ⟨rfl, w_5⟩ := p_4
      refine J_w w_5 ?_
      refine J_ifB_eq (tgt := 31) dX11_readText_24 (by decide) (fun c_6 => ?_) (fun c_6 => ?_)
      · refine J_iconst (v := 0) dX11_readText_31 (by decide) ?_
        obtain ⟨h_7, e_8⟩ : ∃ z, z = w.set 170 (.inl (1, 157, .inl (upd g ((nI (k)).toNatClampNeg) 0))) := ⟨_, rfl⟩
        refine J_iast dX11_readText_32 ha (vp_in_nI (n := k) (by omega) (by omega)) e_8.symm ?_
        have f_9 := a_set e_8 ha
        have l_10 := l_set e_8 hl
        refine J_iinc (i := 2) (j := 0) (v := nI (k + 1)) (lw := [(2, .int (nI (k + 1))), (0, .ref 162), (1, .int 0)]) dX11_readText_33 rfl (nI_add _ _) (by decide) rfl ?_
        refine J_goto (tgt := 2) dX11_readText_36 (by decide) ?_
        exact ih (k + 1) _ _ (by omega) l_10 f_9 (rv_up (by omega) hg (rv_f (by omega) c_6)) (fun j hj => ((s_ne e_8 hj)).trans (hf j hj))
      · refine J_iconst (v := 1) dX11_readText_27 (by decide) ?_
        refine J_goto (tgt := 32) dX11_readText_28 (by decide) ?_
        obtain ⟨h_12, e_13⟩ : ∃ z, z = w.set 170 (.inl (1, 157, .inl (upd g ((nI (k)).toNatClampNeg) 1))) := ⟨_, rfl⟩
        refine J_iast dX11_readText_32 ha (vp_in_nI (n := k) (by omega) (by omega)) e_13.symm ?_
        have f_14 := a_set e_13 ha
        have l_15 := l_set e_13 hl
        refine J_iinc (i := 2) (j := 0) (v := nI (k + 1)) (lw := [(2, .int (nI (k + 1))), (0, .ref 162), (1, .int 0)]) dX11_readText_33 rfl (nI_add _ _) (by decide) rfl ?_
        refine J_goto (tgt := 2) dX11_readText_36 (by decide) ?_
        exact ih (k + 1) _ _ (by omega) l_15 f_14 (rv_up (by omega) hg (rv_t (by omega) c_6)) (fun j hj => ((s_ne e_13 hj)).trans (hf j hj))
set_option maxHeartbeats 4000000 in
set_option maxRecDepth 100000 in
theorem c_X11_readText0 {d : Nat} {h : List MC} {g5 g6 g0 : Nat → Int32} (hd : 4 ≤ d) (hm : h[162]? = some (.inr (11, [.int 0, .ref 163, .ref 164, .ref 165, .ref 166, .ref 167, .ref 168, .ref 169, .int 0, .int 0, .int 0, .int 0, .int 0, .long 0, .int 0, .int 0, .int 0, .int 0, .int 0, .ref 170, .ref 171, .ref 172, .int 0, .int 0, .int 0, .int 0, .int 0, .int 0, .ref 173, .ref 174, .ref 175, .int 0, .int 0, .int 0, .ref 176, .ref 177, .ref 178, .ref 179, .ref 180, .int 0, .long 0, .int 0, .ref 181]))) (h5 : h[165]? = some (.inl (1, 4, .inl g5))) (h6 : h[166]? = some (.inl (1, 4, .inl g6))) (h10 : h[170]? = some (.inl (1, 157, .inl g0)))  : CT con0 d 0 0 yX11_readText cX11_readText 4 (some .boolean) [.ref 162, .int 0] h (fun r h2 => r = some (.int 1) ∧ h2.length = h.length ∧ h2[162]? = some (.inr (11, [.int 0, .ref 163, .ref 164, .ref 165, .ref 166, .ref 167, .ref 168, .ref 169, .int 0, .int 0, .int 0, .int 0, .int 0, .long 0, .int 0, .int 0, .int 0, .int 0, .int 0, .ref 170, .ref 171, .ref 172, .int 0, .int 0, .int 0, .int 0, .int 0, .int 0, .ref 173, .ref 174, .ref 175, .int 0, .int 0, .int 0, .ref 176, .ref 177, .ref 178, .ref 179, .ref 180, .int 0, .long 0, .int 0, .ref 181])) ∧ (∃ g, h2[170]? = some (.inl (1, 157, .inl g))) ∧ ∀ j, j ≠ 162 → j ≠ 165 → j ≠ 166 → j ≠ 170 → h2[j]? = h[j]?) := by
  refine CT_of (by decide) (Nat.le_of_ble_eq_true rfl) (fun x hq => ?_)
  show J x yX11_readText cX11_readText 4 (some .boolean) d 0 0 h.length 0 [(0, .ref 162), (1, .int 0)] [] h 0 0
  refine J_iconst (v := 0) dX11_readText_0 (by decide) ?_
  refine J_istore_n (i := 2) (lw := [(2, .int 0), (0, .ref 162), (1, .int 0)]) dX11_readText_1 rfl (by decide) rfl ?_
  exact l_X11_readText0 hd hq hm h5 h6 157 0 h g0 (by omega) rfl h10 (fun i hi => absurd hi (by omega)) (fun _ _ => rfl)
set_option maxHeartbeats 4000000 in
set_option maxRecDepth 100000 in
theorem c_X11_see_s4 {d : Nat} {h : List MC}  (hd : 0 ≤ d) (g162 : h[162]? = some (.inr (11, [.int 0, .ref 163, .ref 164, .ref 165, .ref 166, .ref 167, .ref 168, .ref 169, .int 0, .int 0, .int 0, .int 0, .int 0, .long 0, .int 0, .int 0, .int 0, .int 0, .int 0, .ref 170, .ref 171, .ref 172, .int 0, .int 0, .int 0, .int 0, .int 0, .int 0, .ref 173, .ref 174, .ref 175, .int 0, .int 0, .int 0, .ref 176, .ref 177, .ref 178, .ref 179, .ref 180, .int 0, .long 0, .int 0, .ref 181]))) : CT con0 d 0 0 yX11_see cX11_see 1 (some .int) [.ref 162] h (fun r h2 => r = some (.int (-1)) ∧ h2.length = h.length ∧ ∀ j : Nat, h2[j]? = h[j]?) := by
  refine CT_of (by decide) (Nat.le_of_ble_eq_true rfl) (fun x hq => ?_)
  show J x yX11_see cX11_see 1 (some .int) d 0 0 h.length 0 [(0, .ref 162)] [] h 0 0
  refine J_aload_n (i := 0) (j := 0) dX11_see_0 rfl rfl ?_
  refine J_get (C := RX11) (T := TX11) (Z := 43) (ci := 11) (f := 8) dX11_see_1 inG11 rfl (by decide) k1272 g162 rfl ?_
  refine J_aload_n (i := 0) (j := 0) dX11_see_4 rfl rfl ?_
  refine J_get (C := RX11) (T := TX11) (Z := 43) (ci := 11) (f := 9) dX11_see_5 inG11 rfl (by decide) k1273 g162 rfl ?_
  refine J_icmp_ge (tgt := 27) dX11_see_8 (by decide) (fun _ => ?_) (fun q => absurd (by decide) q)
  refine J_iconst (v := (-1)) dX11_see_27 (by decide) ?_
  exact J_iret hq dX11_see_28 rfl (hkz rfl) (Nat.le_refl _) (Nat.le_refl _) ⟨rfl, rfl, fun j  => rfl⟩
set_option maxHeartbeats 4000000 in
set_option maxRecDepth 100000 in
theorem c_X11_see_s5 {d : Nat} {h : List MC}  (hd : 0 ≤ d) (g162 : h[162]? = some (.inr (11, [.int 0, .ref 163, .ref 164, .ref 165, .ref 166, .ref 167, .ref 168, .ref 169, .int 0, .int 0, .int 0, .int 0, .int 0, .long 0, .int 0, .int 0, .int 0, .int 0, .int 0, .ref 170, .ref 171, .ref 172, .int 0, .int 0, .int 0, .int 0, .int 0, .int 0, .ref 173, .ref 174, .ref 175, .int 0, .int 0, .int 0, .ref 176, .ref 177, .ref 178, .ref 179, .ref 180, .int 0, .long 0, .int 0, .ref 181]))) : CT con0 d 0 0 yX11_see cX11_see 1 (some .int) [.ref 162] h (fun r h2 => r = some (.int (-1)) ∧ h2.length = h.length ∧ ∀ j : Nat, h2[j]? = h[j]?) := by
  refine CT_of (by decide) (Nat.le_of_ble_eq_true rfl) (fun x hq => ?_)
  show J x yX11_see cX11_see 1 (some .int) d 0 0 h.length 0 [(0, .ref 162)] [] h 0 0
  refine J_aload_n (i := 0) (j := 0) dX11_see_0 rfl rfl ?_
  refine J_get (C := RX11) (T := TX11) (Z := 43) (ci := 11) (f := 8) dX11_see_1 inG11 rfl (by decide) k1272 g162 rfl ?_
  refine J_aload_n (i := 0) (j := 0) dX11_see_4 rfl rfl ?_
  refine J_get (C := RX11) (T := TX11) (Z := 43) (ci := 11) (f := 9) dX11_see_5 inG11 rfl (by decide) k1273 g162 rfl ?_
  refine J_icmp_ge (tgt := 27) dX11_see_8 (by decide) (fun _ => ?_) (fun q => absurd (by decide) q)
  refine J_iconst (v := (-1)) dX11_see_27 (by decide) ?_
  exact J_iret hq dX11_see_28 rfl (hkz rfl) (Nat.le_refl _) (Nat.le_refl _) ⟨rfl, rfl, fun j  => rfl⟩
set_option maxHeartbeats 4000000 in
set_option maxRecDepth 100000 in
theorem c_X11_see_s6 {d : Nat} {h : List MC}  (hd : 0 ≤ d) (g162 : h[162]? = some (.inr (11, [.int 0, .ref 163, .ref 164, .ref 165, .ref 166, .ref 167, .ref 168, .ref 169, .int 0, .int 0, .int 0, .int 0, .int 0, .long 0, .int 0, .int 0, .int 0, .int 0, .int 0, .ref 170, .ref 171, .ref 172, .int 0, .int 0, .int 0, .int 0, .int 0, .int 0, .ref 173, .ref 174, .ref 175, .int 0, .int 0, .int 0, .ref 176, .ref 177, .ref 178, .ref 179, .ref 180, .int 0, .long 0, .int 0, .ref 181]))) : CT con0 d 0 0 yX11_see cX11_see 1 (some .int) [.ref 162] h (fun r h2 => r = some (.int (-1)) ∧ h2.length = h.length ∧ ∀ j : Nat, h2[j]? = h[j]?) := by
  refine CT_of (by decide) (Nat.le_of_ble_eq_true rfl) (fun x hq => ?_)
  show J x yX11_see cX11_see 1 (some .int) d 0 0 h.length 0 [(0, .ref 162)] [] h 0 0
  refine J_aload_n (i := 0) (j := 0) dX11_see_0 rfl rfl ?_
  refine J_get (C := RX11) (T := TX11) (Z := 43) (ci := 11) (f := 8) dX11_see_1 inG11 rfl (by decide) k1272 g162 rfl ?_
  refine J_aload_n (i := 0) (j := 0) dX11_see_4 rfl rfl ?_
  refine J_get (C := RX11) (T := TX11) (Z := 43) (ci := 11) (f := 9) dX11_see_5 inG11 rfl (by decide) k1273 g162 rfl ?_
  refine J_icmp_ge (tgt := 27) dX11_see_8 (by decide) (fun _ => ?_) (fun q => absurd (by decide) q)
  refine J_iconst (v := (-1)) dX11_see_27 (by decide) ?_
  exact J_iret hq dX11_see_28 rfl (hkz rfl) (Nat.le_refl _) (Nat.le_refl _) ⟨rfl, rfl, fun j  => rfl⟩
set_option maxHeartbeats 4000000 in
set_option maxRecDepth 100000 in
theorem c_X11_token_s2 {d : Nat} {h : List MC}  (hd : 1 ≤ d) (g162 : h[162]? = some (.inr (11, [.int 0, .ref 163, .ref 164, .ref 165, .ref 166, .ref 167, .ref 168, .ref 169, .int 0, .int 0, .int 0, .int 0, .int 0, .long 0, .int 0, .int 0, .int 0, .int 0, .int 0, .ref 170, .ref 171, .ref 172, .int 0, .int 0, .int 0, .int 0, .int 0, .int 0, .ref 173, .ref 174, .ref 175, .int 0, .int 0, .int 0, .ref 176, .ref 177, .ref 178, .ref 179, .ref 180, .int 0, .long 0, .int 0, .ref 181]))) : CT con0 d 0 0 yX11_token cX11_token 3 none [.ref 162] h (fun r h2 => r = none ∧ h2.length = h.length ∧ h2[162]? = some (.inr (11, [.int 0, .ref 163, .ref 164, .ref 165, .ref 166, .ref 167, .ref 168, .ref 169, .int 0, .int 0, .int 0, .int 0, .int 0, .long 0, .int 0, .int 0, .int 0, .int 0, .int 0, .ref 170, .ref 171, .ref 172, .int 0, .int 0, .int 0, .int 0, .int 0, .int 0, .ref 173, .ref 174, .ref 175, .int 0, .int 0, .int 0, .ref 176, .ref 177, .ref 178, .ref 179, .ref 180, .int 0, .long 0, .int 0, .ref 181])) ∧ ∀ j : Nat, j ≠ 162 → h2[j]? = h[j]?) := by
  refine CT_of (by decide) (Nat.le_of_ble_eq_true rfl) (fun x hq => ?_)
  show J x yX11_token cX11_token 3 none d 0 0 h.length 0 [(0, .ref 162)] [] h 0 0
  refine J_aload_n (i := 0) (j := 0) dX11_token_0 rfl rfl ?_
  refine J_callV (As := []) (rest := []) dX11_token_1 (c_X11_see_s4 (d := 0) (h := h) (by decide) g162) hq.n k1421 k1423 k39 g162 rfl rfl k97 k1424 np_X11_see (Nat.le_trans (by decide) hd) (by decide) (Nat.le_refl _) (Nat.le_refl _) (hkz rfl) rfl (Nat.le_of_ble_eq_true rfl) (fun r_1 h_2 p_3 => ?_)
  obtain ⟨rfl, l_4, r_5⟩ := p_3
  have l_6 := l_4.trans rfl
  refine J_bipush (v := 10) dX11_token_4 (by decide) ?_
  refine J_icmp_eq (tgt := 18) dX11_token_6 (by decide) (fun q => absurd q (by decide)) (fun _ => ?_)
  refine J_aload_n (i := 0) (j := 0) dX11_token_9 rfl rfl ?_
  have f_7 : h_2[162]? = some (.inr (11, [.int 0, .ref 163, .ref 164, .ref 165, .ref 166, .ref 167, .ref 168, .ref 169, .int 0, .int 0, .int 0, .int 0, .int 0, .long 0, .int 0, .int 0, .int 0, .int 0, .int 0, .ref 170, .ref 171, .ref 172, .int 0, .int 0, .int 0, .int 0, .int 0, .int 0, .ref 173, .ref 174, .ref 175, .int 0, .int 0, .int 0, .ref 176, .ref 177, .ref 178, .ref 179, .ref 180, .int 0, .long 0, .int 0, .ref 181])) := (r_5 162 ).trans g162
  refine J_callV (As := []) (rest := []) dX11_token_10 (c_X11_see_s5 (d := 0) (h := h_2) (by decide) f_7) hq.n k1421 k1423 k39 f_7 rfl rfl k97 k1424 np_X11_see (Nat.le_trans (by decide) hd) (by decide) (Nat.le_refl _) (Nat.le_refl _) (hkz l_6) rfl (Nat.le_of_ble_eq_true rfl) (fun r_8 h_9 p_10 => ?_)
  obtain ⟨rfl, l_11, r_12⟩ := p_10
  have l_13 := l_11.trans l_6
  refine J_bipush (v := 32) dX11_token_13 (by decide) ?_
  refine J_icmp_ne (tgt := 31) dX11_token_15 (by decide) (fun _ => ?_) (fun q => absurd q (by decide))
  refine J_aload_n (i := 0) (j := 0) dX11_token_31 rfl rfl ?_
  refine J_aload_n (i := 0) (j := 0) dX11_token_32 rfl rfl ?_
  have f_14 : h_9[162]? = some (.inr (11, [.int 0, .ref 163, .ref 164, .ref 165, .ref 166, .ref 167, .ref 168, .ref 169, .int 0, .int 0, .int 0, .int 0, .int 0, .long 0, .int 0, .int 0, .int 0, .int 0, .int 0, .ref 170, .ref 171, .ref 172, .int 0, .int 0, .int 0, .int 0, .int 0, .int 0, .ref 173, .ref 174, .ref 175, .int 0, .int 0, .int 0, .ref 176, .ref 177, .ref 178, .ref 179, .ref 180, .int 0, .long 0, .int 0, .ref 181])) := (r_12 162 ).trans f_7
  refine J_get (C := RX11) (T := TX11) (Z := 43) (ci := 11) (f := 8) dX11_token_33 inG11 rfl (by decide) k1272 f_14 rfl ?_
  obtain ⟨h_15, e_16⟩ : ∃ z, z = h_9.set 162 (.inr (11, [.int 0, .ref 163, .ref 164, .ref 165, .ref 166, .ref 167, .ref 168, .ref 169, .int 0, .int 0, .int 0, .int 0, .int 0, .long 0, .int 0, .int 0, .int 0, .int 0, .int 0, .ref 170, .ref 171, .ref 172, .int 0, .int 0, .int 0, .int 0, .int 0, .int 0, .ref 173, .ref 174, .ref 175, .int 0, .int 0, .int 0, .ref 176, .ref 177, .ref 178, .ref 179, .ref 180, .int 0, .long 0, .int 0, .ref 181])) := ⟨_, rfl⟩
  refine J_put (C := RX11) (T := TX11) (Z := 43) (ci := 11) (f := 10) (ty0 := tyX11) dX11_token_36 inG11 rfl tyX11_ok nmX11 (by decide) k1274 rfl rfl f_14 (Nat.le_of_ble_eq_true rfl) (fun _ _ => ⟨rfl, rfl⟩) e_16.symm ?_
  have f_17 := a_set e_16 f_14
  have l_18 := l_set e_16 l_13
  refine J_aload_n (i := 0) (j := 0) dX11_token_39 rfl rfl ?_
  refine J_callV (As := []) (rest := []) dX11_token_40 (c_X11_see_s6 (d := 0) (h := h_15) (by decide) f_17) hq.n k1421 k1423 k39 f_17 rfl rfl k97 k1424 np_X11_see (Nat.le_trans (by decide) hd) (by decide) (Nat.le_refl _) (Nat.le_refl _) (hkz l_18) rfl (Nat.le_of_ble_eq_true rfl) (fun r_19 h_20 p_21 => ?_)
  obtain ⟨rfl, l_22, r_23⟩ := p_21
  have l_24 := l_22.trans l_18
  refine J_istore_n (i := 1) (lw := [(1, .int (-1)), (0, .ref 162)]) dX11_token_43 rfl (by decide) rfl ?_
  refine J_aload_n (i := 0) (j := 1) dX11_token_44 rfl rfl ?_
  refine J_lconst (v := 0) dX11_token_45 (by decide) ?_
  have f_25 : h_20[162]? = some (.inr (11, [.int 0, .ref 163, .ref 164, .ref 165, .ref 166, .ref 167, .ref 168, .ref 169, .int 0, .int 0, .int 0, .int 0, .int 0, .long 0, .int 0, .int 0, .int 0, .int 0, .int 0, .ref 170, .ref 171, .ref 172, .int 0, .int 0, .int 0, .int 0, .int 0, .int 0, .ref 173, .ref 174, .ref 175, .int 0, .int 0, .int 0, .ref 176, .ref 177, .ref 178, .ref 179, .ref 180, .int 0, .long 0, .int 0, .ref 181])) := (r_23 162 ).trans f_17
  obtain ⟨h_26, e_27⟩ : ∃ z, z = h_20.set 162 (.inr (11, [.int 0, .ref 163, .ref 164, .ref 165, .ref 166, .ref 167, .ref 168, .ref 169, .int 0, .int 0, .int 0, .int 0, .int 0, .long 0, .int 0, .int 0, .int 0, .int 0, .int 0, .ref 170, .ref 171, .ref 172, .int 0, .int 0, .int 0, .int 0, .int 0, .int 0, .ref 173, .ref 174, .ref 175, .int 0, .int 0, .int 0, .ref 176, .ref 177, .ref 178, .ref 179, .ref 180, .int 0, .long 0, .int 0, .ref 181])) := ⟨_, rfl⟩
  refine J_put (C := RX11) (T := TX11) (Z := 43) (ci := 11) (f := 13) (ty0 := tyX11) dX11_token_46 inG11 rfl tyX11_ok nmX11 (by decide) k1277 rfl rfl f_25 (Nat.le_of_ble_eq_true rfl) (fun _ _ => ⟨rfl, rfl⟩) e_27.symm ?_
  have f_28 := a_set e_27 f_25
  have l_29 := l_set e_27 l_24
  refine J_iconst (v := 0) dX11_token_49 (by decide) ?_
  refine J_istore_n (i := 2) (lw := [(2, .int 0), (1, .int (-1)), (0, .ref 162)]) dX11_token_50 rfl (by decide) rfl ?_
  refine J_iload_n (i := 1) (j := 1) dX11_token_51 rfl rfl ?_
  refine J_if_ge (tgt := 63) dX11_token_52 (by decide) (fun q => absurd q (by decide)) (fun _ => ?_)
  refine J_aload_n (i := 0) (j := 2) dX11_token_55 rfl rfl ?_
  refine J_iconst (v := 0) dX11_token_56 (by decide) ?_
  obtain ⟨h_30, e_31⟩ : ∃ z, z = h_26.set 162 (.inr (11, [.int 0, .ref 163, .ref 164, .ref 165, .ref 166, .ref 167, .ref 168, .ref 169, .int 0, .int 0, .int 0, .int 0, .int 0, .long 0, .int 0, .int 0, .int 0, .int 0, .int 0, .ref 170, .ref 171, .ref 172, .int 0, .int 0, .int 0, .int 0, .int 0, .int 0, .ref 173, .ref 174, .ref 175, .int 0, .int 0, .int 0, .ref 176, .ref 177, .ref 178, .ref 179, .ref 180, .int 0, .long 0, .int 0, .ref 181])) := ⟨_, rfl⟩
  refine J_put (C := RX11) (T := TX11) (Z := 43) (ci := 11) (f := 11) (ty0 := tyX11) dX11_token_57 inG11 rfl tyX11_ok nmX11 (by decide) k1275 rfl rfl f_28 (Nat.le_of_ble_eq_true rfl) (fun _ _ => ⟨rfl, rfl⟩) e_31.symm ?_
  have f_32 := a_set e_31 f_28
  have l_33 := l_set e_31 l_29
  refine J_goto (tgt := 266) dX11_token_60 (by decide) ?_
  exact J_vret hq dX11_token_266 rfl (hkz l_33) (Nat.le_refl _) (Nat.le_refl _) ⟨rfl, l_33, f_32, fun j q162 => ((((((s_ne e_31 q162)).trans (s_ne e_27 q162)).trans (r_23 j )).trans (s_ne e_16 q162)).trans (r_12 j )).trans (r_5 j )⟩
set_option maxHeartbeats 4000000 in
set_option maxRecDepth 100000 in
theorem l_X11_readText1 {x : JX} {d : Nat} {h : List MC} {g5 g6 : Nat → Int32} (hd : 4 ≤ d) (hq : JQ x con0 0 0 (fun r h2 => r = some (.int 1) ∧ h2.length = h.length ∧ h2[162]? = some (.inr (11, [.int 0, .ref 163, .ref 164, .ref 165, .ref 166, .ref 167, .ref 168, .ref 169, .int 0, .int 0, .int 0, .int 0, .int 0, .long 0, .int 0, .int 0, .int 0, .int 0, .int 0, .ref 170, .ref 171, .ref 172, .int 0, .int 0, .int 0, .int 0, .int 0, .int 0, .ref 173, .ref 174, .ref 175, .int 0, .int 0, .int 0, .ref 176, .ref 177, .ref 178, .ref 179, .ref 180, .int 0, .long 0, .int 0, .ref 181])) ∧ (∃ g, h2[170]? = some (.inl (1, 157, .inl g))) ∧ ∀ j, j ≠ 162 → j ≠ 165 → j ≠ 166 → j ≠ 170 → h2[j]? = h[j]?)) (hm : h[162]? = some (.inr (11, [.int 0, .ref 163, .ref 164, .ref 165, .ref 166, .ref 167, .ref 168, .ref 169, .int 0, .int 0, .int 0, .int 0, .int 0, .long 0, .int 0, .int 0, .int 0, .int 0, .int 0, .ref 170, .ref 171, .ref 172, .int 0, .int 0, .int 0, .int 0, .int 0, .int 0, .ref 173, .ref 174, .ref 175, .int 0, .int 0, .int 0, .ref 176, .ref 177, .ref 178, .ref 179, .ref 180, .int 0, .long 0, .int 0, .ref 181]))) (h5 : h[165]? = some (.inl (1, 4, .inl g5))) (h6 : h[166]? = some (.inl (1, 4, .inl g6))) : ∀ (m k : Nat) (w : List MC) (g : Nat → Int32), k + m = 157 → w.length = h.length → w[170]? = some (.inl (1, 157, .inl g)) → (∀ i, i < k → g i = RV 1 i) → (∀ j, j ≠ 170 → w[j]? = h[j]?) → J x yX11_readText cX11_readText 4 (some .boolean) d 0 0 h.length 2 [(2, .int (nI k)), (0, .ref 162), (1, .int 1)] [] w 0 0 := by
  intro m
  induction m with
  | zero =>
    intro k w g hk hl ha hg hf
    have hg1 : g 1 = 0 := (hg 1 (by omega)).trans (by decide)
    refine J_iload_n (i := 2) (j := 0) dX11_readText_2 rfl rfl ?_
    refine J_sipush (v := 157) dX11_readText_3 (by decide) ?_
    refine J_icmp_ge (tgt := 39) dX11_readText_6 (by decide) (fun c_1 => ?_) (fun c_1 => ?_)
    · refine J_aload_n (i := 0) (j := 1) dX11_readText_39 rfl rfl ?_
      refine J_iconst (v := 0) dX11_readText_40 (by decide) ?_
      obtain ⟨h_2, e_3⟩ : ∃ z, z = w.set 162 (.inr (11, [.int 0, .ref 163, .ref 164, .ref 165, .ref 166, .ref 167, .ref 168, .ref 169, .int 0, .int 0, .int 0, .int 0, .int 0, .long 0, .int 0, .int 0, .int 0, .int 0, .int 0, .ref 170, .ref 171, .ref 172, .int 0, .int 0, .int 0, .int 0, .int 0, .int 0, .ref 173, .ref 174, .ref 175, .int 0, .int 0, .int 0, .ref 176, .ref 177, .ref 178, .ref 179, .ref 180, .int 0, .long 0, .int 0, .ref 181])) := ⟨_, rfl⟩
      refine J_put (C := RX11) (T := TX11) (Z := 43) (ci := 11) (f := 8) (ty0 := tyX11) dX11_readText_41 inG11 rfl tyX11_ok nmX11 (by decide) k1272 rfl rfl ((hf 162 (by decide)).trans hm) (Nat.le_of_ble_eq_true rfl) (fun _ _ => ⟨rfl, rfl⟩) e_3.symm ?_
      have f_4 := a_set e_3 ((hf 162 (by decide)).trans hm)
      have l_5 := l_set e_3 hl
      refine J_aload_n (i := 0) (j := 1) dX11_readText_44 rfl rfl ?_
      refine J_iconst (v := 0) dX11_readText_45 (by decide) ?_
      obtain ⟨h_6, e_7⟩ : ∃ z, z = h_2.set 162 (.inr (11, [.int 0, .ref 163, .ref 164, .ref 165, .ref 166, .ref 167, .ref 168, .ref 169, .int 0, .int 0, .int 0, .int 0, .int 0, .long 0, .int 0, .int 0, .int 0, .int 0, .int 0, .ref 170, .ref 171, .ref 172, .int 0, .int 0, .int 0, .int 0, .int 0, .int 0, .ref 173, .ref 174, .ref 175, .int 0, .int 0, .int 0, .ref 176, .ref 177, .ref 178, .ref 179, .ref 180, .int 0, .long 0, .int 0, .ref 181])) := ⟨_, rfl⟩
      refine J_put (C := RX11) (T := TX11) (Z := 43) (ci := 11) (f := 15) (ty0 := tyX11) dX11_readText_46 inG11 rfl tyX11_ok nmX11 (by decide) k1279 rfl rfl f_4 (Nat.le_of_ble_eq_true rfl) (fun _ _ => ⟨rfl, rfl⟩) e_7.symm ?_
      have f_8 := a_set e_7 f_4
      have l_9 := l_set e_7 l_5
      refine J_iconst (v := 1) dX11_readText_49 (by decide) ?_
      refine J_istore_n (i := 2) (lw := [(2, .int 1), (0, .ref 162), (1, .int 1)]) dX11_readText_50 rfl (by decide) rfl ?_
      refine J_aload_n (i := 0) (j := 1) dX11_readText_51 rfl rfl ?_
      refine J_callV (As := []) (rest := []) dX11_readText_52 (c_X11_token_s2 (d := 1) (h := h_6) (by decide) f_8) hq.n k1417 k1419 k38 f_8 rfl rfl k97 k1420 np_X11_token (Nat.le_trans (by decide) hd) (by decide) (Nat.le_refl _) (Nat.le_refl _) (hkz l_9) rfl (Nat.le_of_ble_eq_true rfl) (fun r_10 h_11 p_12 => ?_)
      obtain ⟨rfl, l_13, f_14, r_15⟩ := p_12
      have l_16 := l_13.trans l_9
      refine J_iload_n (i := 2) (j := 0) dX11_readText_55 rfl rfl ?_
      refine J_if_eq (tgt := 122) dX11_readText_56 (by decide) (fun q => absurd q (by decide)) (fun _ => ?_)
      refine J_aload_n (i := 0) (j := 1) dX11_readText_59 rfl rfl ?_
      refine J_get (C := RX11) (T := TX11) (Z := 43) (ci := 11) (f := 11) dX11_readText_60 inG11 rfl (by decide) k1275 f_14 rfl ?_
      refine J_if_eq (tgt := 122) dX11_readText_63 (by decide) (fun _ => ?_) (fun q => absurd (by decide) q)
      refine J_iload_n (i := 2) (j := 0) dX11_readText_122 rfl rfl ?_
      refine J_if_eq (tgt := 134) dX11_readText_123 (by decide) (fun q => absurd q (by decide)) (fun _ => ?_)
      refine J_iload_n (i := 1) (j := 2) dX11_readText_126 rfl rfl ?_
      refine J_if_ne (tgt := 134) dX11_readText_127 (by decide) (fun _ => ?_) (fun q => absurd q (by decide))
      refine J_aload_n (i := 0) (j := 1) dX11_readText_134 rfl rfl ?_
      refine J_get (C := RX11) (T := TX11) (Z := 43) (ci := 11) (f := 3) dX11_readText_135 inG11 rfl (by decide) k1267 f_14 rfl ?_
      refine J_iconst (v := 0) dX11_readText_138 (by decide) ?_
      refine J_iload_n (i := 2) (j := 0) dX11_readText_139 rfl rfl ?_
      refine J_if_eq (tgt := 150) dX11_readText_140 (by decide) (fun q => absurd q (by decide)) (fun _ => ?_)
      refine J_aload_n (i := 0) (j := 1) dX11_readText_143 rfl rfl ?_
      refine J_get (C := RX11) (T := TX11) (Z := 43) (ci := 11) (f := 15) dX11_readText_144 inG11 rfl (by decide) k1279 f_14 rfl ?_
      refine J_goto (tgt := 151) dX11_readText_147 (by decide) ?_
      have f_17 : h_2[165]? = some (.inl (1, 4, .inl g5)) := (s_ne e_3 (by decide)).trans ((hf 165 (by decide)).trans h5)
      have f_18 : h_6[165]? = some (.inl (1, 4, .inl g5)) := (s_ne e_7 (by decide)).trans f_17
      have f_19 : h_11[165]? = some (.inl (1, 4, .inl g5)) := (r_15 165 (by decide)).trans f_18
      obtain ⟨h_20, e_21⟩ : ∃ z, z = h_11.set 165 (.inl (1, 4, .inl (upd g5 ((0 : Int32).toNatClampNeg) 0))) := ⟨_, rfl⟩
      refine J_iast dX11_readText_151 f_19 (vp_c (by decide)) e_21.symm ?_
      have f_22 := a_set e_21 f_19
      have l_23 := l_set e_21 l_16
      refine J_aload_n (i := 0) (j := 1) dX11_readText_152 rfl rfl ?_
      have f_24 : h_20[162]? = some (.inr (11, [.int 0, .ref 163, .ref 164, .ref 165, .ref 166, .ref 167, .ref 168, .ref 169, .int 0, .int 0, .int 0, .int 0, .int 0, .long 0, .int 0, .int 0, .int 0, .int 0, .int 0, .ref 170, .ref 171, .ref 172, .int 0, .int 0, .int 0, .int 0, .int 0, .int 0, .ref 173, .ref 174, .ref 175, .int 0, .int 0, .int 0, .ref 176, .ref 177, .ref 178, .ref 179, .ref 180, .int 0, .long 0, .int 0, .ref 181])) := (s_ne e_21 (by decide)).trans f_14
      refine J_get (C := RX11) (T := TX11) (Z := 43) (ci := 11) (f := 4) dX11_readText_153 inG11 rfl (by decide) k1268 f_24 rfl ?_
      refine J_iconst (v := 0) dX11_readText_156 (by decide) ?_
      refine J_iload_n (i := 2) (j := 0) dX11_readText_157 rfl rfl ?_
      refine J_if_ne (tgt := 168) dX11_readText_158 (by decide) (fun _ => ?_) (fun q => absurd q (by decide))
      refine J_aload_n (i := 0) (j := 1) dX11_readText_168 rfl rfl ?_
      refine J_get (C := RX11) (T := TX11) (Z := 43) (ci := 11) (f := 15) dX11_readText_169 inG11 rfl (by decide) k1279 f_24 rfl ?_
      refine J_if_le (tgt := 182) dX11_readText_172 (by decide) (fun _ => ?_) (fun q => absurd (by decide) q)
      refine J_iconst (v := (-1)) dX11_readText_182 (by decide) ?_
      have f_25 : h_2[166]? = some (.inl (1, 4, .inl g6)) := (s_ne e_3 (by decide)).trans ((hf 166 (by decide)).trans h6)
      have f_26 : h_6[166]? = some (.inl (1, 4, .inl g6)) := (s_ne e_7 (by decide)).trans f_25
      have f_27 : h_11[166]? = some (.inl (1, 4, .inl g6)) := (r_15 166 (by decide)).trans f_26
      have f_28 : h_20[166]? = some (.inl (1, 4, .inl g6)) := (s_ne e_21 (by decide)).trans f_27
      obtain ⟨h_29, e_30⟩ : ∃ z, z = h_20.set 166 (.inl (1, 4, .inl (upd g6 ((0 : Int32).toNatClampNeg) (-1)))) := ⟨_, rfl⟩
      refine J_iast dX11_readText_183 f_28 (vp_c (by decide)) e_30.symm ?_
      have f_31 := a_set e_30 f_28
      have l_32 := l_set e_30 l_23
      refine J_aload_n (i := 0) (j := 1) dX11_readText_184 rfl rfl ?_
      have f_33 : h_29[162]? = some (.inr (11, [.int 0, .ref 163, .ref 164, .ref 165, .ref 166, .ref 167, .ref 168, .ref 169, .int 0, .int 0, .int 0, .int 0, .int 0, .long 0, .int 0, .int 0, .int 0, .int 0, .int 0, .ref 170, .ref 171, .ref 172, .int 0, .int 0, .int 0, .int 0, .int 0, .int 0, .ref 173, .ref 174, .ref 175, .int 0, .int 0, .int 0, .ref 176, .ref 177, .ref 178, .ref 179, .ref 180, .int 0, .long 0, .int 0, .ref 181])) := (s_ne e_30 (by decide)).trans f_24
      refine J_get (C := RX11) (T := TX11) (Z := 43) (ci := 11) (f := 3) dX11_readText_185 inG11 rfl (by decide) k1267 f_33 rfl ?_
      refine J_iconst (v := 0) dX11_readText_188 (by decide) ?_
      have f_34 : h_29[165]? = some (.inl (1, 4, .inl (upd g5 ((0 : Int32).toNatClampNeg) 0))) := (s_ne e_30 (by decide)).trans f_22
      refine J_iald dX11_readText_189 f_34 (vp_c (by decide)) ?_
      refine J_ci (v := 0) rfl ?_
      refine J_if_ne (tgt := 197) dX11_readText_190 (by decide) (fun q => absurd (by decide) q) (fun _ => ?_)
      refine J_iconst (v := 1) dX11_readText_193 (by decide) ?_
      refine J_goto (tgt := 198) dX11_readText_194 (by decide) ?_
      have f_35 : h_2[170]? = some (.inl (1, 157, .inl g)) := (s_ne e_3 (by decide)).trans ha
      have f_36 : h_6[170]? = some (.inl (1, 157, .inl g)) := (s_ne e_7 (by decide)).trans f_35
      have f_37 : h_11[170]? = some (.inl (1, 157, .inl g)) := (r_15 170 (by decide)).trans f_36
      have f_38 : h_20[170]? = some (.inl (1, 157, .inl g)) := (s_ne e_21 (by decide)).trans f_37
      have f_39 : h_29[170]? = some (.inl (1, 157, .inl g)) := (s_ne e_30 (by decide)).trans f_38
      exact J_zret hq dX11_readText_198 rfl rfl (hkz l_32) (Nat.le_refl _) (Nat.le_refl _) ⟨rfl, l_32, f_33, ⟨_, f_39⟩, fun j q162 q165 q166 q170 => ((((((s_ne e_30 q166)).trans (s_ne e_21 q165)).trans (r_15 j q162)).trans (s_ne e_7 q162)).trans (s_ne e_3 q162)).trans (hf j q170)⟩
    · exact absurd ((nI_leI (a := 157) (by omega) (by omega)).mpr (by omega)) c_1
  | succ m ih =>
    intro k w g hk hl ha hg hf
    refine J_iload_n (i := 2) (j := 0) dX11_readText_2 rfl rfl ?_
    refine J_sipush (v := 157) dX11_readText_3 (by decide) ?_
    refine J_icmp_ge (tgt := 39) dX11_readText_6 (by decide) (fun c_1 => ?_) (fun c_1 => ?_)
    · exact absurd ((nI_leI (a := 157) (by omega) (by omega)).mp c_1) (by omega)
    · refine J_aload_n (i := 0) (j := 1) dX11_readText_9 rfl rfl ?_
      refine J_get (C := RX11) (T := TX11) (Z := 43) (ci := 11) (f := 19) dX11_readText_10 inG11 rfl (by decide) k1283 ((hf 162 (by decide)).trans hm) rfl ?_
      refine J_iload_n (i := 2) (j := 0) dX11_readText_13 rfl rfl ?_
      refine J_iload_n (i := 1) (j := 2) dX11_readText_14 rfl rfl ?_
      refine J_if_ne (tgt := 31) dX11_readText_15 (by decide) (fun _ => ?_) (fun q => absurd q (by decide))
      refine J_iconst (v := 0) dX11_readText_31 (by decide) ?_
      obtain ⟨h_2, e_3⟩ : ∃ z, z = w.set 170 (.inl (1, 157, .inl (upd g ((nI (k)).toNatClampNeg) 0))) := ⟨_, rfl⟩
      refine J_iast dX11_readText_32 ha (vp_in_nI (n := k) (by omega) (by omega)) e_3.symm ?_
      have f_4 := a_set e_3 ha
      have l_5 := l_set e_3 hl
      refine J_iinc (i := 2) (j := 0) (v := nI (k + 1)) (lw := [(2, .int (nI (k + 1))), (0, .ref 162), (1, .int 1)]) dX11_readText_33 rfl (nI_add _ _) (by decide) rfl ?_
      refine J_goto (tgt := 2) dX11_readText_36 (by decide) ?_
      exact ih (k + 1) _ _ (by omega) l_5 f_4 (rv_up (by omega) hg rv_1) (fun j hj => ((s_ne e_3 hj)).trans (hf j hj))
set_option maxHeartbeats 4000000 in
set_option maxRecDepth 100000 in
theorem c_X11_readText1 {d : Nat} {h : List MC} {g5 g6 g0 : Nat → Int32} (hd : 4 ≤ d) (hm : h[162]? = some (.inr (11, [.int 0, .ref 163, .ref 164, .ref 165, .ref 166, .ref 167, .ref 168, .ref 169, .int 0, .int 0, .int 0, .int 0, .int 0, .long 0, .int 0, .int 0, .int 0, .int 0, .int 0, .ref 170, .ref 171, .ref 172, .int 0, .int 0, .int 0, .int 0, .int 0, .int 0, .ref 173, .ref 174, .ref 175, .int 0, .int 0, .int 0, .ref 176, .ref 177, .ref 178, .ref 179, .ref 180, .int 0, .long 0, .int 0, .ref 181]))) (h5 : h[165]? = some (.inl (1, 4, .inl g5))) (h6 : h[166]? = some (.inl (1, 4, .inl g6))) (h10 : h[170]? = some (.inl (1, 157, .inl g0)))  : CT con0 d 0 0 yX11_readText cX11_readText 4 (some .boolean) [.ref 162, .int 1] h (fun r h2 => r = some (.int 1) ∧ h2.length = h.length ∧ h2[162]? = some (.inr (11, [.int 0, .ref 163, .ref 164, .ref 165, .ref 166, .ref 167, .ref 168, .ref 169, .int 0, .int 0, .int 0, .int 0, .int 0, .long 0, .int 0, .int 0, .int 0, .int 0, .int 0, .ref 170, .ref 171, .ref 172, .int 0, .int 0, .int 0, .int 0, .int 0, .int 0, .ref 173, .ref 174, .ref 175, .int 0, .int 0, .int 0, .ref 176, .ref 177, .ref 178, .ref 179, .ref 180, .int 0, .long 0, .int 0, .ref 181])) ∧ (∃ g, h2[170]? = some (.inl (1, 157, .inl g))) ∧ ∀ j, j ≠ 162 → j ≠ 165 → j ≠ 166 → j ≠ 170 → h2[j]? = h[j]?) := by
  refine CT_of (by decide) (Nat.le_of_ble_eq_true rfl) (fun x hq => ?_)
  show J x yX11_readText cX11_readText 4 (some .boolean) d 0 0 h.length 0 [(0, .ref 162), (1, .int 1)] [] h 0 0
  refine J_iconst (v := 0) dX11_readText_0 (by decide) ?_
  refine J_istore_n (i := 2) (lw := [(2, .int 0), (0, .ref 162), (1, .int 1)]) dX11_readText_1 rfl (by decide) rfl ?_
  exact l_X11_readText1 hd hq hm h5 h6 157 0 h g0 (by omega) rfl h10 (fun i hi => absurd hi (by omega)) (fun _ _ => rfl)
set_option maxHeartbeats 4000000 in
theorem l_X11_text0 {x : JX} {d : Nat} {h : List MC} {g10 : Nat → Int32} (hq : JQ x con0 0 0 (fun r _ => r = some (.int 0))) (hm : h[162]? = some (.inr (11, [.int 0, .ref 163, .ref 164, .ref 165, .ref 166, .ref 167, .ref 168, .ref 169, .int 0, .int 0, .int 0, .int 0, .int 0, .long 0, .int 0, .int 0, .int 0, .int 0, .int 0, .ref 170, .ref 171, .ref 172, .int 0, .int 0, .int 0, .int 0, .int 0, .int 0, .ref 173, .ref 174, .ref 175, .int 0, .int 0, .int 0, .ref 176, .ref 177, .ref 178, .ref 179, .ref 180, .int 0, .long 0, .int 0, .ref 181]))) (h10 : h[170]? = some (.inl (1, 157, .inl g10))) : ∀ (m k : Nat) (w : List MC) (g : Nat → Int32), k + m = 157 → w.length = h.length → w[168]? = some (.inl (1, 1256, .inl g)) → (∀ j, j ≠ 168 → w[j]? = h[j]?) → J x yX11_text cX11_text 5 (some .int) d 0 0 h.length 138 [(4, .int (nI k)), (3, .int 0), (0, .ref 162), (1, .int 0), (2, .int (-1))] [] w 0 0 := by
  intro m
  induction m with
  | zero =>
    intro k w g hk hl ha hf
    refine J_iload (i := 4) (j := 0) dX11_text_138 rfl ?_
    refine J_sipush (v := 157) dX11_text_140 (by decide) ?_
    refine J_icmp_ge (tgt := 176) dX11_text_143 (by decide) (fun c_1 => ?_) (fun c_1 => ?_)
    · refine J_iconst (v := 0) dX11_text_176 (by decide) ?_
      refine J_istore (i := 4) (lw := [(4, .int 0), (3, .int 0), (0, .ref 162), (1, .int 0), (2, .int (-1))]) dX11_text_177 (by decide) rfl ?_
      refine J_iload (i := 4) (j := 0) dX11_text_179 rfl ?_
      refine J_bipush (v := 37) dX11_text_181 (by decide) ?_
      refine J_icmp_ge (tgt := 216) dX11_text_183 (by decide) (fun q => absurd q (by decide)) (fun _ => ?_)
      refine J_iload_n (i := 1) (j := 3) dX11_text_186 rfl rfl ?_
      refine J_iconst (v := 1) dX11_text_187 (by decide) ?_
      refine J_icmp_ne (tgt := 216) dX11_text_188 (by decide) (fun _ => ?_) (fun q => absurd q (by decide))
      refine J_iload_n (i := 3) (j := 1) dX11_text_216 rfl rfl ?_
      exact J_iret hq dX11_text_217 rfl (hkz hl) (Nat.le_refl _) (Nat.le_refl _) rfl
    · exact absurd ((nI_leI (a := 157) (by omega) (by omega)).mpr (by omega)) c_1
  | succ m ih =>
    intro k w g hk hl ha hf
    refine J_iload (i := 4) (j := 0) dX11_text_138 rfl ?_
    refine J_sipush (v := 157) dX11_text_140 (by decide) ?_
    refine J_icmp_ge (tgt := 176) dX11_text_143 (by decide) (fun c_1 => ?_) (fun c_1 => ?_)
    · exact absurd ((nI_leI (a := 157) (by omega) (by omega)).mp c_1) (by omega)
    · refine J_iload_n (i := 1) (j := 3) dX11_text_146 rfl rfl ?_
      refine J_if_ne (tgt := 176) dX11_text_147 (by decide) (fun q => absurd (by decide) q) (fun _ => ?_)
      refine J_aload_n (i := 0) (j := 2) dX11_text_150 rfl rfl ?_
      refine J_get (C := RX11) (T := TX11) (Z := 43) (ci := 11) (f := 6) dX11_text_151 inG11 rfl (by decide) k1270 ((hf 162 (by decide)).trans hm) rfl ?_
      refine J_sipush (v := 157) dX11_text_154 (by decide) ?_
      refine J_iload_n (i := 3) (j := 1) dX11_text_157 rfl rfl ?_
      refine J_imul dX11_text_158 ?_
      refine J_ci (v := 0) (by decide) ?_
      refine J_iload (i := 4) (j := 0) dX11_text_159 rfl ?_
      refine J_iadd dX11_text_161 ?_
      refine J_ci (v := nI (0 + k)) (nI_add _ _) ?_
      refine J_aload_n (i := 0) (j := 2) dX11_text_162 rfl rfl ?_
      refine J_get (C := RX11) (T := TX11) (Z := 43) (ci := 11) (f := 19) dX11_text_163 inG11 rfl (by decide) k1283 ((hf 162 (by decide)).trans hm) rfl ?_
      refine J_iload (i := 4) (j := 0) dX11_text_166 rfl ?_
      refine J_iald dX11_text_168 ((hf 170 (by decide)).trans h10) (vp_in_nI (n := k) (by omega) (by omega)) ?_
      obtain ⟨h_2, e_3⟩ : ∃ z, z = w.set 168 (.inl (1, 1256, .inl (upd g ((nI (0 + k)).toNatClampNeg) (g10 (nI (k)).toNatClampNeg)))) := ⟨_, rfl⟩
      refine J_iast dX11_text_169 ha (vp_in_nI (n := 0 + k) (by omega) (by omega)) e_3.symm ?_
      have f_4 := a_set e_3 ha
      have l_5 := l_set e_3 hl
      refine J_iinc (i := 4) (j := 0) (v := nI (k + 1)) (lw := [(4, .int (nI (k + 1))), (3, .int 0), (0, .ref 162), (1, .int 0), (2, .int (-1))]) dX11_text_170 rfl (nI_add _ _) (by decide) rfl ?_
      refine J_goto (tgt := 138) dX11_text_173 (by decide) ?_
      exact ih (k + 1) _ _ (by omega) l_5 f_4 (fun j hj => ((s_ne e_3 hj)).trans (hf j hj))
set_option maxHeartbeats 4000000 in
theorem l_X11_text1 {x : JX} {d : Nat} {h : List MC} {g10 : Nat → Int32} (hq : JQ x con0 0 0 (fun r _ => r = some (.int 0))) (hm : h[162]? = some (.inr (11, [.int 0, .ref 163, .ref 164, .ref 165, .ref 166, .ref 167, .ref 168, .ref 169, .int 0, .int 0, .int 0, .int 0, .int 0, .long 0, .int 0, .int 0, .int 0, .int 0, .int 0, .ref 170, .ref 171, .ref 172, .int 0, .int 0, .int 0, .int 0, .int 0, .int 0, .ref 173, .ref 174, .ref 175, .int 0, .int 0, .int 0, .ref 176, .ref 177, .ref 178, .ref 179, .ref 180, .int 0, .long 0, .int 0, .ref 181]))) (h10 : h[170]? = some (.inl (1, 157, .inl g10))) : ∀ (m k : Nat) (w : List MC) (g : Nat → Int32), k + m = 37 → w.length = h.length → w[169]? = some (.inl (1, 444, .inl g)) → (∀ j, j ≠ 169 → w[j]? = h[j]?) → J x yX11_text cX11_text 5 (some .int) d 0 0 h.length 179 [(4, .int (nI k)), (3, .int 0), (0, .ref 162), (1, .int 1), (2, .int (-1))] [] w 0 0 := by
  intro m
  induction m with
  | zero =>
    intro k w g hk hl ha hf
    refine J_iload (i := 4) (j := 0) dX11_text_179 rfl ?_
    refine J_bipush (v := 37) dX11_text_181 (by decide) ?_
    refine J_icmp_ge (tgt := 216) dX11_text_183 (by decide) (fun c_1 => ?_) (fun c_1 => ?_)
    · refine J_iload_n (i := 3) (j := 1) dX11_text_216 rfl rfl ?_
      exact J_iret hq dX11_text_217 rfl (hkz hl) (Nat.le_refl _) (Nat.le_refl _) rfl
    · exact absurd ((nI_leI (a := 37) (by omega) (by omega)).mpr (by omega)) c_1
  | succ m ih =>
    intro k w g hk hl ha hf
    refine J_iload (i := 4) (j := 0) dX11_text_179 rfl ?_
    refine J_bipush (v := 37) dX11_text_181 (by decide) ?_
    refine J_icmp_ge (tgt := 216) dX11_text_183 (by decide) (fun c_1 => ?_) (fun c_1 => ?_)
    · exact absurd ((nI_leI (a := 37) (by omega) (by omega)).mp c_1) (by omega)
    · refine J_iload_n (i := 1) (j := 3) dX11_text_186 rfl rfl ?_
      refine J_iconst (v := 1) dX11_text_187 (by decide) ?_
      refine J_icmp_ne (tgt := 216) dX11_text_188 (by decide) (fun q => absurd (by decide) q) (fun _ => ?_)
      refine J_aload_n (i := 0) (j := 2) dX11_text_191 rfl rfl ?_
      refine J_get (C := RX11) (T := TX11) (Z := 43) (ci := 11) (f := 7) dX11_text_192 inG11 rfl (by decide) k1271 ((hf 162 (by decide)).trans hm) rfl ?_
      refine J_bipush (v := 37) dX11_text_195 (by decide) ?_
      refine J_iload_n (i := 3) (j := 1) dX11_text_197 rfl rfl ?_
      refine J_imul dX11_text_198 ?_
      refine J_ci (v := 0) (by decide) ?_
      refine J_iload (i := 4) (j := 0) dX11_text_199 rfl ?_
      refine J_iadd dX11_text_201 ?_
      refine J_ci (v := nI (0 + k)) (nI_add _ _) ?_
      refine J_aload_n (i := 0) (j := 2) dX11_text_202 rfl rfl ?_
      refine J_get (C := RX11) (T := TX11) (Z := 43) (ci := 11) (f := 19) dX11_text_203 inG11 rfl (by decide) k1283 ((hf 162 (by decide)).trans hm) rfl ?_
      refine J_iload (i := 4) (j := 0) dX11_text_206 rfl ?_
      refine J_iald dX11_text_208 ((hf 170 (by decide)).trans h10) (vp_in_nI (n := k) (by omega) (by omega)) ?_
      obtain ⟨h_2, e_3⟩ : ∃ z, z = w.set 169 (.inl (1, 444, .inl (upd g ((nI (0 + k)).toNatClampNeg) (g10 (nI (k)).toNatClampNeg)))) := ⟨_, rfl⟩
      refine J_iast dX11_text_209 ha (vp_in_nI (n := 0 + k) (by omega) (by omega)) e_3.symm ?_
      have f_4 := a_set e_3 ha
      have l_5 := l_set e_3 hl
      refine J_iinc (i := 4) (j := 0) (v := nI (k + 1)) (lw := [(4, .int (nI (k + 1))), (3, .int 0), (0, .ref 162), (1, .int 1), (2, .int (-1))]) dX11_text_210 rfl (nI_add _ _) (by decide) rfl ?_
      refine J_goto (tgt := 179) dX11_text_213 (by decide) ?_
      exact ih (k + 1) _ _ (by omega) l_5 f_4 (fun j hj => ((s_ne e_3 hj)).trans (hf j hj))
set_option maxHeartbeats 4000000 in
set_option maxRecDepth 100000 in
theorem c_X11_text0 {d : Nat} {h : List MC} {a0 a1 : Int32} (hd : 5 ≤ d) (hm : h[162]? = some (.inr (11, [.int 0, .ref 163, .ref 164, .ref 165, .ref 166, .ref 167, .ref 168, .ref 169, .int 0, .int 0, .int 0, .int 0, .int 0, .long 0, .int 0, .int 0, .int 0, .int 0, .int 0, .ref 170, .ref 171, .ref 172, .int 0, .int 0, .int 0, .int 0, .int 0, .int 0, .ref 173, .ref 174, .ref 175, .int 0, .int 0, .int 0, .ref 176, .ref 177, .ref 178, .ref 179, .ref 180, .int 0, .long 0, .int 0, .ref 181]))) (h3 : h[163]? = some (.inl (0, 2400, .inl (fun _ => 0)))) (h4 : h[164]? = some (.inl (1, 4, .inl (fun _ => 0)))) (h5 : h[165]? = some (.inl (1, 4, .inl (fun _ => 0)))) (h6 : h[166]? = some (.inl (1, 4, .inl (upd (fun _ => 0) ((0 : Int32).toNatClampNeg) (-1))))) (h7 : h[167]? = some (.inl (1, 8, .inl (fun _ => 0)))) (h8 : h[168]? = some (.inl (1, 1256, .inl (fun _ => 0)))) (h9 : h[169]? = some (.inl (1, 444, .inl (fun _ => 0)))) (h10 : h[170]? = some (.inl (1, 157, .inl (fun _ => 0))))  : CT con0 d 0 0 yX11_text cX11_text 5 (some .int) [.ref 162, .int a0, .int a1] h (fun r h2 => r = some (.int (TV a0 a1))) := by
  refine CT_of (by decide) (Nat.le_of_ble_eq_true rfl) (fun x hq => ?_)
  show J x yX11_text cX11_text 5 (some .int) d 0 0 h.length 0 [(0, .ref 162), (1, .int a0), (2, .int a1)] [] h 0 0
  by_cases cs0 : a0 = 0
  · subst cs0
    by_cases csa : a1 = -1
    · subst csa
      refine J_aload_n (i := 0) (j := 0) dX11_text_0 rfl rfl ?_
      refine J_iconst (v := 0) dX11_text_1 (by decide) ?_
      obtain ⟨h_1, e_2⟩ : ∃ z, z = h.set 162 (.inr (11, [.int 0, .ref 163, .ref 164, .ref 165, .ref 166, .ref 167, .ref 168, .ref 169, .int 0, .int 0, .int 0, .int 0, .int 0, .long 0, .int 0, .int 0, .int 0, .int 0, .int 0, .ref 170, .ref 171, .ref 172, .int 0, .int 0, .int 0, .int 0, .int 0, .int 0, .ref 173, .ref 174, .ref 175, .int 0, .int 0, .int 0, .ref 176, .ref 177, .ref 178, .ref 179, .ref 180, .int 0, .long 0, .int 0, .ref 181])) := ⟨_, rfl⟩
      refine J_put (C := RX11) (T := TX11) (Z := 43) (ci := 11) (f := 0) (ty0 := tyX11) dX11_text_2 inG11 rfl tyX11_ok nmX11 (by decide) k1264 rfl rfl hm (Nat.le_of_ble_eq_true rfl) (fun _ _ => ⟨rfl, rfl⟩) e_2.symm ?_
      have f_3 := a_set e_2 hm
      have l_4 := l_set e_2 rfl
      refine J_aload_n (i := 0) (j := 0) dX11_text_5 rfl rfl ?_
      refine J_aload_n (i := 0) (j := 0) dX11_text_6 rfl rfl ?_
      refine J_get (C := RX11) (T := TX11) (Z := 43) (ci := 11) (f := 2) dX11_text_7 inG11 rfl (by decide) k1266 f_3 rfl ?_
      refine J_iconst (v := 0) dX11_text_10 (by decide) ?_
      have f_5 : h_1[164]? = some (.inl (1, 4, .inl (fun _ => 0))) := (s_ne e_2 (by decide)).trans h4
      refine J_iald dX11_text_11 f_5 (vp_c (by decide)) ?_
      refine J_ci (v := 0) rfl ?_
      obtain ⟨h_6, e_7⟩ : ∃ z, z = h_1.set 162 (.inr (11, [.int 0, .ref 163, .ref 164, .ref 165, .ref 166, .ref 167, .ref 168, .ref 169, .int 0, .int 0, .int 0, .int 0, .int 0, .long 0, .int 0, .int 0, .int 0, .int 0, .int 0, .ref 170, .ref 171, .ref 172, .int 0, .int 0, .int 0, .int 0, .int 0, .int 0, .ref 173, .ref 174, .ref 175, .int 0, .int 0, .int 0, .ref 176, .ref 177, .ref 178, .ref 179, .ref 180, .int 0, .long 0, .int 0, .ref 181])) := ⟨_, rfl⟩
      refine J_put (C := RX11) (T := TX11) (Z := 43) (ci := 11) (f := 9) (ty0 := tyX11) dX11_text_12 inG11 rfl tyX11_ok nmX11 (by decide) k1273 rfl rfl f_3 (Nat.le_of_ble_eq_true rfl) (fun _ _ => ⟨rfl, rfl⟩) e_7.symm ?_
      have f_8 := a_set e_7 f_3
      have l_9 := l_set e_7 l_4
      refine J_aload_n (i := 0) (j := 0) dX11_text_15 rfl rfl ?_
      refine J_get (C := RX11) (T := TX11) (Z := 43) (ci := 11) (f := 2) dX11_text_16 inG11 rfl (by decide) k1266 f_8 rfl ?_
      refine J_iconst (v := 0) dX11_text_19 (by decide) ?_
      refine J_iconst (v := 0) dX11_text_20 (by decide) ?_
      have f_10 : h_6[164]? = some (.inl (1, 4, .inl (fun _ => 0))) := (s_ne e_7 (by decide)).trans f_5
      obtain ⟨h_11, e_12⟩ : ∃ z, z = h_6.set 164 (.inl (1, 4, .inl (upd (fun _ => 0) ((0 : Int32).toNatClampNeg) 0))) := ⟨_, rfl⟩
      refine J_iast dX11_text_21 f_10 (vp_c (by decide)) e_12.symm ?_
      have f_13 := a_set e_12 f_10
      have l_14 := l_set e_12 l_9
      refine J_aload_n (i := 0) (j := 0) dX11_text_22 rfl rfl ?_
      have f_15 : h_11[162]? = some (.inr (11, [.int 0, .ref 163, .ref 164, .ref 165, .ref 166, .ref 167, .ref 168, .ref 169, .int 0, .int 0, .int 0, .int 0, .int 0, .long 0, .int 0, .int 0, .int 0, .int 0, .int 0, .ref 170, .ref 171, .ref 172, .int 0, .int 0, .int 0, .int 0, .int 0, .int 0, .ref 173, .ref 174, .ref 175, .int 0, .int 0, .int 0, .ref 176, .ref 177, .ref 178, .ref 179, .ref 180, .int 0, .long 0, .int 0, .ref 181])) := (s_ne e_12 (by decide)).trans f_8
      refine J_get (C := RX11) (T := TX11) (Z := 43) (ci := 11) (f := 3) dX11_text_23 inG11 rfl (by decide) k1267 f_15 rfl ?_
      refine J_iconst (v := 0) dX11_text_26 (by decide) ?_
      refine J_iconst (v := 0) dX11_text_27 (by decide) ?_
      have f_16 : h_1[165]? = some (.inl (1, 4, .inl (fun _ => 0))) := (s_ne e_2 (by decide)).trans h5
      have f_17 : h_6[165]? = some (.inl (1, 4, .inl (fun _ => 0))) := (s_ne e_7 (by decide)).trans f_16
      have f_18 : h_11[165]? = some (.inl (1, 4, .inl (fun _ => 0))) := (s_ne e_12 (by decide)).trans f_17
      obtain ⟨h_19, e_20⟩ : ∃ z, z = h_11.set 165 (.inl (1, 4, .inl (upd (fun _ => 0) ((0 : Int32).toNatClampNeg) 0))) := ⟨_, rfl⟩
      refine J_iast dX11_text_28 f_18 (vp_c (by decide)) e_20.symm ?_
      have f_21 := a_set e_20 f_18
      have l_22 := l_set e_20 l_14
      refine J_aload_n (i := 0) (j := 0) dX11_text_29 rfl rfl ?_
      have f_23 : h_19[162]? = some (.inr (11, [.int 0, .ref 163, .ref 164, .ref 165, .ref 166, .ref 167, .ref 168, .ref 169, .int 0, .int 0, .int 0, .int 0, .int 0, .long 0, .int 0, .int 0, .int 0, .int 0, .int 0, .ref 170, .ref 171, .ref 172, .int 0, .int 0, .int 0, .int 0, .int 0, .int 0, .ref 173, .ref 174, .ref 175, .int 0, .int 0, .int 0, .ref 176, .ref 177, .ref 178, .ref 179, .ref 180, .int 0, .long 0, .int 0, .ref 181])) := (s_ne e_20 (by decide)).trans f_15
      refine J_get (C := RX11) (T := TX11) (Z := 43) (ci := 11) (f := 4) dX11_text_30 inG11 rfl (by decide) k1268 f_23 rfl ?_
      refine J_iconst (v := 0) dX11_text_33 (by decide) ?_
      refine J_iconst (v := (-1)) dX11_text_34 (by decide) ?_
      have f_24 : h_1[166]? = some (.inl (1, 4, .inl (upd (fun _ => 0) ((0 : Int32).toNatClampNeg) (-1)))) := (s_ne e_2 (by decide)).trans h6
      have f_25 : h_6[166]? = some (.inl (1, 4, .inl (upd (fun _ => 0) ((0 : Int32).toNatClampNeg) (-1)))) := (s_ne e_7 (by decide)).trans f_24
      have f_26 : h_11[166]? = some (.inl (1, 4, .inl (upd (fun _ => 0) ((0 : Int32).toNatClampNeg) (-1)))) := (s_ne e_12 (by decide)).trans f_25
      have f_27 : h_19[166]? = some (.inl (1, 4, .inl (upd (fun _ => 0) ((0 : Int32).toNatClampNeg) (-1)))) := (s_ne e_20 (by decide)).trans f_26
      obtain ⟨h_28, e_29⟩ : ∃ z, z = h_19.set 166 (.inl (1, 4, .inl (upd (upd (fun _ => 0) ((0 : Int32).toNatClampNeg) (-1)) ((0 : Int32).toNatClampNeg) (-1)))) := ⟨_, rfl⟩
      refine J_iast dX11_text_35 f_27 (vp_c (by decide)) e_29.symm ?_
      have f_30 := a_set e_29 f_27
      have l_31 := l_set e_29 l_22
      refine J_iload_n (i := 1) (j := 1) dX11_text_36 rfl rfl ?_
      refine J_iconst (v := 0) dX11_text_37 (by decide) ?_
      refine J_iconst (v := 1) dX11_text_38 (by decide) ?_
      refine J_callS (As := [.int 0, .int 0, .int 1]) (rest := []) dX11_text_39 (c_X11_in (d := 0) (h := h_28) (v := 0) (lo := 0) (hi := 1) (by decide)) hq.n k1406 k1407 k97 k1408 np_X11_in (Nat.le_trans (by decide) hd) (by decide) (Nat.le_refl _) (Nat.le_refl _) (hkz l_31) rfl (Nat.le_of_ble_eq_true rfl) (fun r_32 h_33 p_34 => ?_)
      obtain ⟨rfl, w_35⟩ := p_34
      refine J_w w_35 ?_
      refine J_ci (v := 1) (by decide) ?_
      refine J_if_eq (tgt := 87) dX11_text_42 (by decide) (fun q => absurd q (by decide)) (fun _ => ?_)
      refine J_iload_n (i := 2) (j := 2) dX11_text_45 rfl rfl ?_
      refine J_iconst (v := (-1)) dX11_text_46 (by decide) ?_
      refine J_icmp_ne (tgt := 71) dX11_text_47 (by decide) (fun q => absurd (by decide) q) (fun _ => ?_)
      refine J_aload_n (i := 0) (j := 0) dX11_text_50 rfl rfl ?_
      have f_36 : h_28[162]? = some (.inr (11, [.int 0, .ref 163, .ref 164, .ref 165, .ref 166, .ref 167, .ref 168, .ref 169, .int 0, .int 0, .int 0, .int 0, .int 0, .long 0, .int 0, .int 0, .int 0, .int 0, .int 0, .ref 170, .ref 171, .ref 172, .int 0, .int 0, .int 0, .int 0, .int 0, .int 0, .ref 173, .ref 174, .ref 175, .int 0, .int 0, .int 0, .ref 176, .ref 177, .ref 178, .ref 179, .ref 180, .int 0, .long 0, .int 0, .ref 181])) := (s_ne e_29 (by decide)).trans f_23
      refine J_get (C := RX11) (T := TX11) (Z := 43) (ci := 11) (f := 5) dX11_text_51 inG11 rfl (by decide) k1269 f_36 rfl ?_
      refine J_iload_n (i := 1) (j := 1) dX11_text_54 rfl rfl ?_
      have f_37 : h_1[167]? = some (.inl (1, 8, .inl (fun _ => 0))) := (s_ne e_2 (by decide)).trans h7
      have f_38 : h_6[167]? = some (.inl (1, 8, .inl (fun _ => 0))) := (s_ne e_7 (by decide)).trans f_37
      have f_39 : h_11[167]? = some (.inl (1, 8, .inl (fun _ => 0))) := (s_ne e_12 (by decide)).trans f_38
      have f_40 : h_19[167]? = some (.inl (1, 8, .inl (fun _ => 0))) := (s_ne e_20 (by decide)).trans f_39
      have f_41 : h_28[167]? = some (.inl (1, 8, .inl (fun _ => 0))) := (s_ne e_29 (by decide)).trans f_40
      refine J_iald dX11_text_55 f_41 (vp_c (by decide)) ?_
      refine J_ci (v := 0) rfl ?_
      refine J_iload_n (i := 1) (j := 1) dX11_text_56 rfl rfl ?_
      refine J_if_ne (tgt := 64) dX11_text_57 (by decide) (fun q => absurd (by decide) q) (fun _ => ?_)
      refine J_iconst (v := 2) dX11_text_60 (by decide) ?_
      refine J_goto (tgt := 65) dX11_text_61 (by decide) ?_
      refine J_icmp_ne (tgt := 90) dX11_text_65 (by decide) (fun _ => ?_) (fun q => absurd q (by decide))
      refine J_aload_n (i := 0) (j := 0) dX11_text_90 rfl rfl ?_
      refine J_iload_n (i := 1) (j := 1) dX11_text_91 rfl rfl ?_
      have f_42 : h_28[165]? = some (.inl (1, 4, .inl (upd (fun _ => 0) ((0 : Int32).toNatClampNeg) 0))) := (s_ne e_29 (by decide)).trans f_21
      have f_43 : h_1[170]? = some (.inl (1, 157, .inl (fun _ => 0))) := (s_ne e_2 (by decide)).trans h10
      have f_44 : h_6[170]? = some (.inl (1, 157, .inl (fun _ => 0))) := (s_ne e_7 (by decide)).trans f_43
      have f_45 : h_11[170]? = some (.inl (1, 157, .inl (fun _ => 0))) := (s_ne e_12 (by decide)).trans f_44
      have f_46 : h_19[170]? = some (.inl (1, 157, .inl (fun _ => 0))) := (s_ne e_20 (by decide)).trans f_45
      have f_47 : h_28[170]? = some (.inl (1, 157, .inl (fun _ => 0))) := (s_ne e_29 (by decide)).trans f_46
      refine J_callV (As := [.int 0]) (rest := []) dX11_text_92 (c_X11_readText0 (d := 4) (h := h_28) (by decide) f_36 f_42 f_30 f_47) hq.n k1413 k1415 k37 f_36 rfl rfl k97 k1416 np_X11_readText (Nat.le_trans (by decide) hd) (by decide) (Nat.le_refl _) (Nat.le_refl _) (hkz l_31) rfl (Nat.le_of_ble_eq_true rfl) (fun r_48 h_49 p_50 => ?_)
      obtain ⟨rfl, l_51, f_52, ⟨g_53, f_54⟩, r_55⟩ := p_50
      have l_56 := l_51.trans l_31
      refine J_if_ne (tgt := 100) dX11_text_95 (by decide) (fun _ => ?_) (fun q => absurd q (by decide))
      refine J_iload_n (i := 2) (j := 2) dX11_text_100 rfl rfl ?_
      refine J_iconst (v := (-1)) dX11_text_101 (by decide) ?_
      refine J_icmp_ne (tgt := 114) dX11_text_102 (by decide) (fun q => absurd (by decide) q) (fun _ => ?_)
      refine J_aload_n (i := 0) (j := 0) dX11_text_105 rfl rfl ?_
      refine J_get (C := RX11) (T := TX11) (Z := 43) (ci := 11) (f := 5) dX11_text_106 inG11 rfl (by decide) k1269 f_52 rfl ?_
      refine J_iload_n (i := 1) (j := 1) dX11_text_109 rfl rfl ?_
      have f_57 : h_49[167]? = some (.inl (1, 8, .inl (fun _ => 0))) := (r_55 167 (by decide) (by decide) (by decide) (by decide)).trans f_41
      refine J_iald dX11_text_110 f_57 (vp_c (by decide)) ?_
      refine J_ci (v := 0) rfl ?_
      refine J_goto (tgt := 115) dX11_text_111 (by decide) ?_
      refine J_istore_n (i := 3) (lw := [(3, .int 0), (0, .ref 162), (1, .int 0), (2, .int (-1))]) dX11_text_115 rfl (by decide) rfl ?_
      refine J_aload_n (i := 0) (j := 1) dX11_text_116 rfl rfl ?_
      refine J_get (C := RX11) (T := TX11) (Z := 43) (ci := 11) (f := 5) dX11_text_117 inG11 rfl (by decide) k1269 f_52 rfl ?_
      refine J_iload_n (i := 1) (j := 2) dX11_text_120 rfl rfl ?_
      refine J_dup2_11 dX11_text_121 rfl rfl ?_
      refine J_iald dX11_text_122 f_57 (vp_c (by decide)) ?_
      refine J_ci (v := 0) rfl ?_
      refine J_iload_n (i := 2) (j := 3) dX11_text_123 rfl rfl ?_
      refine J_iconst (v := (-1)) dX11_text_124 (by decide) ?_
      refine J_icmp_ne (tgt := 132) dX11_text_125 (by decide) (fun q => absurd (by decide) q) (fun _ => ?_)
      refine J_iconst (v := 1) dX11_text_128 (by decide) ?_
      refine J_goto (tgt := 133) dX11_text_129 (by decide) ?_
      refine J_iadd dX11_text_133 ?_
      refine J_ci (v := 1) (by decide) ?_
      obtain ⟨h_58, e_59⟩ : ∃ z, z = h_49.set 167 (.inl (1, 8, .inl (upd (fun _ => 0) ((0 : Int32).toNatClampNeg) 1))) := ⟨_, rfl⟩
      refine J_iast dX11_text_134 f_57 (vp_c (by decide)) e_59.symm ?_
      have f_60 := a_set e_59 f_57
      have l_61 := l_set e_59 l_56
      refine J_iconst (v := 0) dX11_text_135 (by decide) ?_
      refine J_istore (i := 4) (lw := [(4, .int 0), (3, .int 0), (0, .ref 162), (1, .int 0), (2, .int (-1))]) dX11_text_136 (by decide) rfl ?_
      have f_62 : h_1[168]? = some (.inl (1, 1256, .inl (fun _ => 0))) := (s_ne e_2 (by decide)).trans h8
      have f_63 : h_6[168]? = some (.inl (1, 1256, .inl (fun _ => 0))) := (s_ne e_7 (by decide)).trans f_62
      have f_64 : h_11[168]? = some (.inl (1, 1256, .inl (fun _ => 0))) := (s_ne e_12 (by decide)).trans f_63
      have f_65 : h_19[168]? = some (.inl (1, 1256, .inl (fun _ => 0))) := (s_ne e_20 (by decide)).trans f_64
      have f_66 : h_28[168]? = some (.inl (1, 1256, .inl (fun _ => 0))) := (s_ne e_29 (by decide)).trans f_65
      have f_67 : h_49[168]? = some (.inl (1, 1256, .inl (fun _ => 0))) := (r_55 168 (by decide) (by decide) (by decide) (by decide)).trans f_66
      have f_68 : h_58[168]? = some (.inl (1, 1256, .inl (fun _ => 0))) := (s_ne e_59 (by decide)).trans f_67
      have f_69 : h_58[162]? = some (.inr (11, [.int 0, .ref 163, .ref 164, .ref 165, .ref 166, .ref 167, .ref 168, .ref 169, .int 0, .int 0, .int 0, .int 0, .int 0, .long 0, .int 0, .int 0, .int 0, .int 0, .int 0, .ref 170, .ref 171, .ref 172, .int 0, .int 0, .int 0, .int 0, .int 0, .int 0, .ref 173, .ref 174, .ref 175, .int 0, .int 0, .int 0, .ref 176, .ref 177, .ref 178, .ref 179, .ref 180, .int 0, .long 0, .int 0, .ref 181])) := (s_ne e_59 (by decide)).trans f_52
      have f_70 : h_58[170]? = some (.inl (1, 157, .inl g_53)) := (s_ne e_59 (by decide)).trans f_54
      have hq0 : JQ x con0 0 0 (fun r _ => r = some (.int 0)) := hq
      rw [show h.length = h_58.length from l_61.symm]
      exact l_X11_text0 hq0 f_69 f_70 157 0 h_58 _ (by omega) rfl f_68 (fun _ _ => rfl)
    · refine J_aload_n (i := 0) (j := 0) dX11_text_0 rfl rfl ?_
      refine J_iconst (v := 0) dX11_text_1 (by decide) ?_
      obtain ⟨h_71, e_72⟩ : ∃ z, z = h.set 162 (.inr (11, [.int 0, .ref 163, .ref 164, .ref 165, .ref 166, .ref 167, .ref 168, .ref 169, .int 0, .int 0, .int 0, .int 0, .int 0, .long 0, .int 0, .int 0, .int 0, .int 0, .int 0, .ref 170, .ref 171, .ref 172, .int 0, .int 0, .int 0, .int 0, .int 0, .int 0, .ref 173, .ref 174, .ref 175, .int 0, .int 0, .int 0, .ref 176, .ref 177, .ref 178, .ref 179, .ref 180, .int 0, .long 0, .int 0, .ref 181])) := ⟨_, rfl⟩
      refine J_put (C := RX11) (T := TX11) (Z := 43) (ci := 11) (f := 0) (ty0 := tyX11) dX11_text_2 inG11 rfl tyX11_ok nmX11 (by decide) k1264 rfl rfl hm (Nat.le_of_ble_eq_true rfl) (fun _ _ => ⟨rfl, rfl⟩) e_72.symm ?_
      have f_73 := a_set e_72 hm
      have l_74 := l_set e_72 rfl
      refine J_aload_n (i := 0) (j := 0) dX11_text_5 rfl rfl ?_
      refine J_aload_n (i := 0) (j := 0) dX11_text_6 rfl rfl ?_
      refine J_get (C := RX11) (T := TX11) (Z := 43) (ci := 11) (f := 2) dX11_text_7 inG11 rfl (by decide) k1266 f_73 rfl ?_
      refine J_iconst (v := 0) dX11_text_10 (by decide) ?_
      have f_75 : h_71[164]? = some (.inl (1, 4, .inl (fun _ => 0))) := (s_ne e_72 (by decide)).trans h4
      refine J_iald dX11_text_11 f_75 (vp_c (by decide)) ?_
      refine J_ci (v := 0) rfl ?_
      obtain ⟨h_76, e_77⟩ : ∃ z, z = h_71.set 162 (.inr (11, [.int 0, .ref 163, .ref 164, .ref 165, .ref 166, .ref 167, .ref 168, .ref 169, .int 0, .int 0, .int 0, .int 0, .int 0, .long 0, .int 0, .int 0, .int 0, .int 0, .int 0, .ref 170, .ref 171, .ref 172, .int 0, .int 0, .int 0, .int 0, .int 0, .int 0, .ref 173, .ref 174, .ref 175, .int 0, .int 0, .int 0, .ref 176, .ref 177, .ref 178, .ref 179, .ref 180, .int 0, .long 0, .int 0, .ref 181])) := ⟨_, rfl⟩
      refine J_put (C := RX11) (T := TX11) (Z := 43) (ci := 11) (f := 9) (ty0 := tyX11) dX11_text_12 inG11 rfl tyX11_ok nmX11 (by decide) k1273 rfl rfl f_73 (Nat.le_of_ble_eq_true rfl) (fun _ _ => ⟨rfl, rfl⟩) e_77.symm ?_
      have f_78 := a_set e_77 f_73
      have l_79 := l_set e_77 l_74
      refine J_aload_n (i := 0) (j := 0) dX11_text_15 rfl rfl ?_
      refine J_get (C := RX11) (T := TX11) (Z := 43) (ci := 11) (f := 2) dX11_text_16 inG11 rfl (by decide) k1266 f_78 rfl ?_
      refine J_iconst (v := 0) dX11_text_19 (by decide) ?_
      refine J_iconst (v := 0) dX11_text_20 (by decide) ?_
      have f_80 : h_76[164]? = some (.inl (1, 4, .inl (fun _ => 0))) := (s_ne e_77 (by decide)).trans f_75
      obtain ⟨h_81, e_82⟩ : ∃ z, z = h_76.set 164 (.inl (1, 4, .inl (upd (fun _ => 0) ((0 : Int32).toNatClampNeg) 0))) := ⟨_, rfl⟩
      refine J_iast dX11_text_21 f_80 (vp_c (by decide)) e_82.symm ?_
      have f_83 := a_set e_82 f_80
      have l_84 := l_set e_82 l_79
      refine J_aload_n (i := 0) (j := 0) dX11_text_22 rfl rfl ?_
      have f_85 : h_81[162]? = some (.inr (11, [.int 0, .ref 163, .ref 164, .ref 165, .ref 166, .ref 167, .ref 168, .ref 169, .int 0, .int 0, .int 0, .int 0, .int 0, .long 0, .int 0, .int 0, .int 0, .int 0, .int 0, .ref 170, .ref 171, .ref 172, .int 0, .int 0, .int 0, .int 0, .int 0, .int 0, .ref 173, .ref 174, .ref 175, .int 0, .int 0, .int 0, .ref 176, .ref 177, .ref 178, .ref 179, .ref 180, .int 0, .long 0, .int 0, .ref 181])) := (s_ne e_82 (by decide)).trans f_78
      refine J_get (C := RX11) (T := TX11) (Z := 43) (ci := 11) (f := 3) dX11_text_23 inG11 rfl (by decide) k1267 f_85 rfl ?_
      refine J_iconst (v := 0) dX11_text_26 (by decide) ?_
      refine J_iconst (v := 0) dX11_text_27 (by decide) ?_
      have f_86 : h_71[165]? = some (.inl (1, 4, .inl (fun _ => 0))) := (s_ne e_72 (by decide)).trans h5
      have f_87 : h_76[165]? = some (.inl (1, 4, .inl (fun _ => 0))) := (s_ne e_77 (by decide)).trans f_86
      have f_88 : h_81[165]? = some (.inl (1, 4, .inl (fun _ => 0))) := (s_ne e_82 (by decide)).trans f_87
      obtain ⟨h_89, e_90⟩ : ∃ z, z = h_81.set 165 (.inl (1, 4, .inl (upd (fun _ => 0) ((0 : Int32).toNatClampNeg) 0))) := ⟨_, rfl⟩
      refine J_iast dX11_text_28 f_88 (vp_c (by decide)) e_90.symm ?_
      have f_91 := a_set e_90 f_88
      have l_92 := l_set e_90 l_84
      refine J_aload_n (i := 0) (j := 0) dX11_text_29 rfl rfl ?_
      have f_93 : h_89[162]? = some (.inr (11, [.int 0, .ref 163, .ref 164, .ref 165, .ref 166, .ref 167, .ref 168, .ref 169, .int 0, .int 0, .int 0, .int 0, .int 0, .long 0, .int 0, .int 0, .int 0, .int 0, .int 0, .ref 170, .ref 171, .ref 172, .int 0, .int 0, .int 0, .int 0, .int 0, .int 0, .ref 173, .ref 174, .ref 175, .int 0, .int 0, .int 0, .ref 176, .ref 177, .ref 178, .ref 179, .ref 180, .int 0, .long 0, .int 0, .ref 181])) := (s_ne e_90 (by decide)).trans f_85
      refine J_get (C := RX11) (T := TX11) (Z := 43) (ci := 11) (f := 4) dX11_text_30 inG11 rfl (by decide) k1268 f_93 rfl ?_
      refine J_iconst (v := 0) dX11_text_33 (by decide) ?_
      refine J_iconst (v := (-1)) dX11_text_34 (by decide) ?_
      have f_94 : h_71[166]? = some (.inl (1, 4, .inl (upd (fun _ => 0) ((0 : Int32).toNatClampNeg) (-1)))) := (s_ne e_72 (by decide)).trans h6
      have f_95 : h_76[166]? = some (.inl (1, 4, .inl (upd (fun _ => 0) ((0 : Int32).toNatClampNeg) (-1)))) := (s_ne e_77 (by decide)).trans f_94
      have f_96 : h_81[166]? = some (.inl (1, 4, .inl (upd (fun _ => 0) ((0 : Int32).toNatClampNeg) (-1)))) := (s_ne e_82 (by decide)).trans f_95
      have f_97 : h_89[166]? = some (.inl (1, 4, .inl (upd (fun _ => 0) ((0 : Int32).toNatClampNeg) (-1)))) := (s_ne e_90 (by decide)).trans f_96
      obtain ⟨h_98, e_99⟩ : ∃ z, z = h_89.set 166 (.inl (1, 4, .inl (upd (upd (fun _ => 0) ((0 : Int32).toNatClampNeg) (-1)) ((0 : Int32).toNatClampNeg) (-1)))) := ⟨_, rfl⟩
      refine J_iast dX11_text_35 f_97 (vp_c (by decide)) e_99.symm ?_
      have f_100 := a_set e_99 f_97
      have l_101 := l_set e_99 l_92
      refine J_iload_n (i := 1) (j := 1) dX11_text_36 rfl rfl ?_
      refine J_iconst (v := 0) dX11_text_37 (by decide) ?_
      refine J_iconst (v := 1) dX11_text_38 (by decide) ?_
      refine J_callS (As := [.int 0, .int 0, .int 1]) (rest := []) dX11_text_39 (c_X11_in (d := 0) (h := h_98) (v := 0) (lo := 0) (hi := 1) (by decide)) hq.n k1406 k1407 k97 k1408 np_X11_in (Nat.le_trans (by decide) hd) (by decide) (Nat.le_refl _) (Nat.le_refl _) (hkz l_101) rfl (Nat.le_of_ble_eq_true rfl) (fun r_102 h_103 p_104 => ?_)
      obtain ⟨rfl, w_105⟩ := p_104
      refine J_w w_105 ?_
      refine J_ci (v := 1) (by decide) ?_
      refine J_if_eq (tgt := 87) dX11_text_42 (by decide) (fun q => absurd q (by decide)) (fun _ => ?_)
      refine J_iload_n (i := 2) (j := 2) dX11_text_45 rfl rfl ?_
      refine J_iconst (v := (-1)) dX11_text_46 (by decide) ?_
      refine J_icmp_ne (tgt := 71) dX11_text_47 (by decide) (fun c_106 => ?_) (fun c_106 => ?_)
      · refine J_iload_n (i := 2) (j := 2) dX11_text_71 rfl rfl ?_
        refine J_iconst (v := 0) dX11_text_72 (by decide) ?_
        refine J_aload_n (i := 0) (j := 0) dX11_text_73 rfl rfl ?_
        have f_107 : h_98[162]? = some (.inr (11, [.int 0, .ref 163, .ref 164, .ref 165, .ref 166, .ref 167, .ref 168, .ref 169, .int 0, .int 0, .int 0, .int 0, .int 0, .long 0, .int 0, .int 0, .int 0, .int 0, .int 0, .ref 170, .ref 171, .ref 172, .int 0, .int 0, .int 0, .int 0, .int 0, .int 0, .ref 173, .ref 174, .ref 175, .int 0, .int 0, .int 0, .ref 176, .ref 177, .ref 178, .ref 179, .ref 180, .int 0, .long 0, .int 0, .ref 181])) := (s_ne e_99 (by decide)).trans f_93
        refine J_get (C := RX11) (T := TX11) (Z := 43) (ci := 11) (f := 5) dX11_text_74 inG11 rfl (by decide) k1269 f_107 rfl ?_
        refine J_iload_n (i := 1) (j := 1) dX11_text_77 rfl rfl ?_
        have f_108 : h_71[167]? = some (.inl (1, 8, .inl (fun _ => 0))) := (s_ne e_72 (by decide)).trans h7
        have f_109 : h_76[167]? = some (.inl (1, 8, .inl (fun _ => 0))) := (s_ne e_77 (by decide)).trans f_108
        have f_110 : h_81[167]? = some (.inl (1, 8, .inl (fun _ => 0))) := (s_ne e_82 (by decide)).trans f_109
        have f_111 : h_89[167]? = some (.inl (1, 8, .inl (fun _ => 0))) := (s_ne e_90 (by decide)).trans f_110
        have f_112 : h_98[167]? = some (.inl (1, 8, .inl (fun _ => 0))) := (s_ne e_99 (by decide)).trans f_111
        refine J_iald dX11_text_78 f_112 (vp_c (by decide)) ?_
        refine J_ci (v := 0) rfl ?_
        refine J_iconst (v := 1) dX11_text_79 (by decide) ?_
        refine J_isub dX11_text_80 ?_
        refine J_ci (v := (-1)) (by decide) ?_
        refine J_callS (As := [.int a1, .int 0, .int (-1)]) (rest := []) dX11_text_81 (c_X11_in (d := 0) (h := h_98) (v := a1) (lo := 0) (hi := (-1)) (by decide)) hq.n k1406 k1407 k97 k1408 np_X11_in (Nat.le_trans (by decide) hd) (by decide) (Nat.le_refl _) (Nat.le_refl _) (hkz l_101) rfl (Nat.le_of_ble_eq_true rfl) (fun r_113 h_114 p_115 => ?_)
        obtain ⟨rfl, w_116⟩ := p_115
        refine J_w w_116 ?_
        refine J_ci (v := 0) (by rw [nb1]; rfl) ?_
        refine J_if_ne (tgt := 90) dX11_text_84 (by decide) (fun q => absurd (by decide) q) (fun _ => ?_)
        refine J_bipush (v := (-2)) dX11_text_87 (by decide) ?_
        exact J_iret hq dX11_text_89 rfl (hkz l_101) (Nat.le_refl _) (Nat.le_refl _) (by rw [tv1 csa])
      · exact absurd c_106 csa
  · by_cases cs1 : a0 = 1
    · subst cs1
      by_cases csa : a1 = -1
      · subst csa
        refine J_aload_n (i := 0) (j := 0) dX11_text_0 rfl rfl ?_
        refine J_iconst (v := 0) dX11_text_1 (by decide) ?_
        obtain ⟨h_117, e_118⟩ : ∃ z, z = h.set 162 (.inr (11, [.int 0, .ref 163, .ref 164, .ref 165, .ref 166, .ref 167, .ref 168, .ref 169, .int 0, .int 0, .int 0, .int 0, .int 0, .long 0, .int 0, .int 0, .int 0, .int 0, .int 0, .ref 170, .ref 171, .ref 172, .int 0, .int 0, .int 0, .int 0, .int 0, .int 0, .ref 173, .ref 174, .ref 175, .int 0, .int 0, .int 0, .ref 176, .ref 177, .ref 178, .ref 179, .ref 180, .int 0, .long 0, .int 0, .ref 181])) := ⟨_, rfl⟩
        refine J_put (C := RX11) (T := TX11) (Z := 43) (ci := 11) (f := 0) (ty0 := tyX11) dX11_text_2 inG11 rfl tyX11_ok nmX11 (by decide) k1264 rfl rfl hm (Nat.le_of_ble_eq_true rfl) (fun _ _ => ⟨rfl, rfl⟩) e_118.symm ?_
        have f_119 := a_set e_118 hm
        have l_120 := l_set e_118 rfl
        refine J_aload_n (i := 0) (j := 0) dX11_text_5 rfl rfl ?_
        refine J_aload_n (i := 0) (j := 0) dX11_text_6 rfl rfl ?_
        refine J_get (C := RX11) (T := TX11) (Z := 43) (ci := 11) (f := 2) dX11_text_7 inG11 rfl (by decide) k1266 f_119 rfl ?_
        refine J_iconst (v := 0) dX11_text_10 (by decide) ?_
        have f_121 : h_117[164]? = some (.inl (1, 4, .inl (fun _ => 0))) := (s_ne e_118 (by decide)).trans h4
        refine J_iald dX11_text_11 f_121 (vp_c (by decide)) ?_
        refine J_ci (v := 0) rfl ?_
        obtain ⟨h_122, e_123⟩ : ∃ z, z = h_117.set 162 (.inr (11, [.int 0, .ref 163, .ref 164, .ref 165, .ref 166, .ref 167, .ref 168, .ref 169, .int 0, .int 0, .int 0, .int 0, .int 0, .long 0, .int 0, .int 0, .int 0, .int 0, .int 0, .ref 170, .ref 171, .ref 172, .int 0, .int 0, .int 0, .int 0, .int 0, .int 0, .ref 173, .ref 174, .ref 175, .int 0, .int 0, .int 0, .ref 176, .ref 177, .ref 178, .ref 179, .ref 180, .int 0, .long 0, .int 0, .ref 181])) := ⟨_, rfl⟩
        refine J_put (C := RX11) (T := TX11) (Z := 43) (ci := 11) (f := 9) (ty0 := tyX11) dX11_text_12 inG11 rfl tyX11_ok nmX11 (by decide) k1273 rfl rfl f_119 (Nat.le_of_ble_eq_true rfl) (fun _ _ => ⟨rfl, rfl⟩) e_123.symm ?_
        have f_124 := a_set e_123 f_119
        have l_125 := l_set e_123 l_120
        refine J_aload_n (i := 0) (j := 0) dX11_text_15 rfl rfl ?_
        refine J_get (C := RX11) (T := TX11) (Z := 43) (ci := 11) (f := 2) dX11_text_16 inG11 rfl (by decide) k1266 f_124 rfl ?_
        refine J_iconst (v := 0) dX11_text_19 (by decide) ?_
        refine J_iconst (v := 0) dX11_text_20 (by decide) ?_
        have f_126 : h_122[164]? = some (.inl (1, 4, .inl (fun _ => 0))) := (s_ne e_123 (by decide)).trans f_121
        obtain ⟨h_127, e_128⟩ : ∃ z, z = h_122.set 164 (.inl (1, 4, .inl (upd (fun _ => 0) ((0 : Int32).toNatClampNeg) 0))) := ⟨_, rfl⟩
        refine J_iast dX11_text_21 f_126 (vp_c (by decide)) e_128.symm ?_
        have f_129 := a_set e_128 f_126
        have l_130 := l_set e_128 l_125
        refine J_aload_n (i := 0) (j := 0) dX11_text_22 rfl rfl ?_
        have f_131 : h_127[162]? = some (.inr (11, [.int 0, .ref 163, .ref 164, .ref 165, .ref 166, .ref 167, .ref 168, .ref 169, .int 0, .int 0, .int 0, .int 0, .int 0, .long 0, .int 0, .int 0, .int 0, .int 0, .int 0, .ref 170, .ref 171, .ref 172, .int 0, .int 0, .int 0, .int 0, .int 0, .int 0, .ref 173, .ref 174, .ref 175, .int 0, .int 0, .int 0, .ref 176, .ref 177, .ref 178, .ref 179, .ref 180, .int 0, .long 0, .int 0, .ref 181])) := (s_ne e_128 (by decide)).trans f_124
        refine J_get (C := RX11) (T := TX11) (Z := 43) (ci := 11) (f := 3) dX11_text_23 inG11 rfl (by decide) k1267 f_131 rfl ?_
        refine J_iconst (v := 0) dX11_text_26 (by decide) ?_
        refine J_iconst (v := 0) dX11_text_27 (by decide) ?_
        have f_132 : h_117[165]? = some (.inl (1, 4, .inl (fun _ => 0))) := (s_ne e_118 (by decide)).trans h5
        have f_133 : h_122[165]? = some (.inl (1, 4, .inl (fun _ => 0))) := (s_ne e_123 (by decide)).trans f_132
        have f_134 : h_127[165]? = some (.inl (1, 4, .inl (fun _ => 0))) := (s_ne e_128 (by decide)).trans f_133
        obtain ⟨h_135, e_136⟩ : ∃ z, z = h_127.set 165 (.inl (1, 4, .inl (upd (fun _ => 0) ((0 : Int32).toNatClampNeg) 0))) := ⟨_, rfl⟩
        refine J_iast dX11_text_28 f_134 (vp_c (by decide)) e_136.symm ?_
        have f_137 := a_set e_136 f_134
        have l_138 := l_set e_136 l_130
        refine J_aload_n (i := 0) (j := 0) dX11_text_29 rfl rfl ?_
        have f_139 : h_135[162]? = some (.inr (11, [.int 0, .ref 163, .ref 164, .ref 165, .ref 166, .ref 167, .ref 168, .ref 169, .int 0, .int 0, .int 0, .int 0, .int 0, .long 0, .int 0, .int 0, .int 0, .int 0, .int 0, .ref 170, .ref 171, .ref 172, .int 0, .int 0, .int 0, .int 0, .int 0, .int 0, .ref 173, .ref 174, .ref 175, .int 0, .int 0, .int 0, .ref 176, .ref 177, .ref 178, .ref 179, .ref 180, .int 0, .long 0, .int 0, .ref 181])) := (s_ne e_136 (by decide)).trans f_131
        refine J_get (C := RX11) (T := TX11) (Z := 43) (ci := 11) (f := 4) dX11_text_30 inG11 rfl (by decide) k1268 f_139 rfl ?_
        refine J_iconst (v := 0) dX11_text_33 (by decide) ?_
        refine J_iconst (v := (-1)) dX11_text_34 (by decide) ?_
        have f_140 : h_117[166]? = some (.inl (1, 4, .inl (upd (fun _ => 0) ((0 : Int32).toNatClampNeg) (-1)))) := (s_ne e_118 (by decide)).trans h6
        have f_141 : h_122[166]? = some (.inl (1, 4, .inl (upd (fun _ => 0) ((0 : Int32).toNatClampNeg) (-1)))) := (s_ne e_123 (by decide)).trans f_140
        have f_142 : h_127[166]? = some (.inl (1, 4, .inl (upd (fun _ => 0) ((0 : Int32).toNatClampNeg) (-1)))) := (s_ne e_128 (by decide)).trans f_141
        have f_143 : h_135[166]? = some (.inl (1, 4, .inl (upd (fun _ => 0) ((0 : Int32).toNatClampNeg) (-1)))) := (s_ne e_136 (by decide)).trans f_142
        obtain ⟨h_144, e_145⟩ : ∃ z, z = h_135.set 166 (.inl (1, 4, .inl (upd (upd (fun _ => 0) ((0 : Int32).toNatClampNeg) (-1)) ((0 : Int32).toNatClampNeg) (-1)))) := ⟨_, rfl⟩
        refine J_iast dX11_text_35 f_143 (vp_c (by decide)) e_145.symm ?_
        have f_146 := a_set e_145 f_143
        have l_147 := l_set e_145 l_138
        refine J_iload_n (i := 1) (j := 1) dX11_text_36 rfl rfl ?_
        refine J_iconst (v := 0) dX11_text_37 (by decide) ?_
        refine J_iconst (v := 1) dX11_text_38 (by decide) ?_
        refine J_callS (As := [.int 1, .int 0, .int 1]) (rest := []) dX11_text_39 (c_X11_in (d := 0) (h := h_144) (v := 1) (lo := 0) (hi := 1) (by decide)) hq.n k1406 k1407 k97 k1408 np_X11_in (Nat.le_trans (by decide) hd) (by decide) (Nat.le_refl _) (Nat.le_refl _) (hkz l_147) rfl (Nat.le_of_ble_eq_true rfl) (fun r_148 h_149 p_150 => ?_)
        obtain ⟨rfl, w_151⟩ := p_150
        refine J_w w_151 ?_
        refine J_ci (v := 1) (by decide) ?_
        refine J_if_eq (tgt := 87) dX11_text_42 (by decide) (fun q => absurd q (by decide)) (fun _ => ?_)
        refine J_iload_n (i := 2) (j := 2) dX11_text_45 rfl rfl ?_
        refine J_iconst (v := (-1)) dX11_text_46 (by decide) ?_
        refine J_icmp_ne (tgt := 71) dX11_text_47 (by decide) (fun q => absurd (by decide) q) (fun _ => ?_)
        refine J_aload_n (i := 0) (j := 0) dX11_text_50 rfl rfl ?_
        have f_152 : h_144[162]? = some (.inr (11, [.int 0, .ref 163, .ref 164, .ref 165, .ref 166, .ref 167, .ref 168, .ref 169, .int 0, .int 0, .int 0, .int 0, .int 0, .long 0, .int 0, .int 0, .int 0, .int 0, .int 0, .ref 170, .ref 171, .ref 172, .int 0, .int 0, .int 0, .int 0, .int 0, .int 0, .ref 173, .ref 174, .ref 175, .int 0, .int 0, .int 0, .ref 176, .ref 177, .ref 178, .ref 179, .ref 180, .int 0, .long 0, .int 0, .ref 181])) := (s_ne e_145 (by decide)).trans f_139
        refine J_get (C := RX11) (T := TX11) (Z := 43) (ci := 11) (f := 5) dX11_text_51 inG11 rfl (by decide) k1269 f_152 rfl ?_
        refine J_iload_n (i := 1) (j := 1) dX11_text_54 rfl rfl ?_
        have f_153 : h_117[167]? = some (.inl (1, 8, .inl (fun _ => 0))) := (s_ne e_118 (by decide)).trans h7
        have f_154 : h_122[167]? = some (.inl (1, 8, .inl (fun _ => 0))) := (s_ne e_123 (by decide)).trans f_153
        have f_155 : h_127[167]? = some (.inl (1, 8, .inl (fun _ => 0))) := (s_ne e_128 (by decide)).trans f_154
        have f_156 : h_135[167]? = some (.inl (1, 8, .inl (fun _ => 0))) := (s_ne e_136 (by decide)).trans f_155
        have f_157 : h_144[167]? = some (.inl (1, 8, .inl (fun _ => 0))) := (s_ne e_145 (by decide)).trans f_156
        refine J_iald dX11_text_55 f_157 (vp_c (by decide)) ?_
        refine J_ci (v := 0) rfl ?_
        refine J_iload_n (i := 1) (j := 1) dX11_text_56 rfl rfl ?_
        refine J_if_ne (tgt := 64) dX11_text_57 (by decide) (fun _ => ?_) (fun q => absurd q (by decide))
        refine J_iconst (v := 3) dX11_text_64 (by decide) ?_
        refine J_icmp_ne (tgt := 90) dX11_text_65 (by decide) (fun _ => ?_) (fun q => absurd q (by decide))
        refine J_aload_n (i := 0) (j := 0) dX11_text_90 rfl rfl ?_
        refine J_iload_n (i := 1) (j := 1) dX11_text_91 rfl rfl ?_
        have f_158 : h_144[165]? = some (.inl (1, 4, .inl (upd (fun _ => 0) ((0 : Int32).toNatClampNeg) 0))) := (s_ne e_145 (by decide)).trans f_137
        have f_159 : h_117[170]? = some (.inl (1, 157, .inl (fun _ => 0))) := (s_ne e_118 (by decide)).trans h10
        have f_160 : h_122[170]? = some (.inl (1, 157, .inl (fun _ => 0))) := (s_ne e_123 (by decide)).trans f_159
        have f_161 : h_127[170]? = some (.inl (1, 157, .inl (fun _ => 0))) := (s_ne e_128 (by decide)).trans f_160
        have f_162 : h_135[170]? = some (.inl (1, 157, .inl (fun _ => 0))) := (s_ne e_136 (by decide)).trans f_161
        have f_163 : h_144[170]? = some (.inl (1, 157, .inl (fun _ => 0))) := (s_ne e_145 (by decide)).trans f_162
        refine J_callV (As := [.int 1]) (rest := []) dX11_text_92 (c_X11_readText1 (d := 4) (h := h_144) (by decide) f_152 f_158 f_146 f_163) hq.n k1413 k1415 k37 f_152 rfl rfl k97 k1416 np_X11_readText (Nat.le_trans (by decide) hd) (by decide) (Nat.le_refl _) (Nat.le_refl _) (hkz l_147) rfl (Nat.le_of_ble_eq_true rfl) (fun r_164 h_165 p_166 => ?_)
        obtain ⟨rfl, l_167, f_168, ⟨g_169, f_170⟩, r_171⟩ := p_166
        have l_172 := l_167.trans l_147
        refine J_if_ne (tgt := 100) dX11_text_95 (by decide) (fun _ => ?_) (fun q => absurd q (by decide))
        refine J_iload_n (i := 2) (j := 2) dX11_text_100 rfl rfl ?_
        refine J_iconst (v := (-1)) dX11_text_101 (by decide) ?_
        refine J_icmp_ne (tgt := 114) dX11_text_102 (by decide) (fun q => absurd (by decide) q) (fun _ => ?_)
        refine J_aload_n (i := 0) (j := 0) dX11_text_105 rfl rfl ?_
        refine J_get (C := RX11) (T := TX11) (Z := 43) (ci := 11) (f := 5) dX11_text_106 inG11 rfl (by decide) k1269 f_168 rfl ?_
        refine J_iload_n (i := 1) (j := 1) dX11_text_109 rfl rfl ?_
        have f_173 : h_165[167]? = some (.inl (1, 8, .inl (fun _ => 0))) := (r_171 167 (by decide) (by decide) (by decide) (by decide)).trans f_157
        refine J_iald dX11_text_110 f_173 (vp_c (by decide)) ?_
        refine J_ci (v := 0) rfl ?_
        refine J_goto (tgt := 115) dX11_text_111 (by decide) ?_
        refine J_istore_n (i := 3) (lw := [(3, .int 0), (0, .ref 162), (1, .int 1), (2, .int (-1))]) dX11_text_115 rfl (by decide) rfl ?_
        refine J_aload_n (i := 0) (j := 1) dX11_text_116 rfl rfl ?_
        refine J_get (C := RX11) (T := TX11) (Z := 43) (ci := 11) (f := 5) dX11_text_117 inG11 rfl (by decide) k1269 f_168 rfl ?_
        refine J_iload_n (i := 1) (j := 2) dX11_text_120 rfl rfl ?_
        refine J_dup2_11 dX11_text_121 rfl rfl ?_
        refine J_iald dX11_text_122 f_173 (vp_c (by decide)) ?_
        refine J_ci (v := 0) rfl ?_
        refine J_iload_n (i := 2) (j := 3) dX11_text_123 rfl rfl ?_
        refine J_iconst (v := (-1)) dX11_text_124 (by decide) ?_
        refine J_icmp_ne (tgt := 132) dX11_text_125 (by decide) (fun q => absurd (by decide) q) (fun _ => ?_)
        refine J_iconst (v := 1) dX11_text_128 (by decide) ?_
        refine J_goto (tgt := 133) dX11_text_129 (by decide) ?_
        refine J_iadd dX11_text_133 ?_
        refine J_ci (v := 1) (by decide) ?_
        obtain ⟨h_174, e_175⟩ : ∃ z, z = h_165.set 167 (.inl (1, 8, .inl (upd (fun _ => 0) ((1 : Int32).toNatClampNeg) 1))) := ⟨_, rfl⟩
        refine J_iast dX11_text_134 f_173 (vp_c (by decide)) e_175.symm ?_
        have f_176 := a_set e_175 f_173
        have l_177 := l_set e_175 l_172
        refine J_iconst (v := 0) dX11_text_135 (by decide) ?_
        refine J_istore (i := 4) (lw := [(4, .int 0), (3, .int 0), (0, .ref 162), (1, .int 1), (2, .int (-1))]) dX11_text_136 (by decide) rfl ?_
        refine J_iload (i := 4) (j := 0) dX11_text_138 rfl ?_
        refine J_sipush (v := 157) dX11_text_140 (by decide) ?_
        refine J_icmp_ge (tgt := 176) dX11_text_143 (by decide) (fun q => absurd q (by decide)) (fun _ => ?_)
        refine J_iload_n (i := 1) (j := 3) dX11_text_146 rfl rfl ?_
        refine J_if_ne (tgt := 176) dX11_text_147 (by decide) (fun _ => ?_) (fun q => absurd q (by decide))
        refine J_iconst (v := 0) dX11_text_176 (by decide) ?_
        refine J_istore (i := 4) (lw := [(4, .int 0), (3, .int 0), (0, .ref 162), (1, .int 1), (2, .int (-1))]) dX11_text_177 (by decide) rfl ?_
        have f_178 : h_117[169]? = some (.inl (1, 444, .inl (fun _ => 0))) := (s_ne e_118 (by decide)).trans h9
        have f_179 : h_122[169]? = some (.inl (1, 444, .inl (fun _ => 0))) := (s_ne e_123 (by decide)).trans f_178
        have f_180 : h_127[169]? = some (.inl (1, 444, .inl (fun _ => 0))) := (s_ne e_128 (by decide)).trans f_179
        have f_181 : h_135[169]? = some (.inl (1, 444, .inl (fun _ => 0))) := (s_ne e_136 (by decide)).trans f_180
        have f_182 : h_144[169]? = some (.inl (1, 444, .inl (fun _ => 0))) := (s_ne e_145 (by decide)).trans f_181
        have f_183 : h_165[169]? = some (.inl (1, 444, .inl (fun _ => 0))) := (r_171 169 (by decide) (by decide) (by decide) (by decide)).trans f_182
        have f_184 : h_174[169]? = some (.inl (1, 444, .inl (fun _ => 0))) := (s_ne e_175 (by decide)).trans f_183
        have f_185 : h_174[162]? = some (.inr (11, [.int 0, .ref 163, .ref 164, .ref 165, .ref 166, .ref 167, .ref 168, .ref 169, .int 0, .int 0, .int 0, .int 0, .int 0, .long 0, .int 0, .int 0, .int 0, .int 0, .int 0, .ref 170, .ref 171, .ref 172, .int 0, .int 0, .int 0, .int 0, .int 0, .int 0, .ref 173, .ref 174, .ref 175, .int 0, .int 0, .int 0, .ref 176, .ref 177, .ref 178, .ref 179, .ref 180, .int 0, .long 0, .int 0, .ref 181])) := (s_ne e_175 (by decide)).trans f_168
        have f_186 : h_174[170]? = some (.inl (1, 157, .inl g_169)) := (s_ne e_175 (by decide)).trans f_170
        have hq0 : JQ x con0 0 0 (fun r _ => r = some (.int 0)) := hq
        rw [show h.length = h_174.length from l_177.symm]
        exact l_X11_text1 hq0 f_185 f_186 37 0 h_174 _ (by omega) rfl f_184 (fun _ _ => rfl)
      · refine J_aload_n (i := 0) (j := 0) dX11_text_0 rfl rfl ?_
        refine J_iconst (v := 0) dX11_text_1 (by decide) ?_
        obtain ⟨h_187, e_188⟩ : ∃ z, z = h.set 162 (.inr (11, [.int 0, .ref 163, .ref 164, .ref 165, .ref 166, .ref 167, .ref 168, .ref 169, .int 0, .int 0, .int 0, .int 0, .int 0, .long 0, .int 0, .int 0, .int 0, .int 0, .int 0, .ref 170, .ref 171, .ref 172, .int 0, .int 0, .int 0, .int 0, .int 0, .int 0, .ref 173, .ref 174, .ref 175, .int 0, .int 0, .int 0, .ref 176, .ref 177, .ref 178, .ref 179, .ref 180, .int 0, .long 0, .int 0, .ref 181])) := ⟨_, rfl⟩
        refine J_put (C := RX11) (T := TX11) (Z := 43) (ci := 11) (f := 0) (ty0 := tyX11) dX11_text_2 inG11 rfl tyX11_ok nmX11 (by decide) k1264 rfl rfl hm (Nat.le_of_ble_eq_true rfl) (fun _ _ => ⟨rfl, rfl⟩) e_188.symm ?_
        have f_189 := a_set e_188 hm
        have l_190 := l_set e_188 rfl
        refine J_aload_n (i := 0) (j := 0) dX11_text_5 rfl rfl ?_
        refine J_aload_n (i := 0) (j := 0) dX11_text_6 rfl rfl ?_
        refine J_get (C := RX11) (T := TX11) (Z := 43) (ci := 11) (f := 2) dX11_text_7 inG11 rfl (by decide) k1266 f_189 rfl ?_
        refine J_iconst (v := 0) dX11_text_10 (by decide) ?_
        have f_191 : h_187[164]? = some (.inl (1, 4, .inl (fun _ => 0))) := (s_ne e_188 (by decide)).trans h4
        refine J_iald dX11_text_11 f_191 (vp_c (by decide)) ?_
        refine J_ci (v := 0) rfl ?_
        obtain ⟨h_192, e_193⟩ : ∃ z, z = h_187.set 162 (.inr (11, [.int 0, .ref 163, .ref 164, .ref 165, .ref 166, .ref 167, .ref 168, .ref 169, .int 0, .int 0, .int 0, .int 0, .int 0, .long 0, .int 0, .int 0, .int 0, .int 0, .int 0, .ref 170, .ref 171, .ref 172, .int 0, .int 0, .int 0, .int 0, .int 0, .int 0, .ref 173, .ref 174, .ref 175, .int 0, .int 0, .int 0, .ref 176, .ref 177, .ref 178, .ref 179, .ref 180, .int 0, .long 0, .int 0, .ref 181])) := ⟨_, rfl⟩
        refine J_put (C := RX11) (T := TX11) (Z := 43) (ci := 11) (f := 9) (ty0 := tyX11) dX11_text_12 inG11 rfl tyX11_ok nmX11 (by decide) k1273 rfl rfl f_189 (Nat.le_of_ble_eq_true rfl) (fun _ _ => ⟨rfl, rfl⟩) e_193.symm ?_
        have f_194 := a_set e_193 f_189
        have l_195 := l_set e_193 l_190
        refine J_aload_n (i := 0) (j := 0) dX11_text_15 rfl rfl ?_
        refine J_get (C := RX11) (T := TX11) (Z := 43) (ci := 11) (f := 2) dX11_text_16 inG11 rfl (by decide) k1266 f_194 rfl ?_
        refine J_iconst (v := 0) dX11_text_19 (by decide) ?_
        refine J_iconst (v := 0) dX11_text_20 (by decide) ?_
        have f_196 : h_192[164]? = some (.inl (1, 4, .inl (fun _ => 0))) := (s_ne e_193 (by decide)).trans f_191
        obtain ⟨h_197, e_198⟩ : ∃ z, z = h_192.set 164 (.inl (1, 4, .inl (upd (fun _ => 0) ((0 : Int32).toNatClampNeg) 0))) := ⟨_, rfl⟩
        refine J_iast dX11_text_21 f_196 (vp_c (by decide)) e_198.symm ?_
        have f_199 := a_set e_198 f_196
        have l_200 := l_set e_198 l_195
        refine J_aload_n (i := 0) (j := 0) dX11_text_22 rfl rfl ?_
        have f_201 : h_197[162]? = some (.inr (11, [.int 0, .ref 163, .ref 164, .ref 165, .ref 166, .ref 167, .ref 168, .ref 169, .int 0, .int 0, .int 0, .int 0, .int 0, .long 0, .int 0, .int 0, .int 0, .int 0, .int 0, .ref 170, .ref 171, .ref 172, .int 0, .int 0, .int 0, .int 0, .int 0, .int 0, .ref 173, .ref 174, .ref 175, .int 0, .int 0, .int 0, .ref 176, .ref 177, .ref 178, .ref 179, .ref 180, .int 0, .long 0, .int 0, .ref 181])) := (s_ne e_198 (by decide)).trans f_194
        refine J_get (C := RX11) (T := TX11) (Z := 43) (ci := 11) (f := 3) dX11_text_23 inG11 rfl (by decide) k1267 f_201 rfl ?_
        refine J_iconst (v := 0) dX11_text_26 (by decide) ?_
        refine J_iconst (v := 0) dX11_text_27 (by decide) ?_
        have f_202 : h_187[165]? = some (.inl (1, 4, .inl (fun _ => 0))) := (s_ne e_188 (by decide)).trans h5
        have f_203 : h_192[165]? = some (.inl (1, 4, .inl (fun _ => 0))) := (s_ne e_193 (by decide)).trans f_202
        have f_204 : h_197[165]? = some (.inl (1, 4, .inl (fun _ => 0))) := (s_ne e_198 (by decide)).trans f_203
        obtain ⟨h_205, e_206⟩ : ∃ z, z = h_197.set 165 (.inl (1, 4, .inl (upd (fun _ => 0) ((0 : Int32).toNatClampNeg) 0))) := ⟨_, rfl⟩
        refine J_iast dX11_text_28 f_204 (vp_c (by decide)) e_206.symm ?_
        have f_207 := a_set e_206 f_204
        have l_208 := l_set e_206 l_200
        refine J_aload_n (i := 0) (j := 0) dX11_text_29 rfl rfl ?_
        have f_209 : h_205[162]? = some (.inr (11, [.int 0, .ref 163, .ref 164, .ref 165, .ref 166, .ref 167, .ref 168, .ref 169, .int 0, .int 0, .int 0, .int 0, .int 0, .long 0, .int 0, .int 0, .int 0, .int 0, .int 0, .ref 170, .ref 171, .ref 172, .int 0, .int 0, .int 0, .int 0, .int 0, .int 0, .ref 173, .ref 174, .ref 175, .int 0, .int 0, .int 0, .ref 176, .ref 177, .ref 178, .ref 179, .ref 180, .int 0, .long 0, .int 0, .ref 181])) := (s_ne e_206 (by decide)).trans f_201
        refine J_get (C := RX11) (T := TX11) (Z := 43) (ci := 11) (f := 4) dX11_text_30 inG11 rfl (by decide) k1268 f_209 rfl ?_
        refine J_iconst (v := 0) dX11_text_33 (by decide) ?_
        refine J_iconst (v := (-1)) dX11_text_34 (by decide) ?_
        have f_210 : h_187[166]? = some (.inl (1, 4, .inl (upd (fun _ => 0) ((0 : Int32).toNatClampNeg) (-1)))) := (s_ne e_188 (by decide)).trans h6
        have f_211 : h_192[166]? = some (.inl (1, 4, .inl (upd (fun _ => 0) ((0 : Int32).toNatClampNeg) (-1)))) := (s_ne e_193 (by decide)).trans f_210
        have f_212 : h_197[166]? = some (.inl (1, 4, .inl (upd (fun _ => 0) ((0 : Int32).toNatClampNeg) (-1)))) := (s_ne e_198 (by decide)).trans f_211
        have f_213 : h_205[166]? = some (.inl (1, 4, .inl (upd (fun _ => 0) ((0 : Int32).toNatClampNeg) (-1)))) := (s_ne e_206 (by decide)).trans f_212
        obtain ⟨h_214, e_215⟩ : ∃ z, z = h_205.set 166 (.inl (1, 4, .inl (upd (upd (fun _ => 0) ((0 : Int32).toNatClampNeg) (-1)) ((0 : Int32).toNatClampNeg) (-1)))) := ⟨_, rfl⟩
        refine J_iast dX11_text_35 f_213 (vp_c (by decide)) e_215.symm ?_
        have f_216 := a_set e_215 f_213
        have l_217 := l_set e_215 l_208
        refine J_iload_n (i := 1) (j := 1) dX11_text_36 rfl rfl ?_
        refine J_iconst (v := 0) dX11_text_37 (by decide) ?_
        refine J_iconst (v := 1) dX11_text_38 (by decide) ?_
        refine J_callS (As := [.int 1, .int 0, .int 1]) (rest := []) dX11_text_39 (c_X11_in (d := 0) (h := h_214) (v := 1) (lo := 0) (hi := 1) (by decide)) hq.n k1406 k1407 k97 k1408 np_X11_in (Nat.le_trans (by decide) hd) (by decide) (Nat.le_refl _) (Nat.le_refl _) (hkz l_217) rfl (Nat.le_of_ble_eq_true rfl) (fun r_218 h_219 p_220 => ?_)
        obtain ⟨rfl, w_221⟩ := p_220
        refine J_w w_221 ?_
        refine J_ci (v := 1) (by decide) ?_
        refine J_if_eq (tgt := 87) dX11_text_42 (by decide) (fun q => absurd q (by decide)) (fun _ => ?_)
        refine J_iload_n (i := 2) (j := 2) dX11_text_45 rfl rfl ?_
        refine J_iconst (v := (-1)) dX11_text_46 (by decide) ?_
        refine J_icmp_ne (tgt := 71) dX11_text_47 (by decide) (fun c_222 => ?_) (fun c_222 => ?_)
        · refine J_iload_n (i := 2) (j := 2) dX11_text_71 rfl rfl ?_
          refine J_iconst (v := 0) dX11_text_72 (by decide) ?_
          refine J_aload_n (i := 0) (j := 0) dX11_text_73 rfl rfl ?_
          have f_223 : h_214[162]? = some (.inr (11, [.int 0, .ref 163, .ref 164, .ref 165, .ref 166, .ref 167, .ref 168, .ref 169, .int 0, .int 0, .int 0, .int 0, .int 0, .long 0, .int 0, .int 0, .int 0, .int 0, .int 0, .ref 170, .ref 171, .ref 172, .int 0, .int 0, .int 0, .int 0, .int 0, .int 0, .ref 173, .ref 174, .ref 175, .int 0, .int 0, .int 0, .ref 176, .ref 177, .ref 178, .ref 179, .ref 180, .int 0, .long 0, .int 0, .ref 181])) := (s_ne e_215 (by decide)).trans f_209
          refine J_get (C := RX11) (T := TX11) (Z := 43) (ci := 11) (f := 5) dX11_text_74 inG11 rfl (by decide) k1269 f_223 rfl ?_
          refine J_iload_n (i := 1) (j := 1) dX11_text_77 rfl rfl ?_
          have f_224 : h_187[167]? = some (.inl (1, 8, .inl (fun _ => 0))) := (s_ne e_188 (by decide)).trans h7
          have f_225 : h_192[167]? = some (.inl (1, 8, .inl (fun _ => 0))) := (s_ne e_193 (by decide)).trans f_224
          have f_226 : h_197[167]? = some (.inl (1, 8, .inl (fun _ => 0))) := (s_ne e_198 (by decide)).trans f_225
          have f_227 : h_205[167]? = some (.inl (1, 8, .inl (fun _ => 0))) := (s_ne e_206 (by decide)).trans f_226
          have f_228 : h_214[167]? = some (.inl (1, 8, .inl (fun _ => 0))) := (s_ne e_215 (by decide)).trans f_227
          refine J_iald dX11_text_78 f_228 (vp_c (by decide)) ?_
          refine J_ci (v := 0) rfl ?_
          refine J_iconst (v := 1) dX11_text_79 (by decide) ?_
          refine J_isub dX11_text_80 ?_
          refine J_ci (v := (-1)) (by decide) ?_
          refine J_callS (As := [.int a1, .int 0, .int (-1)]) (rest := []) dX11_text_81 (c_X11_in (d := 0) (h := h_214) (v := a1) (lo := 0) (hi := (-1)) (by decide)) hq.n k1406 k1407 k97 k1408 np_X11_in (Nat.le_trans (by decide) hd) (by decide) (Nat.le_refl _) (Nat.le_refl _) (hkz l_217) rfl (Nat.le_of_ble_eq_true rfl) (fun r_229 h_230 p_231 => ?_)
          obtain ⟨rfl, w_232⟩ := p_231
          refine J_w w_232 ?_
          refine J_ci (v := 0) (by rw [nb1]; rfl) ?_
          refine J_if_ne (tgt := 90) dX11_text_84 (by decide) (fun q => absurd (by decide) q) (fun _ => ?_)
          refine J_bipush (v := (-2)) dX11_text_87 (by decide) ?_
          exact J_iret hq dX11_text_89 rfl (hkz l_217) (Nat.le_refl _) (Nat.le_refl _) (by rw [tv1 csa])
        · exact absurd c_222 csa
    · refine J_aload_n (i := 0) (j := 0) dX11_text_0 rfl rfl ?_
      refine J_iconst (v := 0) dX11_text_1 (by decide) ?_
      obtain ⟨h_233, e_234⟩ : ∃ z, z = h.set 162 (.inr (11, [.int 0, .ref 163, .ref 164, .ref 165, .ref 166, .ref 167, .ref 168, .ref 169, .int 0, .int 0, .int 0, .int 0, .int 0, .long 0, .int 0, .int 0, .int 0, .int 0, .int 0, .ref 170, .ref 171, .ref 172, .int 0, .int 0, .int 0, .int 0, .int 0, .int 0, .ref 173, .ref 174, .ref 175, .int 0, .int 0, .int 0, .ref 176, .ref 177, .ref 178, .ref 179, .ref 180, .int 0, .long 0, .int 0, .ref 181])) := ⟨_, rfl⟩
      refine J_put (C := RX11) (T := TX11) (Z := 43) (ci := 11) (f := 0) (ty0 := tyX11) dX11_text_2 inG11 rfl tyX11_ok nmX11 (by decide) k1264 rfl rfl hm (Nat.le_of_ble_eq_true rfl) (fun _ _ => ⟨rfl, rfl⟩) e_234.symm ?_
      have f_235 := a_set e_234 hm
      have l_236 := l_set e_234 rfl
      refine J_aload_n (i := 0) (j := 0) dX11_text_5 rfl rfl ?_
      refine J_aload_n (i := 0) (j := 0) dX11_text_6 rfl rfl ?_
      refine J_get (C := RX11) (T := TX11) (Z := 43) (ci := 11) (f := 2) dX11_text_7 inG11 rfl (by decide) k1266 f_235 rfl ?_
      refine J_iconst (v := 0) dX11_text_10 (by decide) ?_
      have f_237 : h_233[164]? = some (.inl (1, 4, .inl (fun _ => 0))) := (s_ne e_234 (by decide)).trans h4
      refine J_iald dX11_text_11 f_237 (vp_c (by decide)) ?_
      refine J_ci (v := 0) rfl ?_
      obtain ⟨h_238, e_239⟩ : ∃ z, z = h_233.set 162 (.inr (11, [.int 0, .ref 163, .ref 164, .ref 165, .ref 166, .ref 167, .ref 168, .ref 169, .int 0, .int 0, .int 0, .int 0, .int 0, .long 0, .int 0, .int 0, .int 0, .int 0, .int 0, .ref 170, .ref 171, .ref 172, .int 0, .int 0, .int 0, .int 0, .int 0, .int 0, .ref 173, .ref 174, .ref 175, .int 0, .int 0, .int 0, .ref 176, .ref 177, .ref 178, .ref 179, .ref 180, .int 0, .long 0, .int 0, .ref 181])) := ⟨_, rfl⟩
      refine J_put (C := RX11) (T := TX11) (Z := 43) (ci := 11) (f := 9) (ty0 := tyX11) dX11_text_12 inG11 rfl tyX11_ok nmX11 (by decide) k1273 rfl rfl f_235 (Nat.le_of_ble_eq_true rfl) (fun _ _ => ⟨rfl, rfl⟩) e_239.symm ?_
      have f_240 := a_set e_239 f_235
      have l_241 := l_set e_239 l_236
      refine J_aload_n (i := 0) (j := 0) dX11_text_15 rfl rfl ?_
      refine J_get (C := RX11) (T := TX11) (Z := 43) (ci := 11) (f := 2) dX11_text_16 inG11 rfl (by decide) k1266 f_240 rfl ?_
      refine J_iconst (v := 0) dX11_text_19 (by decide) ?_
      refine J_iconst (v := 0) dX11_text_20 (by decide) ?_
      have f_242 : h_238[164]? = some (.inl (1, 4, .inl (fun _ => 0))) := (s_ne e_239 (by decide)).trans f_237
      obtain ⟨h_243, e_244⟩ : ∃ z, z = h_238.set 164 (.inl (1, 4, .inl (upd (fun _ => 0) ((0 : Int32).toNatClampNeg) 0))) := ⟨_, rfl⟩
      refine J_iast dX11_text_21 f_242 (vp_c (by decide)) e_244.symm ?_
      have f_245 := a_set e_244 f_242
      have l_246 := l_set e_244 l_241
      refine J_aload_n (i := 0) (j := 0) dX11_text_22 rfl rfl ?_
      have f_247 : h_243[162]? = some (.inr (11, [.int 0, .ref 163, .ref 164, .ref 165, .ref 166, .ref 167, .ref 168, .ref 169, .int 0, .int 0, .int 0, .int 0, .int 0, .long 0, .int 0, .int 0, .int 0, .int 0, .int 0, .ref 170, .ref 171, .ref 172, .int 0, .int 0, .int 0, .int 0, .int 0, .int 0, .ref 173, .ref 174, .ref 175, .int 0, .int 0, .int 0, .ref 176, .ref 177, .ref 178, .ref 179, .ref 180, .int 0, .long 0, .int 0, .ref 181])) := (s_ne e_244 (by decide)).trans f_240
      refine J_get (C := RX11) (T := TX11) (Z := 43) (ci := 11) (f := 3) dX11_text_23 inG11 rfl (by decide) k1267 f_247 rfl ?_
      refine J_iconst (v := 0) dX11_text_26 (by decide) ?_
      refine J_iconst (v := 0) dX11_text_27 (by decide) ?_
      have f_248 : h_233[165]? = some (.inl (1, 4, .inl (fun _ => 0))) := (s_ne e_234 (by decide)).trans h5
      have f_249 : h_238[165]? = some (.inl (1, 4, .inl (fun _ => 0))) := (s_ne e_239 (by decide)).trans f_248
      have f_250 : h_243[165]? = some (.inl (1, 4, .inl (fun _ => 0))) := (s_ne e_244 (by decide)).trans f_249
      obtain ⟨h_251, e_252⟩ : ∃ z, z = h_243.set 165 (.inl (1, 4, .inl (upd (fun _ => 0) ((0 : Int32).toNatClampNeg) 0))) := ⟨_, rfl⟩
      refine J_iast dX11_text_28 f_250 (vp_c (by decide)) e_252.symm ?_
      have f_253 := a_set e_252 f_250
      have l_254 := l_set e_252 l_246
      refine J_aload_n (i := 0) (j := 0) dX11_text_29 rfl rfl ?_
      have f_255 : h_251[162]? = some (.inr (11, [.int 0, .ref 163, .ref 164, .ref 165, .ref 166, .ref 167, .ref 168, .ref 169, .int 0, .int 0, .int 0, .int 0, .int 0, .long 0, .int 0, .int 0, .int 0, .int 0, .int 0, .ref 170, .ref 171, .ref 172, .int 0, .int 0, .int 0, .int 0, .int 0, .int 0, .ref 173, .ref 174, .ref 175, .int 0, .int 0, .int 0, .ref 176, .ref 177, .ref 178, .ref 179, .ref 180, .int 0, .long 0, .int 0, .ref 181])) := (s_ne e_252 (by decide)).trans f_247
      refine J_get (C := RX11) (T := TX11) (Z := 43) (ci := 11) (f := 4) dX11_text_30 inG11 rfl (by decide) k1268 f_255 rfl ?_
      refine J_iconst (v := 0) dX11_text_33 (by decide) ?_
      refine J_iconst (v := (-1)) dX11_text_34 (by decide) ?_
      have f_256 : h_233[166]? = some (.inl (1, 4, .inl (upd (fun _ => 0) ((0 : Int32).toNatClampNeg) (-1)))) := (s_ne e_234 (by decide)).trans h6
      have f_257 : h_238[166]? = some (.inl (1, 4, .inl (upd (fun _ => 0) ((0 : Int32).toNatClampNeg) (-1)))) := (s_ne e_239 (by decide)).trans f_256
      have f_258 : h_243[166]? = some (.inl (1, 4, .inl (upd (fun _ => 0) ((0 : Int32).toNatClampNeg) (-1)))) := (s_ne e_244 (by decide)).trans f_257
      have f_259 : h_251[166]? = some (.inl (1, 4, .inl (upd (fun _ => 0) ((0 : Int32).toNatClampNeg) (-1)))) := (s_ne e_252 (by decide)).trans f_258
      obtain ⟨h_260, e_261⟩ : ∃ z, z = h_251.set 166 (.inl (1, 4, .inl (upd (upd (fun _ => 0) ((0 : Int32).toNatClampNeg) (-1)) ((0 : Int32).toNatClampNeg) (-1)))) := ⟨_, rfl⟩
      refine J_iast dX11_text_35 f_259 (vp_c (by decide)) e_261.symm ?_
      have f_262 := a_set e_261 f_259
      have l_263 := l_set e_261 l_254
      refine J_iload_n (i := 1) (j := 1) dX11_text_36 rfl rfl ?_
      refine J_iconst (v := 0) dX11_text_37 (by decide) ?_
      refine J_iconst (v := 1) dX11_text_38 (by decide) ?_
      refine J_callS (As := [.int a0, .int 0, .int 1]) (rest := []) dX11_text_39 (c_X11_in (d := 0) (h := h_260) (v := a0) (lo := 0) (hi := 1) (by decide)) hq.n k1406 k1407 k97 k1408 np_X11_in (Nat.le_trans (by decide) hd) (by decide) (Nat.le_refl _) (Nat.le_refl _) (hkz l_263) rfl (Nat.le_of_ble_eq_true rfl) (fun r_264 h_265 p_266 => ?_)
      obtain ⟨rfl, w_267⟩ := p_266
      refine J_w w_267 ?_
      refine J_ci (v := 0) (by rw [in01 cs0 cs1]; rfl) ?_
      refine J_if_eq (tgt := 87) dX11_text_42 (by decide) (fun _ => ?_) (fun q => absurd (by decide) q)
      refine J_bipush (v := (-2)) dX11_text_87 (by decide) ?_
      exact J_iret hq dX11_text_89 rfl (hkz l_263) (Nat.le_refl _) (Nat.le_refl _) (by rw [tv0 cs0 cs1])
