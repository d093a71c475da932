/-! image, on both sides; copies -/
theorem k3 {a : Int32} (h1 : ¬ a < 0) (h2 : a < 3) : a = 0 ∨ a = 1 ∨ a = 2 := by
  rw [Int32.lt_iff_toInt_lt] at h1 h2
  have e0 : (0 : Int32).toInt = 0 := by decide
  have e1 : (1 : Int32).toInt = 1 := by decide
  have e2 : (2 : Int32).toInt = 2 := by decide
  have e3 : (3 : Int32).toInt = 3 := by decide
  rcases (show a.toInt = 0 ∨ a.toInt = 1 ∨ a.toInt = 2 by omega) with h | h | h
  · exact Or.inl (Int32.toInt_inj.mp (h.trans e0.symm))
  · exact Or.inr (Or.inl (Int32.toInt_inj.mp (h.trans e1.symm)))
  · exact Or.inr (Or.inr (Int32.toInt_inj.mp (h.trans e2.symm)))
theorem k3b {a : Int32} (h : (!decide (a < 0) && !decide ((2 : Int32) < a)) = true) : a = 0 ∨ a = 1 ∨ a = 2 := by
  simp only [Bool.and_eq_true, Bool.not_eq_true', decide_eq_false_iff_not] at h
  refine k3 h.1 ?_
  have h2 := h.2
  rw [Int32.lt_iff_toInt_lt] at h2 ⊢
  have e2 : (2 : Int32).toInt = 2 := by decide
  have e3 : (3 : Int32).toInt = 3 := by decide
  omega
theorem im0 {a : Int32} (h : (!decide (a < 0) && !decide ((2 : Int32) < a)) = false) : (if a < 0 then (0 : Int32) else if a < 3 then 1 else 0) = 0 := by
  by_cases h0 : a < 0
  · simp [h0]
  · by_cases h1 : a < 3
    · rcases k3 h0 h1 with rfl | rfl | rfl <;> exact absurd h (by decide)
    · simp [h0, h1]
theorem k684 : Cond.methodLink RX1 37 arraycopyName ∈ gt := gt_in 684 (by decide +kernel) (by decide +kernel)
theorem k686 : Cond.native arraycopyName ∈ gt := gt_in 686 (by decide +kernel) (by decide +kernel)
theorem k685 : Cond.static arraycopyName ∈ gt := gt_in 685 (by decide +kernel) (by decide +kernel)
theorem k104 : Cond.initialized RJ10 ∈ gt := gt_in 104 (by decide +kernel) (by decide +kernel)
theorem k694 : Cond.methodLink RX8 25 arraycopyName ∈ gt := gt_in 694 (by decide +kernel) (by decide +kernel)
theorem k1253 : Cond.methodLink RX7 66 arraycopyName ∈ gt := gt_in 1253 (by decide +kernel) (by decide +kernel)
theorem k680 : Cond.methodLink RX7 50 yX1_copy ∈ gt := gt_in 680 (by decide +kernel) (by decide +kernel)
theorem k681 : Cond.instanceMethod yX1_copy ∈ gt := gt_in 681 (by decide +kernel) (by decide +kernel)
theorem k682 : Cond.selects RX1 yX1_copy yX1_copy ∈ gt := gt_in 682 (by decide +kernel) (by decide +kernel)
theorem k683 : Cond.code yX1_copy cX1_copy 2 none ∈ gt := gt_in 683 (by decide +kernel) (by decide +kernel)
theorem np_X1_copy : yX1_copy.cls ≠ "java/lang/invoke/MethodHandle" ∧ yX1_copy.cls ≠ "java/lang/invoke/VarHandle" ∧ (parseMethodDescriptor yX1_copy.desc).map (fun d => d.parameters.length) = some 1 := by decide +kernel
theorem k690 : Cond.methodLink RX7 63 yX8_copy ∈ gt := gt_in 690 (by decide +kernel) (by decide +kernel)
theorem k691 : Cond.instanceMethod yX8_copy ∈ gt := gt_in 691 (by decide +kernel) (by decide +kernel)
theorem k692 : Cond.selects RX8 yX8_copy yX8_copy ∈ gt := gt_in 692 (by decide +kernel) (by decide +kernel)
theorem k693 : Cond.code yX8_copy cX8_copy 2 none ∈ gt := gt_in 693 (by decide +kernel) (by decide +kernel)
theorem np_X8_copy : yX8_copy.cls ≠ "java/lang/invoke/MethodHandle" ∧ yX8_copy.cls ≠ "java/lang/invoke/VarHandle" ∧ (parseMethodDescriptor yX8_copy.desc).map (fun d => d.parameters.length) = some 1 := by decide +kernel
theorem dX1_copy_0 : decode cX1_copy 0 = .ok (.aload_n 0, 1) := by decide +kernel
theorem dX1_copy_1 : decode cX1_copy 1 = .ok (.aload_n 1, 1) := by decide +kernel
theorem dX1_copy_2 : decode cX1_copy 2 = .ok (.getfield 9, 3) := by decide +kernel
theorem dX1_copy_5 : decode cX1_copy 5 = .ok (.putfield 9, 3) := by decide +kernel
theorem dX1_copy_8 : decode cX1_copy 8 = .ok (.aload_n 0, 1) := by decide +kernel
theorem dX1_copy_9 : decode cX1_copy 9 = .ok (.aload_n 1, 1) := by decide +kernel
theorem dX1_copy_10 : decode cX1_copy 10 = .ok (.getfield 19, 3) := by decide +kernel
theorem dX1_copy_13 : decode cX1_copy 13 = .ok (.putfield 19, 3) := by decide +kernel
theorem dX1_copy_16 : decode cX1_copy 16 = .ok (.aload_n 1, 1) := by decide +kernel
theorem dX1_copy_17 : decode cX1_copy 17 = .ok (.getfield 15, 3) := by decide +kernel
theorem dX1_copy_20 : decode cX1_copy 20 = .ok (.iconst 0, 1) := by decide +kernel
theorem dX1_copy_21 : decode cX1_copy 21 = .ok (.aload_n 0, 1) := by decide +kernel
theorem dX1_copy_22 : decode cX1_copy 22 = .ok (.getfield 15, 3) := by decide +kernel
theorem dX1_copy_25 : decode cX1_copy 25 = .ok (.iconst 0, 1) := by decide +kernel
theorem dX1_copy_26 : decode cX1_copy 26 = .ok (.aload_n 0, 1) := by decide +kernel
theorem dX1_copy_27 : decode cX1_copy 27 = .ok (.getfield 15, 3) := by decide +kernel
theorem dX1_copy_30 : decode cX1_copy 30 = .ok (.arraylength, 1) := by decide +kernel
theorem dX1_copy_31 : decode cX1_copy 31 = .ok (.invokestatic 37, 3) := by decide +kernel
theorem dX1_copy_34 : decode cX1_copy 34 = .ok (.aload_n 1, 1) := by decide +kernel
theorem dX1_copy_35 : decode cX1_copy 35 = .ok (.getfield 22, 3) := by decide +kernel
theorem dX1_copy_38 : decode cX1_copy 38 = .ok (.iconst 0, 1) := by decide +kernel
theorem dX1_copy_39 : decode cX1_copy 39 = .ok (.aload_n 0, 1) := by decide +kernel
theorem dX1_copy_40 : decode cX1_copy 40 = .ok (.getfield 22, 3) := by decide +kernel
theorem dX1_copy_43 : decode cX1_copy 43 = .ok (.iconst 0, 1) := by decide +kernel
theorem dX1_copy_44 : decode cX1_copy 44 = .ok (.iconst 4, 1) := by decide +kernel
theorem dX1_copy_45 : decode cX1_copy 45 = .ok (.invokestatic 37, 3) := by decide +kernel
theorem dX1_copy_48 : decode cX1_copy 48 = .ok (.aload_n 1, 1) := by decide +kernel
theorem dX1_copy_49 : decode cX1_copy 49 = .ok (.getfield 25, 3) := by decide +kernel
theorem dX1_copy_52 : decode cX1_copy 52 = .ok (.iconst 0, 1) := by decide +kernel
theorem dX1_copy_53 : decode cX1_copy 53 = .ok (.aload_n 0, 1) := by decide +kernel
theorem dX1_copy_54 : decode cX1_copy 54 = .ok (.getfield 25, 3) := by decide +kernel
theorem dX1_copy_57 : decode cX1_copy 57 = .ok (.iconst 0, 1) := by decide +kernel
theorem dX1_copy_58 : decode cX1_copy 58 = .ok (.iconst 4, 1) := by decide +kernel
theorem dX1_copy_59 : decode cX1_copy 59 = .ok (.invokestatic 37, 3) := by decide +kernel
theorem dX1_copy_62 : decode cX1_copy 62 = .ok (.aload_n 1, 1) := by decide +kernel
theorem dX1_copy_63 : decode cX1_copy 63 = .ok (.getfield 28, 3) := by decide +kernel
theorem dX1_copy_66 : decode cX1_copy 66 = .ok (.iconst 0, 1) := by decide +kernel
theorem dX1_copy_67 : decode cX1_copy 67 = .ok (.aload_n 0, 1) := by decide +kernel
theorem dX1_copy_68 : decode cX1_copy 68 = .ok (.getfield 28, 3) := by decide +kernel
theorem dX1_copy_71 : decode cX1_copy 71 = .ok (.iconst 0, 1) := by decide +kernel
theorem dX1_copy_72 : decode cX1_copy 72 = .ok (.aload_n 0, 1) := by decide +kernel
theorem dX1_copy_73 : decode cX1_copy 73 = .ok (.getfield 28, 3) := by decide +kernel
theorem dX1_copy_76 : decode cX1_copy 76 = .ok (.arraylength, 1) := by decide +kernel
theorem dX1_copy_77 : decode cX1_copy 77 = .ok (.invokestatic 37, 3) := by decide +kernel
theorem dX1_copy_80 : decode cX1_copy 80 = .ok (.return_, 1) := by decide +kernel
theorem dX7_copy_0 : decode cX7_copy 0 = .ok (.aload_n 1, 1) := by decide +kernel
theorem dX7_copy_1 : decode cX7_copy 1 = .ok (.getfield 9, 3) := by decide +kernel
theorem dX7_copy_4 : decode cX7_copy 4 = .ok (.iconst 0, 1) := by decide +kernel
theorem dX7_copy_5 : decode cX7_copy 5 = .ok (.aload_n 0, 1) := by decide +kernel
theorem dX7_copy_6 : decode cX7_copy 6 = .ok (.getfield 9, 3) := by decide +kernel
theorem dX7_copy_9 : decode cX7_copy 9 = .ok (.iconst 0, 1) := by decide +kernel
theorem dX7_copy_10 : decode cX7_copy 10 = .ok (.sipush 600, 3) := by decide +kernel
theorem dX7_copy_13 : decode cX7_copy 13 = .ok (.invokestatic 66, 3) := by decide +kernel
theorem dX7_copy_16 : decode cX7_copy 16 = .ok (.aload_n 0, 1) := by decide +kernel
theorem dX7_copy_17 : decode cX7_copy 17 = .ok (.aload_n 1, 1) := by decide +kernel
theorem dX7_copy_18 : decode cX7_copy 18 = .ok (.getfield 15, 3) := by decide +kernel
theorem dX7_copy_21 : decode cX7_copy 21 = .ok (.putfield 15, 3) := by decide +kernel
theorem dX7_copy_24 : decode cX7_copy 24 = .ok (.aload_n 0, 1) := by decide +kernel
theorem dX7_copy_25 : decode cX7_copy 25 = .ok (.aload_n 1, 1) := by decide +kernel
theorem dX7_copy_26 : decode cX7_copy 26 = .ok (.getfield 19, 3) := by decide +kernel
theorem dX7_copy_29 : decode cX7_copy 29 = .ok (.putfield 19, 3) := by decide +kernel
theorem dX7_copy_32 : decode cX7_copy 32 = .ok (.aload_n 0, 1) := by decide +kernel
theorem dX7_copy_33 : decode cX7_copy 33 = .ok (.aload_n 1, 1) := by decide +kernel
theorem dX7_copy_34 : decode cX7_copy 34 = .ok (.getfield 22, 3) := by decide +kernel
theorem dX7_copy_37 : decode cX7_copy 37 = .ok (.putfield 22, 3) := by decide +kernel
theorem dX7_copy_40 : decode cX7_copy 40 = .ok (.aload_n 0, 1) := by decide +kernel
theorem dX7_copy_41 : decode cX7_copy 41 = .ok (.aload_n 1, 1) := by decide +kernel
theorem dX7_copy_42 : decode cX7_copy 42 = .ok (.getfield 31, 3) := by decide +kernel
theorem dX7_copy_45 : decode cX7_copy 45 = .ok (.putfield 31, 3) := by decide +kernel
theorem dX7_copy_48 : decode cX7_copy 48 = .ok (.aload_n 0, 1) := by decide +kernel
theorem dX7_copy_49 : decode cX7_copy 49 = .ok (.aload_n 1, 1) := by decide +kernel
theorem dX7_copy_50 : decode cX7_copy 50 = .ok (.getfield 40, 3) := by decide +kernel
theorem dX7_copy_53 : decode cX7_copy 53 = .ok (.putfield 40, 3) := by decide +kernel
theorem dX7_copy_56 : decode cX7_copy 56 = .ok (.iconst 0, 1) := by decide +kernel
theorem dX7_copy_57 : decode cX7_copy 57 = .ok (.istore_n 2, 1) := by decide +kernel
theorem dX7_copy_58 : decode cX7_copy 58 = .ok (.iload_n 2, 1) := by decide +kernel
theorem dX7_copy_59 : decode cX7_copy 59 = .ok (.iconst 2, 1) := by decide +kernel
theorem dX7_copy_60 : decode cX7_copy 60 = .ok (.if_icmp .ge 24, 3) := by decide +kernel
theorem dX7_copy_63 : decode cX7_copy 63 = .ok (.aload_n 0, 1) := by decide +kernel
theorem dX7_copy_64 : decode cX7_copy 64 = .ok (.getfield 27, 3) := by decide +kernel
theorem dX7_copy_67 : decode cX7_copy 67 = .ok (.iload_n 2, 1) := by decide +kernel
theorem dX7_copy_68 : decode cX7_copy 68 = .ok (.aaload, 1) := by decide +kernel
theorem dX7_copy_69 : decode cX7_copy 69 = .ok (.aload_n 1, 1) := by decide +kernel
theorem dX7_copy_70 : decode cX7_copy 70 = .ok (.getfield 27, 3) := by decide +kernel
theorem dX7_copy_73 : decode cX7_copy 73 = .ok (.iload_n 2, 1) := by decide +kernel
theorem dX7_copy_74 : decode cX7_copy 74 = .ok (.aaload, 1) := by decide +kernel
theorem dX7_copy_75 : decode cX7_copy 75 = .ok (.invokevirtual 50, 3) := by decide +kernel
theorem dX7_copy_78 : decode cX7_copy 78 = .ok (.iinc 2 1, 3) := by decide +kernel
theorem dX7_copy_81 : decode cX7_copy 81 = .ok (.goto (-23), 3) := by decide +kernel
theorem dX7_copy_84 : decode cX7_copy 84 = .ok (.iconst 0, 1) := by decide +kernel
theorem dX7_copy_85 : decode cX7_copy 85 = .ok (.istore_n 2, 1) := by decide +kernel
theorem dX7_copy_86 : decode cX7_copy 86 = .ok (.iload_n 2, 1) := by decide +kernel
theorem dX7_copy_87 : decode cX7_copy 87 = .ok (.iconst 3, 1) := by decide +kernel
theorem dX7_copy_88 : decode cX7_copy 88 = .ok (.if_icmp .ge 24, 3) := by decide +kernel
theorem dX7_copy_91 : decode cX7_copy 91 = .ok (.aload_n 0, 1) := by decide +kernel
theorem dX7_copy_92 : decode cX7_copy 92 = .ok (.getfield 36, 3) := by decide +kernel
theorem dX7_copy_95 : decode cX7_copy 95 = .ok (.iload_n 2, 1) := by decide +kernel
theorem dX7_copy_96 : decode cX7_copy 96 = .ok (.aaload, 1) := by decide +kernel
theorem dX7_copy_97 : decode cX7_copy 97 = .ok (.aload_n 1, 1) := by decide +kernel
theorem dX7_copy_98 : decode cX7_copy 98 = .ok (.getfield 36, 3) := by decide +kernel
theorem dX7_copy_101 : decode cX7_copy 101 = .ok (.iload_n 2, 1) := by decide +kernel
theorem dX7_copy_102 : decode cX7_copy 102 = .ok (.aaload, 1) := by decide +kernel
theorem dX7_copy_103 : decode cX7_copy 103 = .ok (.invokevirtual 63, 3) := by decide +kernel
theorem dX7_copy_106 : decode cX7_copy 106 = .ok (.iinc 2 1, 3) := by decide +kernel
theorem dX7_copy_109 : decode cX7_copy 109 = .ok (.goto (-23), 3) := by decide +kernel
theorem dX7_copy_112 : decode cX7_copy 112 = .ok (.return_, 1) := by decide +kernel
theorem dX8_copy_0 : decode cX8_copy 0 = .ok (.aload_n 0, 1) := by decide +kernel
theorem dX8_copy_1 : decode cX8_copy 1 = .ok (.aload_n 1, 1) := by decide +kernel
theorem dX8_copy_2 : decode cX8_copy 2 = .ok (.getfield 9, 3) := by decide +kernel
theorem dX8_copy_5 : decode cX8_copy 5 = .ok (.putfield 9, 3) := by decide +kernel
theorem dX8_copy_8 : decode cX8_copy 8 = .ok (.aload_n 1, 1) := by decide +kernel
theorem dX8_copy_9 : decode cX8_copy 9 = .ok (.getfield 15, 3) := by decide +kernel
theorem dX8_copy_12 : decode cX8_copy 12 = .ok (.iconst 0, 1) := by decide +kernel
theorem dX8_copy_13 : decode cX8_copy 13 = .ok (.aload_n 0, 1) := by decide +kernel
theorem dX8_copy_14 : decode cX8_copy 14 = .ok (.getfield 15, 3) := by decide +kernel
theorem dX8_copy_17 : decode cX8_copy 17 = .ok (.iconst 0, 1) := by decide +kernel
theorem dX8_copy_18 : decode cX8_copy 18 = .ok (.bipush 12, 2) := by decide +kernel
theorem dX8_copy_20 : decode cX8_copy 20 = .ok (.invokestatic 25, 3) := by decide +kernel
theorem dX8_copy_23 : decode cX8_copy 23 = .ok (.aload_n 1, 1) := by decide +kernel
theorem dX8_copy_24 : decode cX8_copy 24 = .ok (.getfield 19, 3) := by decide +kernel
theorem dX8_copy_27 : decode cX8_copy 27 = .ok (.iconst 0, 1) := by decide +kernel
theorem dX8_copy_28 : decode cX8_copy 28 = .ok (.aload_n 0, 1) := by decide +kernel
theorem dX8_copy_29 : decode cX8_copy 29 = .ok (.getfield 19, 3) := by decide +kernel
theorem dX8_copy_32 : decode cX8_copy 32 = .ok (.iconst 0, 1) := by decide +kernel
theorem dX8_copy_33 : decode cX8_copy 33 = .ok (.bipush 12, 2) := by decide +kernel
theorem dX8_copy_35 : decode cX8_copy 35 = .ok (.invokestatic 25, 3) := by decide +kernel
theorem dX8_copy_38 : decode cX8_copy 38 = .ok (.aload_n 1, 1) := by decide +kernel
theorem dX8_copy_39 : decode cX8_copy 39 = .ok (.getfield 22, 3) := by decide +kernel
theorem dX8_copy_42 : decode cX8_copy 42 = .ok (.iconst 0, 1) := by decide +kernel
theorem dX8_copy_43 : decode cX8_copy 43 = .ok (.aload_n 0, 1) := by decide +kernel
theorem dX8_copy_44 : decode cX8_copy 44 = .ok (.getfield 22, 3) := by decide +kernel
theorem dX8_copy_47 : decode cX8_copy 47 = .ok (.iconst 0, 1) := by decide +kernel
theorem dX8_copy_48 : decode cX8_copy 48 = .ok (.bipush 12, 2) := by decide +kernel
theorem dX8_copy_50 : decode cX8_copy 50 = .ok (.invokestatic 25, 3) := by decide +kernel
theorem dX8_copy_53 : decode cX8_copy 53 = .ok (.return_, 1) := by decide +kernel
set_option maxHeartbeats 4000000 in
set_option maxRecDepth 100000 in
theorem c_X1_copy {d : Nat} {h : List MC} {t f : Nat} {pt nt pf nf : Int32} {t1 t2 t3 t4 f1 f2 f3 f4 : Nat → Int32} (hd : 1 ≤ d) (ht0 : h[t]? = some (.inr (1, [.int pt, .ref (t + 1), .int nt, .ref (t + 2), .ref (t + 3), .ref (t + 4)]))) (ht1 : h[t + 1]? = some (.inl (1, 144, .inl t1))) (ht2 : h[t + 2]? = some (.inl (1, 4, .inl t2))) (ht3 : h[t + 3]? = some (.inl (1, 4, .inl t3))) (ht4 : h[t + 4]? = some (.inl (1, 3, .inl t4))) (hf0 : h[f]? = some (.inr (1, [.int pf, .ref (f + 1), .int nf, .ref (f + 2), .ref (f + 3), .ref (f + 4)]))) (hf1 : h[f + 1]? = some (.inl (1, 144, .inl f1))) (hf2 : h[f + 2]? = some (.inl (1, 4, .inl f2))) (hf3 : h[f + 3]? = some (.inl (1, 4, .inl f3))) (hf4 : h[f + 4]? = some (.inl (1, 3, .inl f4))) (hap : t + 5 ≤ f ∨ f + 5 ≤ t) : CT con0 d 0 0 yX1_copy cX1_copy 2 none [.ref t, .ref f] h (fun r h2 => r = none ∧ h2.length = h.length ∧ ∀ j, (j < t ∨ t + 5 ≤ j) → h2[j]? = h[j]?) := by
  refine CT_of (by decide) (Nat.le_of_ble_eq_true rfl) (fun x hq => ?_)
  show J x yX1_copy cX1_copy 2 none d 0 0 h.length 0 [(0, .ref t), (1, .ref f)] [] h 0 0
  refine J_aload_n (i := 0) (j := 0) dX1_copy_0 rfl rfl ?_
  refine J_aload_n (i := 1) (j := 1) dX1_copy_1 rfl rfl ?_
  refine J_get (C := RX1) (T := TX1) (Z := 6) (ci := 1) (f := 0) dX1_copy_2 inG1 rfl (by decide) k130 hf0 rfl ?_
  obtain ⟨h_1, e_2⟩ : ∃ z, z = h.set t (.inr (1, [.int pf, .ref (t + 1), .int nt, .ref (t + 2), .ref (t + 3), .ref (t + 4)])) := ⟨_, rfl⟩
  refine J_put (C := RX1) (T := TX1) (Z := 6) (ci := 1) (f := 0) (ty0 := tyX1) dX1_copy_5 inG1 rfl tyX1_ok nmX1 (by decide) k130 rfl rfl ht0 (Nat.le_of_ble_eq_true rfl) (fun _ _ => ⟨rfl, rfl⟩) e_2.symm ?_
  have f_3 := a_set e_2 ht0
  have l_4 := l_set e_2 rfl
  refine J_aload_n (i := 0) (j := 0) dX1_copy_8 rfl rfl ?_
  refine J_aload_n (i := 1) (j := 1) dX1_copy_9 rfl rfl ?_
  have f_5 : h_1[f]? = some (.inr (1, [.int pf, .ref (f + 1), .int nf, .ref (f + 2), .ref (f + 3), .ref (f + 4)])) := (s_ne e_2 (dj (i := 0) (j := 0) hap (by decide) (by decide))).trans hf0
  refine J_get (C := RX1) (T := TX1) (Z := 6) (ci := 1) (f := 2) dX1_copy_10 inG1 rfl (by decide) k138 f_5 rfl ?_
  obtain ⟨h_6, e_7⟩ : ∃ z, z = h_1.set t (.inr (1, [.int pf, .ref (t + 1), .int nf, .ref (t + 2), .ref (t + 3), .ref (t + 4)])) := ⟨_, rfl⟩
  refine J_put (C := RX1) (T := TX1) (Z := 6) (ci := 1) (f := 2) (ty0 := tyX1) dX1_copy_13 inG1 rfl tyX1_ok nmX1 (by decide) k138 rfl rfl f_3 (Nat.le_of_ble_eq_true rfl) (fun _ _ => ⟨rfl, rfl⟩) e_7.symm ?_
  have f_8 := a_set e_7 f_3
  have l_9 := l_set e_7 l_4
  refine J_aload_n (i := 1) (j := 1) dX1_copy_16 rfl rfl ?_
  have f_10 : h_6[f]? = some (.inr (1, [.int pf, .ref (f + 1), .int nf, .ref (f + 2), .ref (f + 3), .ref (f + 4)])) := (s_ne e_7 (dj (i := 0) (j := 0) hap (by decide) (by decide))).trans f_5
  refine J_get (C := RX1) (T := TX1) (Z := 6) (ci := 1) (f := 1) dX1_copy_17 inG1 rfl (by decide) k137 f_10 rfl ?_
  refine J_iconst (v := 0) dX1_copy_20 (by decide) ?_
  refine J_aload_n (i := 0) (j := 0) dX1_copy_21 rfl rfl ?_
  refine J_get (C := RX1) (T := TX1) (Z := 6) (ci := 1) (f := 1) dX1_copy_22 inG1 rfl (by decide) k137 f_8 rfl ?_
  refine J_iconst (v := 0) dX1_copy_25 (by decide) ?_
  refine J_aload_n (i := 0) (j := 0) dX1_copy_26 rfl rfl ?_
  refine J_get (C := RX1) (T := TX1) (Z := 6) (ci := 1) (f := 1) dX1_copy_27 inG1 rfl (by decide) k137 f_8 rfl ?_
  have f_11 : h_1[t + 1]? = some (.inl (1, 144, .inl t1)) := (s_ne e_2 (nq (i := 1) (j := 0) (by decide))).trans ht1
  have f_12 : h_6[t + 1]? = some (.inl (1, 144, .inl t1)) := (s_ne e_7 (nq (i := 1) (j := 0) (by decide))).trans f_11
  refine J_alen dX1_copy_30 f_12 (fun _ => rfl) ?_
  refine J_ci (v := 144) (by decide) ?_
  have f_13 : h_1[f + 1]? = some (.inl (1, 144, .inl f1)) := (s_ne e_2 (dj (i := 1) (j := 0) hap (by decide) (by decide))).trans hf1
  have f_14 : h_6[f + 1]? = some (.inl (1, 144, .inl f1)) := (s_ne e_7 (dj (i := 1) (j := 0) hap (by decide) (by decide))).trans f_13
  obtain ⟨h_15, e_16⟩ : ∃ z, z = h_6.set (t + 1) (.inl (1, 144, .inl (va_cpy f1 t1 (0 : Int32).toNatClampNeg (0 : Int32).toNatClampNeg (144 : Int32).toNatClampNeg))) := ⟨_, rfl⟩
  refine J_copyi (sp := 0) (dp := 0) (nn := 144) dX1_copy_31 k684 k686 k685 k104 f_14 f_12 (by decide) (by decide) (by decide) (by decide) (by decide) (Nat.le_trans (by decide) hd) (Nat.le_of_ble_eq_true rfl) e_16.symm ?_
  have f_17 := a_set e_16 f_12
  have l_18 := l_set e_16 l_9
  refine J_aload_n (i := 1) (j := 1) dX1_copy_34 rfl rfl ?_
  have f_19 : h_15[f]? = some (.inr (1, [.int pf, .ref (f + 1), .int nf, .ref (f + 2), .ref (f + 3), .ref (f + 4)])) := (s_ne e_16 (dj (i := 0) (j := 1) hap (by decide) (by decide))).trans f_10
  refine J_get (C := RX1) (T := TX1) (Z := 6) (ci := 1) (f := 3) dX1_copy_35 inG1 rfl (by decide) k143 f_19 rfl ?_
  refine J_iconst (v := 0) dX1_copy_38 (by decide) ?_
  refine J_aload_n (i := 0) (j := 0) dX1_copy_39 rfl rfl ?_
  have f_20 : h_15[t]? = some (.inr (1, [.int pf, .ref (t + 1), .int nf, .ref (t + 2), .ref (t + 3), .ref (t + 4)])) := (s_ne e_16 (nq (i := 0) (j := 1) (by decide))).trans f_8
  refine J_get (C := RX1) (T := TX1) (Z := 6) (ci := 1) (f := 3) dX1_copy_40 inG1 rfl (by decide) k143 f_20 rfl ?_
  refine J_iconst (v := 0) dX1_copy_43 (by decide) ?_
  refine J_iconst (v := 4) dX1_copy_44 (by decide) ?_
  have f_21 : h_1[f + 2]? = some (.inl (1, 4, .inl f2)) := (s_ne e_2 (dj (i := 2) (j := 0) hap (by decide) (by decide))).trans hf2
  have f_22 : h_6[f + 2]? = some (.inl (1, 4, .inl f2)) := (s_ne e_7 (dj (i := 2) (j := 0) hap (by decide) (by decide))).trans f_21
  have f_23 : h_15[f + 2]? = some (.inl (1, 4, .inl f2)) := (s_ne e_16 (dj (i := 2) (j := 1) hap (by decide) (by decide))).trans f_22
  have f_24 : h_1[t + 2]? = some (.inl (1, 4, .inl t2)) := (s_ne e_2 (nq (i := 2) (j := 0) (by decide))).trans ht2
  have f_25 : h_6[t + 2]? = some (.inl (1, 4, .inl t2)) := (s_ne e_7 (nq (i := 2) (j := 0) (by decide))).trans f_24
  have f_26 : h_15[t + 2]? = some (.inl (1, 4, .inl t2)) := (s_ne e_16 (nq (i := 2) (j := 1) (by decide))).trans f_25
  obtain ⟨h_27, e_28⟩ : ∃ z, z = h_15.set (t + 2) (.inl (1, 4, .inl (va_cpy f2 t2 (0 : Int32).toNatClampNeg (0 : Int32).toNatClampNeg (4 : Int32).toNatClampNeg))) := ⟨_, rfl⟩
  refine J_copyi (sp := 0) (dp := 0) (nn := 4) dX1_copy_45 k684 k686 k685 k104 f_23 f_26 (by decide) (by decide) (by decide) (by decide) (by decide) (Nat.le_trans (by decide) hd) (Nat.le_of_ble_eq_true rfl) e_28.symm ?_
  have f_29 := a_set e_28 f_26
  have l_30 := l_set e_28 l_18
  refine J_aload_n (i := 1) (j := 1) dX1_copy_48 rfl rfl ?_
  have f_31 : h_27[f]? = some (.inr (1, [.int pf, .ref (f + 1), .int nf, .ref (f + 2), .ref (f + 3), .ref (f + 4)])) := (s_ne e_28 (dj (i := 0) (j := 2) hap (by decide) (by decide))).trans f_19
  refine J_get (C := RX1) (T := TX1) (Z := 6) (ci := 1) (f := 4) dX1_copy_49 inG1 rfl (by decide) k144 f_31 rfl ?_
  refine J_iconst (v := 0) dX1_copy_52 (by decide) ?_
  refine J_aload_n (i := 0) (j := 0) dX1_copy_53 rfl rfl ?_
  have f_32 : h_27[t]? = some (.inr (1, [.int pf, .ref (t + 1), .int nf, .ref (t + 2), .ref (t + 3), .ref (t + 4)])) := (s_ne e_28 (nq (i := 0) (j := 2) (by decide))).trans f_20
  refine J_get (C := RX1) (T := TX1) (Z := 6) (ci := 1) (f := 4) dX1_copy_54 inG1 rfl (by decide) k144 f_32 rfl ?_
  refine J_iconst (v := 0) dX1_copy_57 (by decide) ?_
  refine J_iconst (v := 4) dX1_copy_58 (by decide) ?_
  have f_33 : h_1[f + 3]? = some (.inl (1, 4, .inl f3)) := (s_ne e_2 (dj (i := 3) (j := 0) hap (by decide) (by decide))).trans hf3
  have f_34 : h_6[f + 3]? = some (.inl (1, 4, .inl f3)) := (s_ne e_7 (dj (i := 3) (j := 0) hap (by decide) (by decide))).trans f_33
  have f_35 : h_15[f + 3]? = some (.inl (1, 4, .inl f3)) := (s_ne e_16 (dj (i := 3) (j := 1) hap (by decide) (by decide))).trans f_34
  have f_36 : h_27[f + 3]? = some (.inl (1, 4, .inl f3)) := (s_ne e_28 (dj (i := 3) (j := 2) hap (by decide) (by decide))).trans f_35
  have f_37 : h_1[t + 3]? = some (.inl (1, 4, .inl t3)) := (s_ne e_2 (nq (i := 3) (j := 0) (by decide))).trans ht3
  have f_38 : h_6[t + 3]? = some (.inl (1, 4, .inl t3)) := (s_ne e_7 (nq (i := 3) (j := 0) (by decide))).trans f_37
  have f_39 : h_15[t + 3]? = some (.inl (1, 4, .inl t3)) := (s_ne e_16 (nq (i := 3) (j := 1) (by decide))).trans f_38
  have f_40 : h_27[t + 3]? = some (.inl (1, 4, .inl t3)) := (s_ne e_28 (nq (i := 3) (j := 2) (by decide))).trans f_39
  obtain ⟨h_41, e_42⟩ : ∃ z, z = h_27.set (t + 3) (.inl (1, 4, .inl (va_cpy f3 t3 (0 : Int32).toNatClampNeg (0 : Int32).toNatClampNeg (4 : Int32).toNatClampNeg))) := ⟨_, rfl⟩
  refine J_copyi (sp := 0) (dp := 0) (nn := 4) dX1_copy_59 k684 k686 k685 k104 f_36 f_40 (by decide) (by decide) (by decide) (by decide) (by decide) (Nat.le_trans (by decide) hd) (Nat.le_of_ble_eq_true rfl) e_42.symm ?_
  have f_43 := a_set e_42 f_40
  have l_44 := l_set e_42 l_30
  refine J_aload_n (i := 1) (j := 1) dX1_copy_62 rfl rfl ?_
  have f_45 : h_41[f]? = some (.inr (1, [.int pf, .ref (f + 1), .int nf, .ref (f + 2), .ref (f + 3), .ref (f + 4)])) := (s_ne e_42 (dj (i := 0) (j := 3) hap (by decide) (by decide))).trans f_31
  refine J_get (C := RX1) (T := TX1) (Z := 6) (ci := 1) (f := 5) dX1_copy_63 inG1 rfl (by decide) k145 f_45 rfl ?_
  refine J_iconst (v := 0) dX1_copy_66 (by decide) ?_
  refine J_aload_n (i := 0) (j := 0) dX1_copy_67 rfl rfl ?_
  have f_46 : h_41[t]? = some (.inr (1, [.int pf, .ref (t + 1), .int nf, .ref (t + 2), .ref (t + 3), .ref (t + 4)])) := (s_ne e_42 (nq (i := 0) (j := 3) (by decide))).trans f_32
  refine J_get (C := RX1) (T := TX1) (Z := 6) (ci := 1) (f := 5) dX1_copy_68 inG1 rfl (by decide) k145 f_46 rfl ?_
  refine J_iconst (v := 0) dX1_copy_71 (by decide) ?_
  refine J_aload_n (i := 0) (j := 0) dX1_copy_72 rfl rfl ?_
  refine J_get (C := RX1) (T := TX1) (Z := 6) (ci := 1) (f := 5) dX1_copy_73 inG1 rfl (by decide) k145 f_46 rfl ?_
  have f_47 : h_1[t + 4]? = some (.inl (1, 3, .inl t4)) := (s_ne e_2 (nq (i := 4) (j := 0) (by decide))).trans ht4
  have f_48 : h_6[t + 4]? = some (.inl (1, 3, .inl t4)) := (s_ne e_7 (nq (i := 4) (j := 0) (by decide))).trans f_47
  have f_49 : h_15[t + 4]? = some (.inl (1, 3, .inl t4)) := (s_ne e_16 (nq (i := 4) (j := 1) (by decide))).trans f_48
  have f_50 : h_27[t + 4]? = some (.inl (1, 3, .inl t4)) := (s_ne e_28 (nq (i := 4) (j := 2) (by decide))).trans f_49
  have f_51 : h_41[t + 4]? = some (.inl (1, 3, .inl t4)) := (s_ne e_42 (nq (i := 4) (j := 3) (by decide))).trans f_50
  refine J_alen dX1_copy_76 f_51 (fun _ => rfl) ?_
  refine J_ci (v := 3) (by decide) ?_
  have f_52 : h_1[f + 4]? = some (.inl (1, 3, .inl f4)) := (s_ne e_2 (dj (i := 4) (j := 0) hap (by decide) (by decide))).trans hf4
  have f_53 : h_6[f + 4]? = some (.inl (1, 3, .inl f4)) := (s_ne e_7 (dj (i := 4) (j := 0) hap (by decide) (by decide))).trans f_52
  have f_54 : h_15[f + 4]? = some (.inl (1, 3, .inl f4)) := (s_ne e_16 (dj (i := 4) (j := 1) hap (by decide) (by decide))).trans f_53
  have f_55 : h_27[f + 4]? = some (.inl (1, 3, .inl f4)) := (s_ne e_28 (dj (i := 4) (j := 2) hap (by decide) (by decide))).trans f_54
  have f_56 : h_41[f + 4]? = some (.inl (1, 3, .inl f4)) := (s_ne e_42 (dj (i := 4) (j := 3) hap (by decide) (by decide))).trans f_55
  obtain ⟨h_57, e_58⟩ : ∃ z, z = h_41.set (t + 4) (.inl (1, 3, .inl (va_cpy f4 t4 (0 : Int32).toNatClampNeg (0 : Int32).toNatClampNeg (3 : Int32).toNatClampNeg))) := ⟨_, rfl⟩
  refine J_copyi (sp := 0) (dp := 0) (nn := 3) dX1_copy_77 k684 k686 k685 k104 f_56 f_51 (by decide) (by decide) (by decide) (by decide) (by decide) (Nat.le_trans (by decide) hd) (Nat.le_of_ble_eq_true rfl) e_58.symm ?_
  have f_59 := a_set e_58 f_51
  have l_60 := l_set e_58 l_44
  exact J_vret hq dX1_copy_80 rfl (hkz l_60) (Nat.le_refl _) (Nat.le_refl _) ⟨rfl, l_60, fun j hj => ((((((s_ne e_58 (by omega))).trans (s_ne e_42 (by omega))).trans (s_ne e_28 (by omega))).trans (s_ne e_16 (by omega))).trans (s_ne e_7 (by omega))).trans (s_ne e_2 (by omega))⟩
set_option maxHeartbeats 4000000 in
set_option maxRecDepth 100000 in
theorem c_X8_copy {d : Nat} {h : List MC} {t f : Nat} {pt pf : Int32} {t1 t2 t3 f1 f2 f3 : Nat → Int32} (hd : 1 ≤ d) (ht0 : h[t]? = some (.inr (8, [.int pt, .ref (t + 1), .ref (t + 2), .ref (t + 3)]))) (ht1 : h[t + 1]? = some (.inl (1, 12, .inl t1))) (ht2 : h[t + 2]? = some (.inl (1, 12, .inl t2))) (ht3 : h[t + 3]? = some (.inl (1, 12, .inl t3))) (hf0 : h[f]? = some (.inr (8, [.int pf, .ref (f + 1), .ref (f + 2), .ref (f + 3)]))) (hf1 : h[f + 1]? = some (.inl (1, 12, .inl f1))) (hf2 : h[f + 2]? = some (.inl (1, 12, .inl f2))) (hf3 : h[f + 3]? = some (.inl (1, 12, .inl f3))) (hap : t + 4 ≤ f ∨ f + 4 ≤ t) : CT con0 d 0 0 yX8_copy cX8_copy 2 none [.ref t, .ref f] h (fun r h2 => r = none ∧ h2.length = h.length ∧ ∀ j, (j < t ∨ t + 4 ≤ j) → h2[j]? = h[j]?) := by
  refine CT_of (by decide) (Nat.le_of_ble_eq_true rfl) (fun x hq => ?_)
  show J x yX8_copy cX8_copy 2 none d 0 0 h.length 0 [(0, .ref t), (1, .ref f)] [] h 0 0
  refine J_aload_n (i := 0) (j := 0) dX8_copy_0 rfl rfl ?_
  refine J_aload_n (i := 1) (j := 1) dX8_copy_1 rfl rfl ?_
  refine J_get (C := RX8) (T := TX8) (Z := 4) (ci := 8) (f := 0) dX8_copy_2 inG8 rfl (by decide) k168 hf0 rfl ?_
  obtain ⟨h_1, e_2⟩ : ∃ z, z = h.set t (.inr (8, [.int pf, .ref (t + 1), .ref (t + 2), .ref (t + 3)])) := ⟨_, rfl⟩
  refine J_put (C := RX8) (T := TX8) (Z := 4) (ci := 8) (f := 0) (ty0 := tyX8) dX8_copy_5 inG8 rfl tyX8_ok nmX8 (by decide) k168 rfl rfl ht0 (Nat.le_of_ble_eq_true rfl) (fun _ _ => ⟨rfl, rfl⟩) e_2.symm ?_
  have f_3 := a_set e_2 ht0
  have l_4 := l_set e_2 rfl
  refine J_aload_n (i := 1) (j := 1) dX8_copy_8 rfl rfl ?_
  have f_5 : h_1[f]? = some (.inr (8, [.int pf, .ref (f + 1), .ref (f + 2), .ref (f + 3)])) := (s_ne e_2 (dj (i := 0) (j := 0) hap (by decide) (by decide))).trans hf0
  refine J_get (C := RX8) (T := TX8) (Z := 4) (ci := 8) (f := 1) dX8_copy_9 inG8 rfl (by decide) k171 f_5 rfl ?_
  refine J_iconst (v := 0) dX8_copy_12 (by decide) ?_
  refine J_aload_n (i := 0) (j := 0) dX8_copy_13 rfl rfl ?_
  refine J_get (C := RX8) (T := TX8) (Z := 4) (ci := 8) (f := 1) dX8_copy_14 inG8 rfl (by decide) k171 f_3 rfl ?_
  refine J_iconst (v := 0) dX8_copy_17 (by decide) ?_
  refine J_bipush (v := 12) dX8_copy_18 (by decide) ?_
  have f_6 : h_1[f + 1]? = some (.inl (1, 12, .inl f1)) := (s_ne e_2 (dj (i := 1) (j := 0) hap (by decide) (by decide))).trans hf1
  have f_7 : h_1[t + 1]? = some (.inl (1, 12, .inl t1)) := (s_ne e_2 (nq (i := 1) (j := 0) (by decide))).trans ht1
  obtain ⟨h_8, e_9⟩ : ∃ z, z = h_1.set (t + 1) (.inl (1, 12, .inl (va_cpy f1 t1 (0 : Int32).toNatClampNeg (0 : Int32).toNatClampNeg (12 : Int32).toNatClampNeg))) := ⟨_, rfl⟩
  refine J_copyi (sp := 0) (dp := 0) (nn := 12) dX8_copy_20 k694 k686 k685 k104 f_6 f_7 (by decide) (by decide) (by decide) (by decide) (by decide) (Nat.le_trans (by decide) hd) (Nat.le_of_ble_eq_true rfl) e_9.symm ?_
  have f_10 := a_set e_9 f_7
  have l_11 := l_set e_9 l_4
  refine J_aload_n (i := 1) (j := 1) dX8_copy_23 rfl rfl ?_
  have f_12 : h_8[f]? = some (.inr (8, [.int pf, .ref (f + 1), .ref (f + 2), .ref (f + 3)])) := (s_ne e_9 (dj (i := 0) (j := 1) hap (by decide) (by decide))).trans f_5
  refine J_get (C := RX8) (T := TX8) (Z := 4) (ci := 8) (f := 2) dX8_copy_24 inG8 rfl (by decide) k173 f_12 rfl ?_
  refine J_iconst (v := 0) dX8_copy_27 (by decide) ?_
  refine J_aload_n (i := 0) (j := 0) dX8_copy_28 rfl rfl ?_
  have f_13 : h_8[t]? = some (.inr (8, [.int pf, .ref (t + 1), .ref (t + 2), .ref (t + 3)])) := (s_ne e_9 (nq (i := 0) (j := 1) (by decide))).trans f_3
  refine J_get (C := RX8) (T := TX8) (Z := 4) (ci := 8) (f := 2) dX8_copy_29 inG8 rfl (by decide) k173 f_13 rfl ?_
  refine J_iconst (v := 0) dX8_copy_32 (by decide) ?_
  refine J_bipush (v := 12) dX8_copy_33 (by decide) ?_
  have f_14 : h_1[f + 2]? = some (.inl (1, 12, .inl f2)) := (s_ne e_2 (dj (i := 2) (j := 0) hap (by decide) (by decide))).trans hf2
  have f_15 : h_8[f + 2]? = some (.inl (1, 12, .inl f2)) := (s_ne e_9 (dj (i := 2) (j := 1) hap (by decide) (by decide))).trans f_14
  have f_16 : h_1[t + 2]? = some (.inl (1, 12, .inl t2)) := (s_ne e_2 (nq (i := 2) (j := 0) (by decide))).trans ht2
  have f_17 : h_8[t + 2]? = some (.inl (1, 12, .inl t2)) := (s_ne e_9 (nq (i := 2) (j := 1) (by decide))).trans f_16
  obtain ⟨h_18, e_19⟩ : ∃ z, z = h_8.set (t + 2) (.inl (1, 12, .inl (va_cpy f2 t2 (0 : Int32).toNatClampNeg (0 : Int32).toNatClampNeg (12 : Int32).toNatClampNeg))) := ⟨_, rfl⟩
  refine J_copyi (sp := 0) (dp := 0) (nn := 12) dX8_copy_35 k694 k686 k685 k104 f_15 f_17 (by decide) (by decide) (by decide) (by decide) (by decide) (Nat.le_trans (by decide) hd) (Nat.le_of_ble_eq_true rfl) e_19.symm ?_
  have f_20 := a_set e_19 f_17
  have l_21 := l_set e_19 l_11
  refine J_aload_n (i := 1) (j := 1) dX8_copy_38 rfl rfl ?_
  have f_22 : h_18[f]? = some (.inr (8, [.int pf, .ref (f + 1), .ref (f + 2), .ref (f + 3)])) := (s_ne e_19 (dj (i := 0) (j := 2) hap (by decide) (by decide))).trans f_12
  refine J_get (C := RX8) (T := TX8) (Z := 4) (ci := 8) (f := 3) dX8_copy_39 inG8 rfl (by decide) k175 f_22 rfl ?_
  refine J_iconst (v := 0) dX8_copy_42 (by decide) ?_
  refine J_aload_n (i := 0) (j := 0) dX8_copy_43 rfl rfl ?_
  have f_23 : h_18[t]? = some (.inr (8, [.int pf, .ref (t + 1), .ref (t + 2), .ref (t + 3)])) := (s_ne e_19 (nq (i := 0) (j := 2) (by decide))).trans f_13
  refine J_get (C := RX8) (T := TX8) (Z := 4) (ci := 8) (f := 3) dX8_copy_44 inG8 rfl (by decide) k175 f_23 rfl ?_
  refine J_iconst (v := 0) dX8_copy_47 (by decide) ?_
  refine J_bipush (v := 12) dX8_copy_48 (by decide) ?_
  have f_24 : h_1[f + 3]? = some (.inl (1, 12, .inl f3)) := (s_ne e_2 (dj (i := 3) (j := 0) hap (by decide) (by decide))).trans hf3
  have f_25 : h_8[f + 3]? = some (.inl (1, 12, .inl f3)) := (s_ne e_9 (dj (i := 3) (j := 1) hap (by decide) (by decide))).trans f_24
  have f_26 : h_18[f + 3]? = some (.inl (1, 12, .inl f3)) := (s_ne e_19 (dj (i := 3) (j := 2) hap (by decide) (by decide))).trans f_25
  have f_27 : h_1[t + 3]? = some (.inl (1, 12, .inl t3)) := (s_ne e_2 (nq (i := 3) (j := 0) (by decide))).trans ht3
  have f_28 : h_8[t + 3]? = some (.inl (1, 12, .inl t3)) := (s_ne e_9 (nq (i := 3) (j := 1) (by decide))).trans f_27
  have f_29 : h_18[t + 3]? = some (.inl (1, 12, .inl t3)) := (s_ne e_19 (nq (i := 3) (j := 2) (by decide))).trans f_28
  obtain ⟨h_30, e_31⟩ : ∃ z, z = h_18.set (t + 3) (.inl (1, 12, .inl (va_cpy f3 t3 (0 : Int32).toNatClampNeg (0 : Int32).toNatClampNeg (12 : Int32).toNatClampNeg))) := ⟨_, rfl⟩
  refine J_copyi (sp := 0) (dp := 0) (nn := 12) dX8_copy_50 k694 k686 k685 k104 f_26 f_29 (by decide) (by decide) (by decide) (by decide) (by decide) (Nat.le_trans (by decide) hd) (Nat.le_of_ble_eq_true rfl) e_31.symm ?_
  have f_32 := a_set e_31 f_29
  have l_33 := l_set e_31 l_21
  exact J_vret hq dX8_copy_53 rfl (hkz l_33) (Nat.le_refl _) (Nat.le_refl _) ⟨rfl, l_33, fun j hj => ((((s_ne e_31 (by omega))).trans (s_ne e_19 (by omega))).trans (s_ne e_9 (by omega))).trans (s_ne e_2 (by omega))⟩
set_option maxHeartbeats 4000000 in
set_option maxRecDepth 100000 in
theorem c_X7_copy {d : Nat} {h : List MC} {t f : Nat} {ul uu up uh uw uap uan ubp ubn uxp uyp uzp : Int32} {uT ua1 ua2 ua3 ua4 ub1 ub2 ub3 ub4 ux1 ux2 ux3 uy1 uy2 uy3 uz1 uz2 uz3 : Nat → Int32} {vl vu vp vh vw vap van vbp vbn vxp vyp vzp : Int32} {vT va1 va2 va3 va4 vb1 vb2 vb3 vb4 vx1 vx2 vx3 vy1 vy2 vy3 vz1 vz2 vz3 : Nat → Int32} (hd : 2 ≤ d) (hu : h[t]? = some (.inr (7, [.ref (t + 1), .int ul, .int uu, .int up, .ref (t + 2), .int uh, .ref (t + 3), .int uw]))) (huT : h[t + 1]? = some (.inl (0, 600, .inl uT))) (huH : h[t + 2]? = some (.inl (4, 2, .inr (.inr (va_up (va_up (fun _ => none) ((0 : Int32).toNatClampNeg) (some (t + 4))) ((1 : Int32).toNatClampNeg) (some (t + 9))))))) (huW : h[t + 3]? = some (.inl (6, 3, .inr (.inr (va_up (va_up (va_up (fun _ => none) ((0 : Int32).toNatClampNeg) (some (t + 14))) ((1 : Int32).toNatClampNeg) (some (t + 18))) ((2 : Int32).toNatClampNeg) (some (t + 22))))))) (hua0 : h[t + 4]? = some (.inr (1, [.int uap, .ref (t + 5), .int uan, .ref (t + 6), .ref (t + 7), .ref (t + 8)]))) (hua1 : h[t + 5]? = some (.inl (1, 144, .inl ua1))) (hua2 : h[t + 6]? = some (.inl (1, 4, .inl ua2))) (hua3 : h[t + 7]? = some (.inl (1, 4, .inl ua3))) (hua4 : h[t + 8]? = some (.inl (1, 3, .inl ua4))) (hub0 : h[t + 9]? = some (.inr (1, [.int ubp, .ref (t + 10), .int ubn, .ref (t + 11), .ref (t + 12), .ref (t + 13)]))) (hub1 : h[t + 10]? = some (.inl (1, 144, .inl ub1))) (hub2 : h[t + 11]? = some (.inl (1, 4, .inl ub2))) (hub3 : h[t + 12]? = some (.inl (1, 4, .inl ub3))) (hub4 : h[t + 13]? = some (.inl (1, 3, .inl ub4))) (hux0 : h[t + 14]? = some (.inr (8, [.int uxp, .ref (t + 15), .ref (t + 16), .ref (t + 17)]))) (hux1 : h[t + 15]? = some (.inl (1, 12, .inl ux1))) (hux2 : h[t + 16]? = some (.inl (1, 12, .inl ux2))) (hux3 : h[t + 17]? = some (.inl (1, 12, .inl ux3))) (huy0 : h[t + 18]? = some (.inr (8, [.int uyp, .ref (t + 19), .ref (t + 20), .ref (t + 21)]))) (huy1 : h[t + 19]? = some (.inl (1, 12, .inl uy1))) (huy2 : h[t + 20]? = some (.inl (1, 12, .inl uy2))) (huy3 : h[t + 21]? = some (.inl (1, 12, .inl uy3))) (huz0 : h[t + 22]? = some (.inr (8, [.int uzp, .ref (t + 23), .ref (t + 24), .ref (t + 25)]))) (huz1 : h[t + 23]? = some (.inl (1, 12, .inl uz1))) (huz2 : h[t + 24]? = some (.inl (1, 12, .inl uz2))) (huz3 : h[t + 25]? = some (.inl (1, 12, .inl uz3))) (hv : h[f]? = some (.inr (7, [.ref (f + 1), .int vl, .int vu, .int vp, .ref (f + 2), .int vh, .ref (f + 3), .int vw]))) (hvT : h[f + 1]? = some (.inl (0, 600, .inl vT))) (hvH : h[f + 2]? = some (.inl (4, 2, .inr (.inr (va_up (va_up (fun _ => none) ((0 : Int32).toNatClampNeg) (some (f + 4))) ((1 : Int32).toNatClampNeg) (some (f + 9))))))) (hvW : h[f + 3]? = some (.inl (6, 3, .inr (.inr (va_up (va_up (va_up (fun _ => none) ((0 : Int32).toNatClampNeg) (some (f + 14))) ((1 : Int32).toNatClampNeg) (some (f + 18))) ((2 : Int32).toNatClampNeg) (some (f + 22))))))) (hva0 : h[f + 4]? = some (.inr (1, [.int vap, .ref (f + 5), .int van, .ref (f + 6), .ref (f + 7), .ref (f + 8)]))) (hva1 : h[f + 5]? = some (.inl (1, 144, .inl va1))) (hva2 : h[f + 6]? = some (.inl (1, 4, .inl va2))) (hva3 : h[f + 7]? = some (.inl (1, 4, .inl va3))) (hva4 : h[f + 8]? = some (.inl (1, 3, .inl va4))) (hvb0 : h[f + 9]? = some (.inr (1, [.int vbp, .ref (f + 10), .int vbn, .ref (f + 11), .ref (f + 12), .ref (f + 13)]))) (hvb1 : h[f + 10]? = some (.inl (1, 144, .inl vb1))) (hvb2 : h[f + 11]? = some (.inl (1, 4, .inl vb2))) (hvb3 : h[f + 12]? = some (.inl (1, 4, .inl vb3))) (hvb4 : h[f + 13]? = some (.inl (1, 3, .inl vb4))) (hvx0 : h[f + 14]? = some (.inr (8, [.int vxp, .ref (f + 15), .ref (f + 16), .ref (f + 17)]))) (hvx1 : h[f + 15]? = some (.inl (1, 12, .inl vx1))) (hvx2 : h[f + 16]? = some (.inl (1, 12, .inl vx2))) (hvx3 : h[f + 17]? = some (.inl (1, 12, .inl vx3))) (hvy0 : h[f + 18]? = some (.inr (8, [.int vyp, .ref (f + 19), .ref (f + 20), .ref (f + 21)]))) (hvy1 : h[f + 19]? = some (.inl (1, 12, .inl vy1))) (hvy2 : h[f + 20]? = some (.inl (1, 12, .inl vy2))) (hvy3 : h[f + 21]? = some (.inl (1, 12, .inl vy3))) (hvz0 : h[f + 22]? = some (.inr (8, [.int vzp, .ref (f + 23), .ref (f + 24), .ref (f + 25)]))) (hvz1 : h[f + 23]? = some (.inl (1, 12, .inl vz1))) (hvz2 : h[f + 24]? = some (.inl (1, 12, .inl vz2))) (hvz3 : h[f + 25]? = some (.inl (1, 12, .inl vz3))) (hap : t + 26 ≤ f ∨ f + 26 ≤ t) (hfit : ∀ i, i < 600 → fits .byte (.int (vT i)) = true) : CT con0 d 0 0 yX7_copy cX7_copy 3 none [.ref t, .ref f] h (fun r h2 => r = none ∧ h2.length = h.length ∧ ∀ j, (j < t ∨ t + 26 ≤ j) → h2[j]? = h[j]?) := by
  refine CT_of (by decide) (Nat.le_of_ble_eq_true rfl) (fun x hq => ?_)
  show J x yX7_copy cX7_copy 3 none d 0 0 h.length 0 [(0, .ref t), (1, .ref f)] [] h 0 0
  refine J_aload_n (i := 1) (j := 1) dX7_copy_0 rfl rfl ?_
  refine J_get (C := RX7) (T := TX7) (Z := 8) (ci := 7) (f := 0) dX7_copy_1 inG7 rfl (by decide) k186 hv rfl ?_
  refine J_iconst (v := 0) dX7_copy_4 (by decide) ?_
  refine J_aload_n (i := 0) (j := 0) dX7_copy_5 rfl rfl ?_
  refine J_get (C := RX7) (T := TX7) (Z := 8) (ci := 7) (f := 0) dX7_copy_6 inG7 rfl (by decide) k186 hu rfl ?_
  refine J_iconst (v := 0) dX7_copy_9 (by decide) ?_
  refine J_sipush (v := 600) dX7_copy_10 (by decide) ?_
  obtain ⟨h_1, e_2⟩ : ∃ z, z = h.set (t + 1) (.inl (0, 600, .inl (va_cpy vT uT (0 : Int32).toNatClampNeg (0 : Int32).toNatClampNeg (600 : Int32).toNatClampNeg))) := ⟨_, rfl⟩
  refine J_copyb (sp := 0) (dp := 0) (nn := 600) dX7_copy_13 k1253 k686 k685 k104 hvT huT (by decide) (by decide) (by decide) (by decide) (by decide) (fun i hi => by rw [show (0 : Int32).toNatClampNeg + i = i from Nat.zero_add i]; exact hfit i hi) (Nat.le_trans (by decide) hd) (Nat.le_of_ble_eq_true rfl) e_2.symm ?_
  have f_3 := a_set e_2 huT
  have l_4 := l_set e_2 rfl
  refine J_aload_n (i := 0) (j := 0) dX7_copy_16 rfl rfl ?_
  refine J_aload_n (i := 1) (j := 1) dX7_copy_17 rfl rfl ?_
  have f_5 : h_1[f]? = some (.inr (7, [.ref (f + 1), .int vl, .int vu, .int vp, .ref (f + 2), .int vh, .ref (f + 3), .int vw])) := (s_ne e_2 (dj (i := 0) (j := 1) hap (by decide) (by decide))).trans hv
  refine J_get (C := RX7) (T := TX7) (Z := 8) (ci := 7) (f := 1) dX7_copy_18 inG7 rfl (by decide) k188 f_5 rfl ?_
  have f_6 : h_1[t]? = some (.inr (7, [.ref (t + 1), .int ul, .int uu, .int up, .ref (t + 2), .int uh, .ref (t + 3), .int uw])) := (s_ne e_2 (nq (i := 0) (j := 1) (by decide))).trans hu
  obtain ⟨h_7, e_8⟩ : ∃ z, z = h_1.set t (.inr (7, [.ref (t + 1), .int vl, .int uu, .int up, .ref (t + 2), .int uh, .ref (t + 3), .int uw])) := ⟨_, rfl⟩
  refine J_put (C := RX7) (T := TX7) (Z := 8) (ci := 7) (f := 1) (ty0 := tyX7) dX7_copy_21 inG7 rfl tyX7_ok nmX7 (by decide) k188 rfl rfl f_6 (Nat.le_of_ble_eq_true rfl) (fun _ _ => ⟨rfl, rfl⟩) e_8.symm ?_
  have f_9 := a_set e_8 f_6
  have l_10 := l_set e_8 l_4
  refine J_aload_n (i := 0) (j := 0) dX7_copy_24 rfl rfl ?_
  refine J_aload_n (i := 1) (j := 1) dX7_copy_25 rfl rfl ?_
  have f_11 : h_7[f]? = some (.inr (7, [.ref (f + 1), .int vl, .int vu, .int vp, .ref (f + 2), .int vh, .ref (f + 3), .int vw])) := (s_ne e_8 (dj (i := 0) (j := 0) hap (by decide) (by decide))).trans f_5
  refine J_get (C := RX7) (T := TX7) (Z := 8) (ci := 7) (f := 2) dX7_copy_26 inG7 rfl (by decide) k190 f_11 rfl ?_
  obtain ⟨h_12, e_13⟩ : ∃ z, z = h_7.set t (.inr (7, [.ref (t + 1), .int vl, .int vu, .int up, .ref (t + 2), .int uh, .ref (t + 3), .int uw])) := ⟨_, rfl⟩
  refine J_put (C := RX7) (T := TX7) (Z := 8) (ci := 7) (f := 2) (ty0 := tyX7) dX7_copy_29 inG7 rfl tyX7_ok nmX7 (by decide) k190 rfl rfl f_9 (Nat.le_of_ble_eq_true rfl) (fun _ _ => ⟨rfl, rfl⟩) e_13.symm ?_
  have f_14 := a_set e_13 f_9
  have l_15 := l_set e_13 l_10
  refine J_aload_n (i := 0) (j := 0) dX7_copy_32 rfl rfl ?_
  refine J_aload_n (i := 1) (j := 1) dX7_copy_33 rfl rfl ?_
  have f_16 : h_12[f]? = some (.inr (7, [.ref (f + 1), .int vl, .int vu, .int vp, .ref (f + 2), .int vh, .ref (f + 3), .int vw])) := (s_ne e_13 (dj (i := 0) (j := 0) hap (by decide) (by decide))).trans f_11
  refine J_get (C := RX7) (T := TX7) (Z := 8) (ci := 7) (f := 3) dX7_copy_34 inG7 rfl (by decide) k192 f_16 rfl ?_
  obtain ⟨h_17, e_18⟩ : ∃ z, z = h_12.set t (.inr (7, [.ref (t + 1), .int vl, .int vu, .int vp, .ref (t + 2), .int uh, .ref (t + 3), .int uw])) := ⟨_, rfl⟩
  refine J_put (C := RX7) (T := TX7) (Z := 8) (ci := 7) (f := 3) (ty0 := tyX7) dX7_copy_37 inG7 rfl tyX7_ok nmX7 (by decide) k192 rfl rfl f_14 (Nat.le_of_ble_eq_true rfl) (fun _ _ => ⟨rfl, rfl⟩) e_18.symm ?_
  have f_19 := a_set e_18 f_14
  have l_20 := l_set e_18 l_15
  refine J_aload_n (i := 0) (j := 0) dX7_copy_40 rfl rfl ?_
  refine J_aload_n (i := 1) (j := 1) dX7_copy_41 rfl rfl ?_
  have f_21 : h_17[f]? = some (.inr (7, [.ref (f + 1), .int vl, .int vu, .int vp, .ref (f + 2), .int vh, .ref (f + 3), .int vw])) := (s_ne e_18 (dj (i := 0) (j := 0) hap (by decide) (by decide))).trans f_16
  refine J_get (C := RX7) (T := TX7) (Z := 8) (ci := 7) (f := 5) dX7_copy_42 inG7 rfl (by decide) k196 f_21 rfl ?_
  obtain ⟨h_22, e_23⟩ : ∃ z, z = h_17.set t (.inr (7, [.ref (t + 1), .int vl, .int vu, .int vp, .ref (t + 2), .int vh, .ref (t + 3), .int uw])) := ⟨_, rfl⟩
  refine J_put (C := RX7) (T := TX7) (Z := 8) (ci := 7) (f := 5) (ty0 := tyX7) dX7_copy_45 inG7 rfl tyX7_ok nmX7 (by decide) k196 rfl rfl f_19 (Nat.le_of_ble_eq_true rfl) (fun _ _ => ⟨rfl, rfl⟩) e_23.symm ?_
  have f_24 := a_set e_23 f_19
  have l_25 := l_set e_23 l_20
  refine J_aload_n (i := 0) (j := 0) dX7_copy_48 rfl rfl ?_
  refine J_aload_n (i := 1) (j := 1) dX7_copy_49 rfl rfl ?_
  have f_26 : h_22[f]? = some (.inr (7, [.ref (f + 1), .int vl, .int vu, .int vp, .ref (f + 2), .int vh, .ref (f + 3), .int vw])) := (s_ne e_23 (dj (i := 0) (j := 0) hap (by decide) (by decide))).trans f_21
  refine J_get (C := RX7) (T := TX7) (Z := 8) (ci := 7) (f := 7) dX7_copy_50 inG7 rfl (by decide) k200 f_26 rfl ?_
  obtain ⟨h_27, e_28⟩ : ∃ z, z = h_22.set t (.inr (7, [.ref (t + 1), .int vl, .int vu, .int vp, .ref (t + 2), .int vh, .ref (t + 3), .int vw])) := ⟨_, rfl⟩
  refine J_put (C := RX7) (T := TX7) (Z := 8) (ci := 7) (f := 7) (ty0 := tyX7) dX7_copy_53 inG7 rfl tyX7_ok nmX7 (by decide) k200 rfl rfl f_24 (Nat.le_of_ble_eq_true rfl) (fun _ _ => ⟨rfl, rfl⟩) e_28.symm ?_
  have f_29 := a_set e_28 f_24
  have l_30 := l_set e_28 l_25
  refine J_iconst (v := 0) dX7_copy_56 (by decide) ?_
  refine J_istore_n (i := 2) (lw := [(2, .int 0), (0, .ref t), (1, .ref f)]) dX7_copy_57 rfl (by decide) rfl ?_
  refine J_iload_n (i := 2) (j := 0) dX7_copy_58 rfl rfl ?_
  refine J_iconst (v := 2) dX7_copy_59 (by decide) ?_
  refine J_icmp_ge (tgt := 84) dX7_copy_60 (by decide) (fun q => absurd q (by decide)) (fun _ => ?_)
  refine J_aload_n (i := 0) (j := 1) dX7_copy_63 rfl rfl ?_
  refine J_get (C := RX7) (T := TX7) (Z := 8) (ci := 7) (f := 4) dX7_copy_64 inG7 rfl (by decide) k194 f_29 rfl ?_
  refine J_iload_n (i := 2) (j := 0) dX7_copy_67 rfl rfl ?_
  have f_31 : h_1[t + 2]? = some (.inl (4, 2, .inr (.inr (va_up (va_up (fun _ => none) ((0 : Int32).toNatClampNeg) (some (t + 4))) ((1 : Int32).toNatClampNeg) (some (t + 9)))))) := (s_ne e_2 (nq (i := 2) (j := 1) (by decide))).trans huH
  have f_32 : h_7[t + 2]? = some (.inl (4, 2, .inr (.inr (va_up (va_up (fun _ => none) ((0 : Int32).toNatClampNeg) (some (t + 4))) ((1 : Int32).toNatClampNeg) (some (t + 9)))))) := (s_ne e_8 (nq (i := 2) (j := 0) (by decide))).trans f_31
  have f_33 : h_12[t + 2]? = some (.inl (4, 2, .inr (.inr (va_up (va_up (fun _ => none) ((0 : Int32).toNatClampNeg) (some (t + 4))) ((1 : Int32).toNatClampNeg) (some (t + 9)))))) := (s_ne e_13 (nq (i := 2) (j := 0) (by decide))).trans f_32
  have f_34 : h_17[t + 2]? = some (.inl (4, 2, .inr (.inr (va_up (va_up (fun _ => none) ((0 : Int32).toNatClampNeg) (some (t + 4))) ((1 : Int32).toNatClampNeg) (some (t + 9)))))) := (s_ne e_18 (nq (i := 2) (j := 0) (by decide))).trans f_33
  have f_35 : h_22[t + 2]? = some (.inl (4, 2, .inr (.inr (va_up (va_up (fun _ => none) ((0 : Int32).toNatClampNeg) (some (t + 4))) ((1 : Int32).toNatClampNeg) (some (t + 9)))))) := (s_ne e_23 (nq (i := 2) (j := 0) (by decide))).trans f_34
  have f_36 : h_27[t + 2]? = some (.inl (4, 2, .inr (.inr (va_up (va_up (fun _ => none) ((0 : Int32).toNatClampNeg) (some (t + 4))) ((1 : Int32).toNatClampNeg) (some (t + 9)))))) := (s_ne e_28 (nq (i := 2) (j := 0) (by decide))).trans f_35
  refine J_aald (q := (t + 4)) dX7_copy_68 f_36 (fun _ => rfl) (vp_c (by decide)) rfl ?_
  refine J_aload_n (i := 1) (j := 2) dX7_copy_69 rfl rfl ?_
  have f_37 : h_27[f]? = some (.inr (7, [.ref (f + 1), .int vl, .int vu, .int vp, .ref (f + 2), .int vh, .ref (f + 3), .int vw])) := (s_ne e_28 (dj (i := 0) (j := 0) hap (by decide) (by decide))).trans f_26
  refine J_get (C := RX7) (T := TX7) (Z := 8) (ci := 7) (f := 4) dX7_copy_70 inG7 rfl (by decide) k194 f_37 rfl ?_
  refine J_iload_n (i := 2) (j := 0) dX7_copy_73 rfl rfl ?_
  have f_38 : h_1[f + 2]? = some (.inl (4, 2, .inr (.inr (va_up (va_up (fun _ => none) ((0 : Int32).toNatClampNeg) (some (f + 4))) ((1 : Int32).toNatClampNeg) (some (f + 9)))))) := (s_ne e_2 (dj (i := 2) (j := 1) hap (by decide) (by decide))).trans hvH
  have f_39 : h_7[f + 2]? = some (.inl (4, 2, .inr (.inr (va_up (va_up (fun _ => none) ((0 : Int32).toNatClampNeg) (some (f + 4))) ((1 : Int32).toNatClampNeg) (some (f + 9)))))) := (s_ne e_8 (dj (i := 2) (j := 0) hap (by decide) (by decide))).trans f_38
  have f_40 : h_12[f + 2]? = some (.inl (4, 2, .inr (.inr (va_up (va_up (fun _ => none) ((0 : Int32).toNatClampNeg) (some (f + 4))) ((1 : Int32).toNatClampNeg) (some (f + 9)))))) := (s_ne e_13 (dj (i := 2) (j := 0) hap (by decide) (by decide))).trans f_39
  have f_41 : h_17[f + 2]? = some (.inl (4, 2, .inr (.inr (va_up (va_up (fun _ => none) ((0 : Int32).toNatClampNeg) (some (f + 4))) ((1 : Int32).toNatClampNeg) (some (f + 9)))))) := (s_ne e_18 (dj (i := 2) (j := 0) hap (by decide) (by decide))).trans f_40
  have f_42 : h_22[f + 2]? = some (.inl (4, 2, .inr (.inr (va_up (va_up (fun _ => none) ((0 : Int32).toNatClampNeg) (some (f + 4))) ((1 : Int32).toNatClampNeg) (some (f + 9)))))) := (s_ne e_23 (dj (i := 2) (j := 0) hap (by decide) (by decide))).trans f_41
  have f_43 : h_27[f + 2]? = some (.inl (4, 2, .inr (.inr (va_up (va_up (fun _ => none) ((0 : Int32).toNatClampNeg) (some (f + 4))) ((1 : Int32).toNatClampNeg) (some (f + 9)))))) := (s_ne e_28 (dj (i := 2) (j := 0) hap (by decide) (by decide))).trans f_42
  refine J_aald (q := (f + 4)) dX7_copy_74 f_43 (fun _ => rfl) (vp_c (by decide)) rfl ?_
  have f_44 : h_1[t + 4]? = some (.inr (1, [.int uap, .ref (t + 5), .int uan, .ref (t + 6), .ref (t + 7), .ref (t + 8)])) := (s_ne e_2 (nq (i := 4) (j := 1) (by decide))).trans hua0
  have f_45 : h_7[t + 4]? = some (.inr (1, [.int uap, .ref (t + 5), .int uan, .ref (t + 6), .ref (t + 7), .ref (t + 8)])) := (s_ne e_8 (nq (i := 4) (j := 0) (by decide))).trans f_44
  have f_46 : h_12[t + 4]? = some (.inr (1, [.int uap, .ref (t + 5), .int uan, .ref (t + 6), .ref (t + 7), .ref (t + 8)])) := (s_ne e_13 (nq (i := 4) (j := 0) (by decide))).trans f_45
  have f_47 : h_17[t + 4]? = some (.inr (1, [.int uap, .ref (t + 5), .int uan, .ref (t + 6), .ref (t + 7), .ref (t + 8)])) := (s_ne e_18 (nq (i := 4) (j := 0) (by decide))).trans f_46
  have f_48 : h_22[t + 4]? = some (.inr (1, [.int uap, .ref (t + 5), .int uan, .ref (t + 6), .ref (t + 7), .ref (t + 8)])) := (s_ne e_23 (nq (i := 4) (j := 0) (by decide))).trans f_47
  have f_49 : h_27[t + 4]? = some (.inr (1, [.int uap, .ref (t + 5), .int uan, .ref (t + 6), .ref (t + 7), .ref (t + 8)])) := (s_ne e_28 (nq (i := 4) (j := 0) (by decide))).trans f_48
  have f_50 : h_1[t + 5]? = some (.inl (1, 144, .inl ua1)) := (s_ne e_2 (nq (i := 5) (j := 1) (by decide))).trans hua1
  have f_51 : h_7[t + 5]? = some (.inl (1, 144, .inl ua1)) := (s_ne e_8 (nq (i := 5) (j := 0) (by decide))).trans f_50
  have f_52 : h_12[t + 5]? = some (.inl (1, 144, .inl ua1)) := (s_ne e_13 (nq (i := 5) (j := 0) (by decide))).trans f_51
  have f_53 : h_17[t + 5]? = some (.inl (1, 144, .inl ua1)) := (s_ne e_18 (nq (i := 5) (j := 0) (by decide))).trans f_52
  have f_54 : h_22[t + 5]? = some (.inl (1, 144, .inl ua1)) := (s_ne e_23 (nq (i := 5) (j := 0) (by decide))).trans f_53
  have f_55 : h_27[t + 5]? = some (.inl (1, 144, .inl ua1)) := (s_ne e_28 (nq (i := 5) (j := 0) (by decide))).trans f_54
  have f_56 : h_1[t + 6]? = some (.inl (1, 4, .inl ua2)) := (s_ne e_2 (nq (i := 6) (j := 1) (by decide))).trans hua2
  have f_57 : h_7[t + 6]? = some (.inl (1, 4, .inl ua2)) := (s_ne e_8 (nq (i := 6) (j := 0) (by decide))).trans f_56
  have f_58 : h_12[t + 6]? = some (.inl (1, 4, .inl ua2)) := (s_ne e_13 (nq (i := 6) (j := 0) (by decide))).trans f_57
  have f_59 : h_17[t + 6]? = some (.inl (1, 4, .inl ua2)) := (s_ne e_18 (nq (i := 6) (j := 0) (by decide))).trans f_58
  have f_60 : h_22[t + 6]? = some (.inl (1, 4, .inl ua2)) := (s_ne e_23 (nq (i := 6) (j := 0) (by decide))).trans f_59
  have f_61 : h_27[t + 6]? = some (.inl (1, 4, .inl ua2)) := (s_ne e_28 (nq (i := 6) (j := 0) (by decide))).trans f_60
  have f_62 : h_1[t + 7]? = some (.inl (1, 4, .inl ua3)) := (s_ne e_2 (nq (i := 7) (j := 1) (by decide))).trans hua3
  have f_63 : h_7[t + 7]? = some (.inl (1, 4, .inl ua3)) := (s_ne e_8 (nq (i := 7) (j := 0) (by decide))).trans f_62
  have f_64 : h_12[t + 7]? = some (.inl (1, 4, .inl ua3)) := (s_ne e_13 (nq (i := 7) (j := 0) (by decide))).trans f_63
  have f_65 : h_17[t + 7]? = some (.inl (1, 4, .inl ua3)) := (s_ne e_18 (nq (i := 7) (j := 0) (by decide))).trans f_64
  have f_66 : h_22[t + 7]? = some (.inl (1, 4, .inl ua3)) := (s_ne e_23 (nq (i := 7) (j := 0) (by decide))).trans f_65
  have f_67 : h_27[t + 7]? = some (.inl (1, 4, .inl ua3)) := (s_ne e_28 (nq (i := 7) (j := 0) (by decide))).trans f_66
  have f_68 : h_1[t + 8]? = some (.inl (1, 3, .inl ua4)) := (s_ne e_2 (nq (i := 8) (j := 1) (by decide))).trans hua4
  have f_69 : h_7[t + 8]? = some (.inl (1, 3, .inl ua4)) := (s_ne e_8 (nq (i := 8) (j := 0) (by decide))).trans f_68
  have f_70 : h_12[t + 8]? = some (.inl (1, 3, .inl ua4)) := (s_ne e_13 (nq (i := 8) (j := 0) (by decide))).trans f_69
  have f_71 : h_17[t + 8]? = some (.inl (1, 3, .inl ua4)) := (s_ne e_18 (nq (i := 8) (j := 0) (by decide))).trans f_70
  have f_72 : h_22[t + 8]? = some (.inl (1, 3, .inl ua4)) := (s_ne e_23 (nq (i := 8) (j := 0) (by decide))).trans f_71
  have f_73 : h_27[t + 8]? = some (.inl (1, 3, .inl ua4)) := (s_ne e_28 (nq (i := 8) (j := 0) (by decide))).trans f_72
  have f_74 : h_1[f + 4]? = some (.inr (1, [.int vap, .ref (f + 5), .int van, .ref (f + 6), .ref (f + 7), .ref (f + 8)])) := (s_ne e_2 (dj (i := 4) (j := 1) hap (by decide) (by decide))).trans hva0
  have f_75 : h_7[f + 4]? = some (.inr (1, [.int vap, .ref (f + 5), .int van, .ref (f + 6), .ref (f + 7), .ref (f + 8)])) := (s_ne e_8 (dj (i := 4) (j := 0) hap (by decide) (by decide))).trans f_74
  have f_76 : h_12[f + 4]? = some (.inr (1, [.int vap, .ref (f + 5), .int van, .ref (f + 6), .ref (f + 7), .ref (f + 8)])) := (s_ne e_13 (dj (i := 4) (j := 0) hap (by decide) (by decide))).trans f_75
  have f_77 : h_17[f + 4]? = some (.inr (1, [.int vap, .ref (f + 5), .int van, .ref (f + 6), .ref (f + 7), .ref (f + 8)])) := (s_ne e_18 (dj (i := 4) (j := 0) hap (by decide) (by decide))).trans f_76
  have f_78 : h_22[f + 4]? = some (.inr (1, [.int vap, .ref (f + 5), .int van, .ref (f + 6), .ref (f + 7), .ref (f + 8)])) := (s_ne e_23 (dj (i := 4) (j := 0) hap (by decide) (by decide))).trans f_77
  have f_79 : h_27[f + 4]? = some (.inr (1, [.int vap, .ref (f + 5), .int van, .ref (f + 6), .ref (f + 7), .ref (f + 8)])) := (s_ne e_28 (dj (i := 4) (j := 0) hap (by decide) (by decide))).trans f_78
  have f_80 : h_1[f + 5]? = some (.inl (1, 144, .inl va1)) := (s_ne e_2 (dj (i := 5) (j := 1) hap (by decide) (by decide))).trans hva1
  have f_81 : h_7[f + 5]? = some (.inl (1, 144, .inl va1)) := (s_ne e_8 (dj (i := 5) (j := 0) hap (by decide) (by decide))).trans f_80
  have f_82 : h_12[f + 5]? = some (.inl (1, 144, .inl va1)) := (s_ne e_13 (dj (i := 5) (j := 0) hap (by decide) (by decide))).trans f_81
  have f_83 : h_17[f + 5]? = some (.inl (1, 144, .inl va1)) := (s_ne e_18 (dj (i := 5) (j := 0) hap (by decide) (by decide))).trans f_82
  have f_84 : h_22[f + 5]? = some (.inl (1, 144, .inl va1)) := (s_ne e_23 (dj (i := 5) (j := 0) hap (by decide) (by decide))).trans f_83
  have f_85 : h_27[f + 5]? = some (.inl (1, 144, .inl va1)) := (s_ne e_28 (dj (i := 5) (j := 0) hap (by decide) (by decide))).trans f_84
  have f_86 : h_1[f + 6]? = some (.inl (1, 4, .inl va2)) := (s_ne e_2 (dj (i := 6) (j := 1) hap (by decide) (by decide))).trans hva2
  have f_87 : h_7[f + 6]? = some (.inl (1, 4, .inl va2)) := (s_ne e_8 (dj (i := 6) (j := 0) hap (by decide) (by decide))).trans f_86
  have f_88 : h_12[f + 6]? = some (.inl (1, 4, .inl va2)) := (s_ne e_13 (dj (i := 6) (j := 0) hap (by decide) (by decide))).trans f_87
  have f_89 : h_17[f + 6]? = some (.inl (1, 4, .inl va2)) := (s_ne e_18 (dj (i := 6) (j := 0) hap (by decide) (by decide))).trans f_88
  have f_90 : h_22[f + 6]? = some (.inl (1, 4, .inl va2)) := (s_ne e_23 (dj (i := 6) (j := 0) hap (by decide) (by decide))).trans f_89
  have f_91 : h_27[f + 6]? = some (.inl (1, 4, .inl va2)) := (s_ne e_28 (dj (i := 6) (j := 0) hap (by decide) (by decide))).trans f_90
  have f_92 : h_1[f + 7]? = some (.inl (1, 4, .inl va3)) := (s_ne e_2 (dj (i := 7) (j := 1) hap (by decide) (by decide))).trans hva3
  have f_93 : h_7[f + 7]? = some (.inl (1, 4, .inl va3)) := (s_ne e_8 (dj (i := 7) (j := 0) hap (by decide) (by decide))).trans f_92
  have f_94 : h_12[f + 7]? = some (.inl (1, 4, .inl va3)) := (s_ne e_13 (dj (i := 7) (j := 0) hap (by decide) (by decide))).trans f_93
  have f_95 : h_17[f + 7]? = some (.inl (1, 4, .inl va3)) := (s_ne e_18 (dj (i := 7) (j := 0) hap (by decide) (by decide))).trans f_94
  have f_96 : h_22[f + 7]? = some (.inl (1, 4, .inl va3)) := (s_ne e_23 (dj (i := 7) (j := 0) hap (by decide) (by decide))).trans f_95
  have f_97 : h_27[f + 7]? = some (.inl (1, 4, .inl va3)) := (s_ne e_28 (dj (i := 7) (j := 0) hap (by decide) (by decide))).trans f_96
  have f_98 : h_1[f + 8]? = some (.inl (1, 3, .inl va4)) := (s_ne e_2 (dj (i := 8) (j := 1) hap (by decide) (by decide))).trans hva4
  have f_99 : h_7[f + 8]? = some (.inl (1, 3, .inl va4)) := (s_ne e_8 (dj (i := 8) (j := 0) hap (by decide) (by decide))).trans f_98
  have f_100 : h_12[f + 8]? = some (.inl (1, 3, .inl va4)) := (s_ne e_13 (dj (i := 8) (j := 0) hap (by decide) (by decide))).trans f_99
  have f_101 : h_17[f + 8]? = some (.inl (1, 3, .inl va4)) := (s_ne e_18 (dj (i := 8) (j := 0) hap (by decide) (by decide))).trans f_100
  have f_102 : h_22[f + 8]? = some (.inl (1, 3, .inl va4)) := (s_ne e_23 (dj (i := 8) (j := 0) hap (by decide) (by decide))).trans f_101
  have f_103 : h_27[f + 8]? = some (.inl (1, 3, .inl va4)) := (s_ne e_28 (dj (i := 8) (j := 0) hap (by decide) (by decide))).trans f_102
  refine J_callV (As := [.ref (f + 4)]) (rest := []) dX7_copy_75 (c_X1_copy (d := 1) (h := h_27) (t := (t + 4)) (f := (f + 4)) (by decide) f_49 f_55 f_61 f_67 f_73 f_79 f_85 f_91 f_97 f_103 (Or.elim hap (fun q => Or.inl (by omega)) (fun q => Or.inr (by omega)))) hq.n k680 k681 k682 f_49 rfl rfl k89 k683 np_X1_copy (Nat.le_trans (by decide) hd) (by decide) (Nat.le_refl _) (Nat.le_refl _) (hkz l_30) rfl (Nat.le_of_ble_eq_true rfl) (fun r_104 h_105 p_106 => ?_)
  obtain ⟨rfl, l_107, r_108⟩ := p_106
  have l_109 := l_107.trans l_30
  refine J_iinc (i := 2) (j := 0) (v := 1) (lw := [(2, .int 1), (0, .ref t), (1, .ref f)]) dX7_copy_78 rfl (by decide) (by decide) rfl ?_
  refine J_goto (tgt := 58) dX7_copy_81 (by decide) ?_
  refine J_iload_n (i := 2) (j := 0) dX7_copy_58 rfl rfl ?_
  refine J_iconst (v := 2) dX7_copy_59 (by decide) ?_
  refine J_icmp_ge (tgt := 84) dX7_copy_60 (by decide) (fun q => absurd q (by decide)) (fun _ => ?_)
  refine J_aload_n (i := 0) (j := 1) dX7_copy_63 rfl rfl ?_
  have f_110 : h_105[t]? = some (.inr (7, [.ref (t + 1), .int vl, .int vu, .int vp, .ref (t + 2), .int vh, .ref (t + 3), .int vw])) := (r_108 t (Or.inl (al (i := 0) (j := 4) (by decide)))).trans f_29
  refine J_get (C := RX7) (T := TX7) (Z := 8) (ci := 7) (f := 4) dX7_copy_64 inG7 rfl (by decide) k194 f_110 rfl ?_
  refine J_iload_n (i := 2) (j := 0) dX7_copy_67 rfl rfl ?_
  have f_111 : h_105[t + 2]? = some (.inl (4, 2, .inr (.inr (va_up (va_up (fun _ => none) ((0 : Int32).toNatClampNeg) (some (t + 4))) ((1 : Int32).toNatClampNeg) (some (t + 9)))))) := (r_108 (t + 2) (Or.inl (al (i := 2) (j := 4) (by decide)))).trans f_36
  refine J_aald (q := (t + 9)) dX7_copy_68 f_111 (fun _ => rfl) (vp_c (by decide)) rfl ?_
  refine J_aload_n (i := 1) (j := 2) dX7_copy_69 rfl rfl ?_
  have f_112 : h_105[f]? = some (.inr (7, [.ref (f + 1), .int vl, .int vu, .int vp, .ref (f + 2), .int vh, .ref (f + 3), .int vw])) := (r_108 f (dr (i := 0) (m := 4) hap (by decide) (by decide))).trans f_37
  refine J_get (C := RX7) (T := TX7) (Z := 8) (ci := 7) (f := 4) dX7_copy_70 inG7 rfl (by decide) k194 f_112 rfl ?_
  refine J_iload_n (i := 2) (j := 0) dX7_copy_73 rfl rfl ?_
  have f_113 : h_105[f + 2]? = some (.inl (4, 2, .inr (.inr (va_up (va_up (fun _ => none) ((0 : Int32).toNatClampNeg) (some (f + 4))) ((1 : Int32).toNatClampNeg) (some (f + 9)))))) := (r_108 (f + 2) (dr (i := 2) (m := 4) hap (by decide) (by decide))).trans f_43
  refine J_aald (q := (f + 9)) dX7_copy_74 f_113 (fun _ => rfl) (vp_c (by decide)) rfl ?_
  have f_114 : h_1[t + 9]? = some (.inr (1, [.int ubp, .ref (t + 10), .int ubn, .ref (t + 11), .ref (t + 12), .ref (t + 13)])) := (s_ne e_2 (nq (i := 9) (j := 1) (by decide))).trans hub0
  have f_115 : h_7[t + 9]? = some (.inr (1, [.int ubp, .ref (t + 10), .int ubn, .ref (t + 11), .ref (t + 12), .ref (t + 13)])) := (s_ne e_8 (nq (i := 9) (j := 0) (by decide))).trans f_114
  have f_116 : h_12[t + 9]? = some (.inr (1, [.int ubp, .ref (t + 10), .int ubn, .ref (t + 11), .ref (t + 12), .ref (t + 13)])) := (s_ne e_13 (nq (i := 9) (j := 0) (by decide))).trans f_115
  have f_117 : h_17[t + 9]? = some (.inr (1, [.int ubp, .ref (t + 10), .int ubn, .ref (t + 11), .ref (t + 12), .ref (t + 13)])) := (s_ne e_18 (nq (i := 9) (j := 0) (by decide))).trans f_116
  have f_118 : h_22[t + 9]? = some (.inr (1, [.int ubp, .ref (t + 10), .int ubn, .ref (t + 11), .ref (t + 12), .ref (t + 13)])) := (s_ne e_23 (nq (i := 9) (j := 0) (by decide))).trans f_117
  have f_119 : h_27[t + 9]? = some (.inr (1, [.int ubp, .ref (t + 10), .int ubn, .ref (t + 11), .ref (t + 12), .ref (t + 13)])) := (s_ne e_28 (nq (i := 9) (j := 0) (by decide))).trans f_118
  have f_120 : h_105[t + 9]? = some (.inr (1, [.int ubp, .ref (t + 10), .int ubn, .ref (t + 11), .ref (t + 12), .ref (t + 13)])) := (r_108 (t + 9) (Or.inr (ar (i := 9) (j := 4) (by decide)))).trans f_119
  have f_121 : h_1[t + 10]? = some (.inl (1, 144, .inl ub1)) := (s_ne e_2 (nq (i := 10) (j := 1) (by decide))).trans hub1
  have f_122 : h_7[t + 10]? = some (.inl (1, 144, .inl ub1)) := (s_ne e_8 (nq (i := 10) (j := 0) (by decide))).trans f_121
  have f_123 : h_12[t + 10]? = some (.inl (1, 144, .inl ub1)) := (s_ne e_13 (nq (i := 10) (j := 0) (by decide))).trans f_122
  have f_124 : h_17[t + 10]? = some (.inl (1, 144, .inl ub1)) := (s_ne e_18 (nq (i := 10) (j := 0) (by decide))).trans f_123
  have f_125 : h_22[t + 10]? = some (.inl (1, 144, .inl ub1)) := (s_ne e_23 (nq (i := 10) (j := 0) (by decide))).trans f_124
  have f_126 : h_27[t + 10]? = some (.inl (1, 144, .inl ub1)) := (s_ne e_28 (nq (i := 10) (j := 0) (by decide))).trans f_125
  have f_127 : h_105[t + 10]? = some (.inl (1, 144, .inl ub1)) := (r_108 (t + 10) (Or.inr (ar (i := 10) (j := 4) (by decide)))).trans f_126
  have f_128 : h_1[t + 11]? = some (.inl (1, 4, .inl ub2)) := (s_ne e_2 (nq (i := 11) (j := 1) (by decide))).trans hub2
  have f_129 : h_7[t + 11]? = some (.inl (1, 4, .inl ub2)) := (s_ne e_8 (nq (i := 11) (j := 0) (by decide))).trans f_128
  have f_130 : h_12[t + 11]? = some (.inl (1, 4, .inl ub2)) := (s_ne e_13 (nq (i := 11) (j := 0) (by decide))).trans f_129
  have f_131 : h_17[t + 11]? = some (.inl (1, 4, .inl ub2)) := (s_ne e_18 (nq (i := 11) (j := 0) (by decide))).trans f_130
  have f_132 : h_22[t + 11]? = some (.inl (1, 4, .inl ub2)) := (s_ne e_23 (nq (i := 11) (j := 0) (by decide))).trans f_131
  have f_133 : h_27[t + 11]? = some (.inl (1, 4, .inl ub2)) := (s_ne e_28 (nq (i := 11) (j := 0) (by decide))).trans f_132
  have f_134 : h_105[t + 11]? = some (.inl (1, 4, .inl ub2)) := (r_108 (t + 11) (Or.inr (ar (i := 11) (j := 4) (by decide)))).trans f_133
  have f_135 : h_1[t + 12]? = some (.inl (1, 4, .inl ub3)) := (s_ne e_2 (nq (i := 12) (j := 1) (by decide))).trans hub3
  have f_136 : h_7[t + 12]? = some (.inl (1, 4, .inl ub3)) := (s_ne e_8 (nq (i := 12) (j := 0) (by decide))).trans f_135
  have f_137 : h_12[t + 12]? = some (.inl (1, 4, .inl ub3)) := (s_ne e_13 (nq (i := 12) (j := 0) (by decide))).trans f_136
  have f_138 : h_17[t + 12]? = some (.inl (1, 4, .inl ub3)) := (s_ne e_18 (nq (i := 12) (j := 0) (by decide))).trans f_137
  have f_139 : h_22[t + 12]? = some (.inl (1, 4, .inl ub3)) := (s_ne e_23 (nq (i := 12) (j := 0) (by decide))).trans f_138
  have f_140 : h_27[t + 12]? = some (.inl (1, 4, .inl ub3)) := (s_ne e_28 (nq (i := 12) (j := 0) (by decide))).trans f_139
  have f_141 : h_105[t + 12]? = some (.inl (1, 4, .inl ub3)) := (r_108 (t + 12) (Or.inr (ar (i := 12) (j := 4) (by decide)))).trans f_140
  have f_142 : h_1[t + 13]? = some (.inl (1, 3, .inl ub4)) := (s_ne e_2 (nq (i := 13) (j := 1) (by decide))).trans hub4
  have f_143 : h_7[t + 13]? = some (.inl (1, 3, .inl ub4)) := (s_ne e_8 (nq (i := 13) (j := 0) (by decide))).trans f_142
  have f_144 : h_12[t + 13]? = some (.inl (1, 3, .inl ub4)) := (s_ne e_13 (nq (i := 13) (j := 0) (by decide))).trans f_143
  have f_145 : h_17[t + 13]? = some (.inl (1, 3, .inl ub4)) := (s_ne e_18 (nq (i := 13) (j := 0) (by decide))).trans f_144
  have f_146 : h_22[t + 13]? = some (.inl (1, 3, .inl ub4)) := (s_ne e_23 (nq (i := 13) (j := 0) (by decide))).trans f_145
  have f_147 : h_27[t + 13]? = some (.inl (1, 3, .inl ub4)) := (s_ne e_28 (nq (i := 13) (j := 0) (by decide))).trans f_146
  have f_148 : h_105[t + 13]? = some (.inl (1, 3, .inl ub4)) := (r_108 (t + 13) (Or.inr (ar (i := 13) (j := 4) (by decide)))).trans f_147
  have f_149 : h_1[f + 9]? = some (.inr (1, [.int vbp, .ref (f + 10), .int vbn, .ref (f + 11), .ref (f + 12), .ref (f + 13)])) := (s_ne e_2 (dj (i := 9) (j := 1) hap (by decide) (by decide))).trans hvb0
  have f_150 : h_7[f + 9]? = some (.inr (1, [.int vbp, .ref (f + 10), .int vbn, .ref (f + 11), .ref (f + 12), .ref (f + 13)])) := (s_ne e_8 (dj (i := 9) (j := 0) hap (by decide) (by decide))).trans f_149
  have f_151 : h_12[f + 9]? = some (.inr (1, [.int vbp, .ref (f + 10), .int vbn, .ref (f + 11), .ref (f + 12), .ref (f + 13)])) := (s_ne e_13 (dj (i := 9) (j := 0) hap (by decide) (by decide))).trans f_150
  have f_152 : h_17[f + 9]? = some (.inr (1, [.int vbp, .ref (f + 10), .int vbn, .ref (f + 11), .ref (f + 12), .ref (f + 13)])) := (s_ne e_18 (dj (i := 9) (j := 0) hap (by decide) (by decide))).trans f_151
  have f_153 : h_22[f + 9]? = some (.inr (1, [.int vbp, .ref (f + 10), .int vbn, .ref (f + 11), .ref (f + 12), .ref (f + 13)])) := (s_ne e_23 (dj (i := 9) (j := 0) hap (by decide) (by decide))).trans f_152
  have f_154 : h_27[f + 9]? = some (.inr (1, [.int vbp, .ref (f + 10), .int vbn, .ref (f + 11), .ref (f + 12), .ref (f + 13)])) := (s_ne e_28 (dj (i := 9) (j := 0) hap (by decide) (by decide))).trans f_153
  have f_155 : h_105[f + 9]? = some (.inr (1, [.int vbp, .ref (f + 10), .int vbn, .ref (f + 11), .ref (f + 12), .ref (f + 13)])) := (r_108 (f + 9) (dr (i := 9) (m := 4) hap (by decide) (by decide))).trans f_154
  have f_156 : h_1[f + 10]? = some (.inl (1, 144, .inl vb1)) := (s_ne e_2 (dj (i := 10) (j := 1) hap (by decide) (by decide))).trans hvb1
  have f_157 : h_7[f + 10]? = some (.inl (1, 144, .inl vb1)) := (s_ne e_8 (dj (i := 10) (j := 0) hap (by decide) (by decide))).trans f_156
  have f_158 : h_12[f + 10]? = some (.inl (1, 144, .inl vb1)) := (s_ne e_13 (dj (i := 10) (j := 0) hap (by decide) (by decide))).trans f_157
  have f_159 : h_17[f + 10]? = some (.inl (1, 144, .inl vb1)) := (s_ne e_18 (dj (i := 10) (j := 0) hap (by decide) (by decide))).trans f_158
  have f_160 : h_22[f + 10]? = some (.inl (1, 144, .inl vb1)) := (s_ne e_23 (dj (i := 10) (j := 0) hap (by decide) (by decide))).trans f_159
  have f_161 : h_27[f + 10]? = some (.inl (1, 144, .inl vb1)) := (s_ne e_28 (dj (i := 10) (j := 0) hap (by decide) (by decide))).trans f_160
  have f_162 : h_105[f + 10]? = some (.inl (1, 144, .inl vb1)) := (r_108 (f + 10) (dr (i := 10) (m := 4) hap (by decide) (by decide))).trans f_161
  have f_163 : h_1[f + 11]? = some (.inl (1, 4, .inl vb2)) := (s_ne e_2 (dj (i := 11) (j := 1) hap (by decide) (by decide))).trans hvb2
  have f_164 : h_7[f + 11]? = some (.inl (1, 4, .inl vb2)) := (s_ne e_8 (dj (i := 11) (j := 0) hap (by decide) (by decide))).trans f_163
  have f_165 : h_12[f + 11]? = some (.inl (1, 4, .inl vb2)) := (s_ne e_13 (dj (i := 11) (j := 0) hap (by decide) (by decide))).trans f_164
  have f_166 : h_17[f + 11]? = some (.inl (1, 4, .inl vb2)) := (s_ne e_18 (dj (i := 11) (j := 0) hap (by decide) (by decide))).trans f_165
  have f_167 : h_22[f + 11]? = some (.inl (1, 4, .inl vb2)) := (s_ne e_23 (dj (i := 11) (j := 0) hap (by decide) (by decide))).trans f_166
  have f_168 : h_27[f + 11]? = some (.inl (1, 4, .inl vb2)) := (s_ne e_28 (dj (i := 11) (j := 0) hap (by decide) (by decide))).trans f_167
  have f_169 : h_105[f + 11]? = some (.inl (1, 4, .inl vb2)) := (r_108 (f + 11) (dr (i := 11) (m := 4) hap (by decide) (by decide))).trans f_168
  have f_170 : h_1[f + 12]? = some (.inl (1, 4, .inl vb3)) := (s_ne e_2 (dj (i := 12) (j := 1) hap (by decide) (by decide))).trans hvb3
  have f_171 : h_7[f + 12]? = some (.inl (1, 4, .inl vb3)) := (s_ne e_8 (dj (i := 12) (j := 0) hap (by decide) (by decide))).trans f_170
  have f_172 : h_12[f + 12]? = some (.inl (1, 4, .inl vb3)) := (s_ne e_13 (dj (i := 12) (j := 0) hap (by decide) (by decide))).trans f_171
  have f_173 : h_17[f + 12]? = some (.inl (1, 4, .inl vb3)) := (s_ne e_18 (dj (i := 12) (j := 0) hap (by decide) (by decide))).trans f_172
  have f_174 : h_22[f + 12]? = some (.inl (1, 4, .inl vb3)) := (s_ne e_23 (dj (i := 12) (j := 0) hap (by decide) (by decide))).trans f_173
  have f_175 : h_27[f + 12]? = some (.inl (1, 4, .inl vb3)) := (s_ne e_28 (dj (i := 12) (j := 0) hap (by decide) (by decide))).trans f_174
  have f_176 : h_105[f + 12]? = some (.inl (1, 4, .inl vb3)) := (r_108 (f + 12) (dr (i := 12) (m := 4) hap (by decide) (by decide))).trans f_175
  have f_177 : h_1[f + 13]? = some (.inl (1, 3, .inl vb4)) := (s_ne e_2 (dj (i := 13) (j := 1) hap (by decide) (by decide))).trans hvb4
  have f_178 : h_7[f + 13]? = some (.inl (1, 3, .inl vb4)) := (s_ne e_8 (dj (i := 13) (j := 0) hap (by decide) (by decide))).trans f_177
  have f_179 : h_12[f + 13]? = some (.inl (1, 3, .inl vb4)) := (s_ne e_13 (dj (i := 13) (j := 0) hap (by decide) (by decide))).trans f_178
  have f_180 : h_17[f + 13]? = some (.inl (1, 3, .inl vb4)) := (s_ne e_18 (dj (i := 13) (j := 0) hap (by decide) (by decide))).trans f_179
  have f_181 : h_22[f + 13]? = some (.inl (1, 3, .inl vb4)) := (s_ne e_23 (dj (i := 13) (j := 0) hap (by decide) (by decide))).trans f_180
  have f_182 : h_27[f + 13]? = some (.inl (1, 3, .inl vb4)) := (s_ne e_28 (dj (i := 13) (j := 0) hap (by decide) (by decide))).trans f_181
  have f_183 : h_105[f + 13]? = some (.inl (1, 3, .inl vb4)) := (r_108 (f + 13) (dr (i := 13) (m := 4) hap (by decide) (by decide))).trans f_182
  refine J_callV (As := [.ref (f + 9)]) (rest := []) dX7_copy_75 (c_X1_copy (d := 1) (h := h_105) (t := (t + 9)) (f := (f + 9)) (by decide) f_120 f_127 f_134 f_141 f_148 f_155 f_162 f_169 f_176 f_183 (Or.elim hap (fun q => Or.inl (by omega)) (fun q => Or.inr (by omega)))) hq.n k680 k681 k682 f_120 rfl rfl k89 k683 np_X1_copy (Nat.le_trans (by decide) hd) (by decide) (Nat.le_refl _) (Nat.le_refl _) (hkz l_109) rfl (Nat.le_of_ble_eq_true rfl) (fun r_184 h_185 p_186 => ?_)
  obtain ⟨rfl, l_187, r_188⟩ := p_186
  have l_189 := l_187.trans l_109
  refine J_iinc (i := 2) (j := 0) (v := 2) (lw := [(2, .int 2), (0, .ref t), (1, .ref f)]) dX7_copy_78 rfl (by decide) (by decide) rfl ?_
  refine J_goto (tgt := 58) dX7_copy_81 (by decide) ?_
  refine J_iload_n (i := 2) (j := 0) dX7_copy_58 rfl rfl ?_
  refine J_iconst (v := 2) dX7_copy_59 (by decide) ?_
  refine J_icmp_ge (tgt := 84) dX7_copy_60 (by decide) (fun _ => ?_) (fun q => absurd (by decide) q)
  refine J_iconst (v := 0) dX7_copy_84 (by decide) ?_
  refine J_istore_n (i := 2) (lw := [(2, .int 0), (0, .ref t), (1, .ref f)]) dX7_copy_85 rfl (by decide) rfl ?_
  refine J_iload_n (i := 2) (j := 0) dX7_copy_86 rfl rfl ?_
  refine J_iconst (v := 3) dX7_copy_87 (by decide) ?_
  refine J_icmp_ge (tgt := 112) dX7_copy_88 (by decide) (fun q => absurd q (by decide)) (fun _ => ?_)
  refine J_aload_n (i := 0) (j := 1) dX7_copy_91 rfl rfl ?_
  have f_190 : h_185[t]? = some (.inr (7, [.ref (t + 1), .int vl, .int vu, .int vp, .ref (t + 2), .int vh, .ref (t + 3), .int vw])) := (r_188 t (Or.inl (al (i := 0) (j := 9) (by decide)))).trans f_110
  refine J_get (C := RX7) (T := TX7) (Z := 8) (ci := 7) (f := 6) dX7_copy_92 inG7 rfl (by decide) k198 f_190 rfl ?_
  refine J_iload_n (i := 2) (j := 0) dX7_copy_95 rfl rfl ?_
  have f_191 : h_1[t + 3]? = some (.inl (6, 3, .inr (.inr (va_up (va_up (va_up (fun _ => none) ((0 : Int32).toNatClampNeg) (some (t + 14))) ((1 : Int32).toNatClampNeg) (some (t + 18))) ((2 : Int32).toNatClampNeg) (some (t + 22)))))) := (s_ne e_2 (nq (i := 3) (j := 1) (by decide))).trans huW
  have f_192 : h_7[t + 3]? = some (.inl (6, 3, .inr (.inr (va_up (va_up (va_up (fun _ => none) ((0 : Int32).toNatClampNeg) (some (t + 14))) ((1 : Int32).toNatClampNeg) (some (t + 18))) ((2 : Int32).toNatClampNeg) (some (t + 22)))))) := (s_ne e_8 (nq (i := 3) (j := 0) (by decide))).trans f_191
  have f_193 : h_12[t + 3]? = some (.inl (6, 3, .inr (.inr (va_up (va_up (va_up (fun _ => none) ((0 : Int32).toNatClampNeg) (some (t + 14))) ((1 : Int32).toNatClampNeg) (some (t + 18))) ((2 : Int32).toNatClampNeg) (some (t + 22)))))) := (s_ne e_13 (nq (i := 3) (j := 0) (by decide))).trans f_192
  have f_194 : h_17[t + 3]? = some (.inl (6, 3, .inr (.inr (va_up (va_up (va_up (fun _ => none) ((0 : Int32).toNatClampNeg) (some (t + 14))) ((1 : Int32).toNatClampNeg) (some (t + 18))) ((2 : Int32).toNatClampNeg) (some (t + 22)))))) := (s_ne e_18 (nq (i := 3) (j := 0) (by decide))).trans f_193
  have f_195 : h_22[t + 3]? = some (.inl (6, 3, .inr (.inr (va_up (va_up (va_up (fun _ => none) ((0 : Int32).toNatClampNeg) (some (t + 14))) ((1 : Int32).toNatClampNeg) (some (t + 18))) ((2 : Int32).toNatClampNeg) (some (t + 22)))))) := (s_ne e_23 (nq (i := 3) (j := 0) (by decide))).trans f_194
  have f_196 : h_27[t + 3]? = some (.inl (6, 3, .inr (.inr (va_up (va_up (va_up (fun _ => none) ((0 : Int32).toNatClampNeg) (some (t + 14))) ((1 : Int32).toNatClampNeg) (some (t + 18))) ((2 : Int32).toNatClampNeg) (some (t + 22)))))) := (s_ne e_28 (nq (i := 3) (j := 0) (by decide))).trans f_195
  have f_197 : h_105[t + 3]? = some (.inl (6, 3, .inr (.inr (va_up (va_up (va_up (fun _ => none) ((0 : Int32).toNatClampNeg) (some (t + 14))) ((1 : Int32).toNatClampNeg) (some (t + 18))) ((2 : Int32).toNatClampNeg) (some (t + 22)))))) := (r_108 (t + 3) (Or.inl (al (i := 3) (j := 4) (by decide)))).trans f_196
  have f_198 : h_185[t + 3]? = some (.inl (6, 3, .inr (.inr (va_up (va_up (va_up (fun _ => none) ((0 : Int32).toNatClampNeg) (some (t + 14))) ((1 : Int32).toNatClampNeg) (some (t + 18))) ((2 : Int32).toNatClampNeg) (some (t + 22)))))) := (r_188 (t + 3) (Or.inl (al (i := 3) (j := 9) (by decide)))).trans f_197
  refine J_aald (q := (t + 14)) dX7_copy_96 f_198 (fun _ => rfl) (vp_c (by decide)) rfl ?_
  refine J_aload_n (i := 1) (j := 2) dX7_copy_97 rfl rfl ?_
  have f_199 : h_185[f]? = some (.inr (7, [.ref (f + 1), .int vl, .int vu, .int vp, .ref (f + 2), .int vh, .ref (f + 3), .int vw])) := (r_188 f (dr (i := 0) (m := 9) hap (by decide) (by decide))).trans f_112
  refine J_get (C := RX7) (T := TX7) (Z := 8) (ci := 7) (f := 6) dX7_copy_98 inG7 rfl (by decide) k198 f_199 rfl ?_
  refine J_iload_n (i := 2) (j := 0) dX7_copy_101 rfl rfl ?_
  have f_200 : h_1[f + 3]? = some (.inl (6, 3, .inr (.inr (va_up (va_up (va_up (fun _ => none) ((0 : Int32).toNatClampNeg) (some (f + 14))) ((1 : Int32).toNatClampNeg) (some (f + 18))) ((2 : Int32).toNatClampNeg) (some (f + 22)))))) := (s_ne e_2 (dj (i := 3) (j := 1) hap (by decide) (by decide))).trans hvW
  have f_201 : h_7[f + 3]? = some (.inl (6, 3, .inr (.inr (va_up (va_up (va_up (fun _ => none) ((0 : Int32).toNatClampNeg) (some (f + 14))) ((1 : Int32).toNatClampNeg) (some (f + 18))) ((2 : Int32).toNatClampNeg) (some (f + 22)))))) := (s_ne e_8 (dj (i := 3) (j := 0) hap (by decide) (by decide))).trans f_200
  have f_202 : h_12[f + 3]? = some (.inl (6, 3, .inr (.inr (va_up (va_up (va_up (fun _ => none) ((0 : Int32).toNatClampNeg) (some (f + 14))) ((1 : Int32).toNatClampNeg) (some (f + 18))) ((2 : Int32).toNatClampNeg) (some (f + 22)))))) := (s_ne e_13 (dj (i := 3) (j := 0) hap (by decide) (by decide))).trans f_201
  have f_203 : h_17[f + 3]? = some (.inl (6, 3, .inr (.inr (va_up (va_up (va_up (fun _ => none) ((0 : Int32).toNatClampNeg) (some (f + 14))) ((1 : Int32).toNatClampNeg) (some (f + 18))) ((2 : Int32).toNatClampNeg) (some (f + 22)))))) := (s_ne e_18 (dj (i := 3) (j := 0) hap (by decide) (by decide))).trans f_202
  have f_204 : h_22[f + 3]? = some (.inl (6, 3, .inr (.inr (va_up (va_up (va_up (fun _ => none) ((0 : Int32).toNatClampNeg) (some (f + 14))) ((1 : Int32).toNatClampNeg) (some (f + 18))) ((2 : Int32).toNatClampNeg) (some (f + 22)))))) := (s_ne e_23 (dj (i := 3) (j := 0) hap (by decide) (by decide))).trans f_203
  have f_205 : h_27[f + 3]? = some (.inl (6, 3, .inr (.inr (va_up (va_up (va_up (fun _ => none) ((0 : Int32).toNatClampNeg) (some (f + 14))) ((1 : Int32).toNatClampNeg) (some (f + 18))) ((2 : Int32).toNatClampNeg) (some (f + 22)))))) := (s_ne e_28 (dj (i := 3) (j := 0) hap (by decide) (by decide))).trans f_204
  have f_206 : h_105[f + 3]? = some (.inl (6, 3, .inr (.inr (va_up (va_up (va_up (fun _ => none) ((0 : Int32).toNatClampNeg) (some (f + 14))) ((1 : Int32).toNatClampNeg) (some (f + 18))) ((2 : Int32).toNatClampNeg) (some (f + 22)))))) := (r_108 (f + 3) (dr (i := 3) (m := 4) hap (by decide) (by decide))).trans f_205
  have f_207 : h_185[f + 3]? = some (.inl (6, 3, .inr (.inr (va_up (va_up (va_up (fun _ => none) ((0 : Int32).toNatClampNeg) (some (f + 14))) ((1 : Int32).toNatClampNeg) (some (f + 18))) ((2 : Int32).toNatClampNeg) (some (f + 22)))))) := (r_188 (f + 3) (dr (i := 3) (m := 9) hap (by decide) (by decide))).trans f_206
  refine J_aald (q := (f + 14)) dX7_copy_102 f_207 (fun _ => rfl) (vp_c (by decide)) rfl ?_
  have f_208 : h_1[t + 14]? = some (.inr (8, [.int uxp, .ref (t + 15), .ref (t + 16), .ref (t + 17)])) := (s_ne e_2 (nq (i := 14) (j := 1) (by decide))).trans hux0
  have f_209 : h_7[t + 14]? = some (.inr (8, [.int uxp, .ref (t + 15), .ref (t + 16), .ref (t + 17)])) := (s_ne e_8 (nq (i := 14) (j := 0) (by decide))).trans f_208
  have f_210 : h_12[t + 14]? = some (.inr (8, [.int uxp, .ref (t + 15), .ref (t + 16), .ref (t + 17)])) := (s_ne e_13 (nq (i := 14) (j := 0) (by decide))).trans f_209
  have f_211 : h_17[t + 14]? = some (.inr (8, [.int uxp, .ref (t + 15), .ref (t + 16), .ref (t + 17)])) := (s_ne e_18 (nq (i := 14) (j := 0) (by decide))).trans f_210
  have f_212 : h_22[t + 14]? = some (.inr (8, [.int uxp, .ref (t + 15), .ref (t + 16), .ref (t + 17)])) := (s_ne e_23 (nq (i := 14) (j := 0) (by decide))).trans f_211
  have f_213 : h_27[t + 14]? = some (.inr (8, [.int uxp, .ref (t + 15), .ref (t + 16), .ref (t + 17)])) := (s_ne e_28 (nq (i := 14) (j := 0) (by decide))).trans f_212
  have f_214 : h_105[t + 14]? = some (.inr (8, [.int uxp, .ref (t + 15), .ref (t + 16), .ref (t + 17)])) := (r_108 (t + 14) (Or.inr (ar (i := 14) (j := 4) (by decide)))).trans f_213
  have f_215 : h_185[t + 14]? = some (.inr (8, [.int uxp, .ref (t + 15), .ref (t + 16), .ref (t + 17)])) := (r_188 (t + 14) (Or.inr (ar (i := 14) (j := 9) (by decide)))).trans f_214
  have f_216 : h_1[t + 15]? = some (.inl (1, 12, .inl ux1)) := (s_ne e_2 (nq (i := 15) (j := 1) (by decide))).trans hux1
  have f_217 : h_7[t + 15]? = some (.inl (1, 12, .inl ux1)) := (s_ne e_8 (nq (i := 15) (j := 0) (by decide))).trans f_216
  have f_218 : h_12[t + 15]? = some (.inl (1, 12, .inl ux1)) := (s_ne e_13 (nq (i := 15) (j := 0) (by decide))).trans f_217
  have f_219 : h_17[t + 15]? = some (.inl (1, 12, .inl ux1)) := (s_ne e_18 (nq (i := 15) (j := 0) (by decide))).trans f_218
  have f_220 : h_22[t + 15]? = some (.inl (1, 12, .inl ux1)) := (s_ne e_23 (nq (i := 15) (j := 0) (by decide))).trans f_219
  have f_221 : h_27[t + 15]? = some (.inl (1, 12, .inl ux1)) := (s_ne e_28 (nq (i := 15) (j := 0) (by decide))).trans f_220
  have f_222 : h_105[t + 15]? = some (.inl (1, 12, .inl ux1)) := (r_108 (t + 15) (Or.inr (ar (i := 15) (j := 4) (by decide)))).trans f_221
  have f_223 : h_185[t + 15]? = some (.inl (1, 12, .inl ux1)) := (r_188 (t + 15) (Or.inr (ar (i := 15) (j := 9) (by decide)))).trans f_222
  have f_224 : h_1[t + 16]? = some (.inl (1, 12, .inl ux2)) := (s_ne e_2 (nq (i := 16) (j := 1) (by decide))).trans hux2
  have f_225 : h_7[t + 16]? = some (.inl (1, 12, .inl ux2)) := (s_ne e_8 (nq (i := 16) (j := 0) (by decide))).trans f_224
  have f_226 : h_12[t + 16]? = some (.inl (1, 12, .inl ux2)) := (s_ne e_13 (nq (i := 16) (j := 0) (by decide))).trans f_225
  have f_227 : h_17[t + 16]? = some (.inl (1, 12, .inl ux2)) := (s_ne e_18 (nq (i := 16) (j := 0) (by decide))).trans f_226
  have f_228 : h_22[t + 16]? = some (.inl (1, 12, .inl ux2)) := (s_ne e_23 (nq (i := 16) (j := 0) (by decide))).trans f_227
  have f_229 : h_27[t + 16]? = some (.inl (1, 12, .inl ux2)) := (s_ne e_28 (nq (i := 16) (j := 0) (by decide))).trans f_228
  have f_230 : h_105[t + 16]? = some (.inl (1, 12, .inl ux2)) := (r_108 (t + 16) (Or.inr (ar (i := 16) (j := 4) (by decide)))).trans f_229
  have f_231 : h_185[t + 16]? = some (.inl (1, 12, .inl ux2)) := (r_188 (t + 16) (Or.inr (ar (i := 16) (j := 9) (by decide)))).trans f_230
  have f_232 : h_1[t + 17]? = some (.inl (1, 12, .inl ux3)) := (s_ne e_2 (nq (i := 17) (j := 1) (by decide))).trans hux3
  have f_233 : h_7[t + 17]? = some (.inl (1, 12, .inl ux3)) := (s_ne e_8 (nq (i := 17) (j := 0) (by decide))).trans f_232
  have f_234 : h_12[t + 17]? = some (.inl (1, 12, .inl ux3)) := (s_ne e_13 (nq (i := 17) (j := 0) (by decide))).trans f_233
  have f_235 : h_17[t + 17]? = some (.inl (1, 12, .inl ux3)) := (s_ne e_18 (nq (i := 17) (j := 0) (by decide))).trans f_234
  have f_236 : h_22[t + 17]? = some (.inl (1, 12, .inl ux3)) := (s_ne e_23 (nq (i := 17) (j := 0) (by decide))).trans f_235
  have f_237 : h_27[t + 17]? = some (.inl (1, 12, .inl ux3)) := (s_ne e_28 (nq (i := 17) (j := 0) (by decide))).trans f_236
  have f_238 : h_105[t + 17]? = some (.inl (1, 12, .inl ux3)) := (r_108 (t + 17) (Or.inr (ar (i := 17) (j := 4) (by decide)))).trans f_237
  have f_239 : h_185[t + 17]? = some (.inl (1, 12, .inl ux3)) := (r_188 (t + 17) (Or.inr (ar (i := 17) (j := 9) (by decide)))).trans f_238
  have f_240 : h_1[f + 14]? = some (.inr (8, [.int vxp, .ref (f + 15), .ref (f + 16), .ref (f + 17)])) := (s_ne e_2 (dj (i := 14) (j := 1) hap (by decide) (by decide))).trans hvx0
  have f_241 : h_7[f + 14]? = some (.inr (8, [.int vxp, .ref (f + 15), .ref (f + 16), .ref (f + 17)])) := (s_ne e_8 (dj (i := 14) (j := 0) hap (by decide) (by decide))).trans f_240
  have f_242 : h_12[f + 14]? = some (.inr (8, [.int vxp, .ref (f + 15), .ref (f + 16), .ref (f + 17)])) := (s_ne e_13 (dj (i := 14) (j := 0) hap (by decide) (by decide))).trans f_241
  have f_243 : h_17[f + 14]? = some (.inr (8, [.int vxp, .ref (f + 15), .ref (f + 16), .ref (f + 17)])) := (s_ne e_18 (dj (i := 14) (j := 0) hap (by decide) (by decide))).trans f_242
  have f_244 : h_22[f + 14]? = some (.inr (8, [.int vxp, .ref (f + 15), .ref (f + 16), .ref (f + 17)])) := (s_ne e_23 (dj (i := 14) (j := 0) hap (by decide) (by decide))).trans f_243
  have f_245 : h_27[f + 14]? = some (.inr (8, [.int vxp, .ref (f + 15), .ref (f + 16), .ref (f + 17)])) := (s_ne e_28 (dj (i := 14) (j := 0) hap (by decide) (by decide))).trans f_244
  have f_246 : h_105[f + 14]? = some (.inr (8, [.int vxp, .ref (f + 15), .ref (f + 16), .ref (f + 17)])) := (r_108 (f + 14) (dr (i := 14) (m := 4) hap (by decide) (by decide))).trans f_245
  have f_247 : h_185[f + 14]? = some (.inr (8, [.int vxp, .ref (f + 15), .ref (f + 16), .ref (f + 17)])) := (r_188 (f + 14) (dr (i := 14) (m := 9) hap (by decide) (by decide))).trans f_246
  have f_248 : h_1[f + 15]? = some (.inl (1, 12, .inl vx1)) := (s_ne e_2 (dj (i := 15) (j := 1) hap (by decide) (by decide))).trans hvx1
  have f_249 : h_7[f + 15]? = some (.inl (1, 12, .inl vx1)) := (s_ne e_8 (dj (i := 15) (j := 0) hap (by decide) (by decide))).trans f_248
  have f_250 : h_12[f + 15]? = some (.inl (1, 12, .inl vx1)) := (s_ne e_13 (dj (i := 15) (j := 0) hap (by decide) (by decide))).trans f_249
  have f_251 : h_17[f + 15]? = some (.inl (1, 12, .inl vx1)) := (s_ne e_18 (dj (i := 15) (j := 0) hap (by decide) (by decide))).trans f_250
  have f_252 : h_22[f + 15]? = some (.inl (1, 12, .inl vx1)) := (s_ne e_23 (dj (i := 15) (j := 0) hap (by decide) (by decide))).trans f_251
  have f_253 : h_27[f + 15]? = some (.inl (1, 12, .inl vx1)) := (s_ne e_28 (dj (i := 15) (j := 0) hap (by decide) (by decide))).trans f_252
  have f_254 : h_105[f + 15]? = some (.inl (1, 12, .inl vx1)) := (r_108 (f + 15) (dr (i := 15) (m := 4) hap (by decide) (by decide))).trans f_253
  have f_255 : h_185[f + 15]? = some (.inl (1, 12, .inl vx1)) := (r_188 (f + 15) (dr (i := 15) (m := 9) hap (by decide) (by decide))).trans f_254
  have f_256 : h_1[f + 16]? = some (.inl (1, 12, .inl vx2)) := (s_ne e_2 (dj (i := 16) (j := 1) hap (by decide) (by decide))).trans hvx2
  have f_257 : h_7[f + 16]? = some (.inl (1, 12, .inl vx2)) := (s_ne e_8 (dj (i := 16) (j := 0) hap (by decide) (by decide))).trans f_256
  have f_258 : h_12[f + 16]? = some (.inl (1, 12, .inl vx2)) := (s_ne e_13 (dj (i := 16) (j := 0) hap (by decide) (by decide))).trans f_257
  have f_259 : h_17[f + 16]? = some (.inl (1, 12, .inl vx2)) := (s_ne e_18 (dj (i := 16) (j := 0) hap (by decide) (by decide))).trans f_258
  have f_260 : h_22[f + 16]? = some (.inl (1, 12, .inl vx2)) := (s_ne e_23 (dj (i := 16) (j := 0) hap (by decide) (by decide))).trans f_259
  have f_261 : h_27[f + 16]? = some (.inl (1, 12, .inl vx2)) := (s_ne e_28 (dj (i := 16) (j := 0) hap (by decide) (by decide))).trans f_260
  have f_262 : h_105[f + 16]? = some (.inl (1, 12, .inl vx2)) := (r_108 (f + 16) (dr (i := 16) (m := 4) hap (by decide) (by decide))).trans f_261
  have f_263 : h_185[f + 16]? = some (.inl (1, 12, .inl vx2)) := (r_188 (f + 16) (dr (i := 16) (m := 9) hap (by decide) (by decide))).trans f_262
  have f_264 : h_1[f + 17]? = some (.inl (1, 12, .inl vx3)) := (s_ne e_2 (dj (i := 17) (j := 1) hap (by decide) (by decide))).trans hvx3
  have f_265 : h_7[f + 17]? = some (.inl (1, 12, .inl vx3)) := (s_ne e_8 (dj (i := 17) (j := 0) hap (by decide) (by decide))).trans f_264
  have f_266 : h_12[f + 17]? = some (.inl (1, 12, .inl vx3)) := (s_ne e_13 (dj (i := 17) (j := 0) hap (by decide) (by decide))).trans f_265
  have f_267 : h_17[f + 17]? = some (.inl (1, 12, .inl vx3)) := (s_ne e_18 (dj (i := 17) (j := 0) hap (by decide) (by decide))).trans f_266
  have f_268 : h_22[f + 17]? = some (.inl (1, 12, .inl vx3)) := (s_ne e_23 (dj (i := 17) (j := 0) hap (by decide) (by decide))).trans f_267
  have f_269 : h_27[f + 17]? = some (.inl (1, 12, .inl vx3)) := (s_ne e_28 (dj (i := 17) (j := 0) hap (by decide) (by decide))).trans f_268
  have f_270 : h_105[f + 17]? = some (.inl (1, 12, .inl vx3)) := (r_108 (f + 17) (dr (i := 17) (m := 4) hap (by decide) (by decide))).trans f_269
  have f_271 : h_185[f + 17]? = some (.inl (1, 12, .inl vx3)) := (r_188 (f + 17) (dr (i := 17) (m := 9) hap (by decide) (by decide))).trans f_270
  refine J_callV (As := [.ref (f + 14)]) (rest := []) dX7_copy_103 (c_X8_copy (d := 1) (h := h_185) (t := (t + 14)) (f := (f + 14)) (by decide) f_215 f_223 f_231 f_239 f_247 f_255 f_263 f_271 (Or.elim hap (fun q => Or.inl (by omega)) (fun q => Or.inr (by omega)))) hq.n k690 k691 k692 f_215 rfl rfl k90 k693 np_X8_copy (Nat.le_trans (by decide) hd) (by decide) (Nat.le_refl _) (Nat.le_refl _) (hkz l_189) rfl (Nat.le_of_ble_eq_true rfl) (fun r_272 h_273 p_274 => ?_)
  obtain ⟨rfl, l_275, r_276⟩ := p_274
  have l_277 := l_275.trans l_189
  refine J_iinc (i := 2) (j := 0) (v := 1) (lw := [(2, .int 1), (0, .ref t), (1, .ref f)]) dX7_copy_106 rfl (by decide) (by decide) rfl ?_
  refine J_goto (tgt := 86) dX7_copy_109 (by decide) ?_
  refine J_iload_n (i := 2) (j := 0) dX7_copy_86 rfl rfl ?_
  refine J_iconst (v := 3) dX7_copy_87 (by decide) ?_
  refine J_icmp_ge (tgt := 112) dX7_copy_88 (by decide) (fun q => absurd q (by decide)) (fun _ => ?_)
  refine J_aload_n (i := 0) (j := 1) dX7_copy_91 rfl rfl ?_
  have f_278 : h_273[t]? = some (.inr (7, [.ref (t + 1), .int vl, .int vu, .int vp, .ref (t + 2), .int vh, .ref (t + 3), .int vw])) := (r_276 t (Or.inl (al (i := 0) (j := 14) (by decide)))).trans f_190
  refine J_get (C := RX7) (T := TX7) (Z := 8) (ci := 7) (f := 6) dX7_copy_92 inG7 rfl (by decide) k198 f_278 rfl ?_
  refine J_iload_n (i := 2) (j := 0) dX7_copy_95 rfl rfl ?_
  have f_279 : h_273[t + 3]? = some (.inl (6, 3, .inr (.inr (va_up (va_up (va_up (fun _ => none) ((0 : Int32).toNatClampNeg) (some (t + 14))) ((1 : Int32).toNatClampNeg) (some (t + 18))) ((2 : Int32).toNatClampNeg) (some (t + 22)))))) := (r_276 (t + 3) (Or.inl (al (i := 3) (j := 14) (by decide)))).trans f_198
  refine J_aald (q := (t + 18)) dX7_copy_96 f_279 (fun _ => rfl) (vp_c (by decide)) rfl ?_
  refine J_aload_n (i := 1) (j := 2) dX7_copy_97 rfl rfl ?_
  have f_280 : h_273[f]? = some (.inr (7, [.ref (f + 1), .int vl, .int vu, .int vp, .ref (f + 2), .int vh, .ref (f + 3), .int vw])) := (r_276 f (dr (i := 0) (m := 14) hap (by decide) (by decide))).trans f_199
  refine J_get (C := RX7) (T := TX7) (Z := 8) (ci := 7) (f := 6) dX7_copy_98 inG7 rfl (by decide) k198 f_280 rfl ?_
  refine J_iload_n (i := 2) (j := 0) dX7_copy_101 rfl rfl ?_
  have f_281 : h_273[f + 3]? = some (.inl (6, 3, .inr (.inr (va_up (va_up (va_up (fun _ => none) ((0 : Int32).toNatClampNeg) (some (f + 14))) ((1 : Int32).toNatClampNeg) (some (f + 18))) ((2 : Int32).toNatClampNeg) (some (f + 22)))))) := (r_276 (f + 3) (dr (i := 3) (m := 14) hap (by decide) (by decide))).trans f_207
  refine J_aald (q := (f + 18)) dX7_copy_102 f_281 (fun _ => rfl) (vp_c (by decide)) rfl ?_
  have f_282 : h_1[t + 18]? = some (.inr (8, [.int uyp, .ref (t + 19), .ref (t + 20), .ref (t + 21)])) := (s_ne e_2 (nq (i := 18) (j := 1) (by decide))).trans huy0
  have f_283 : h_7[t + 18]? = some (.inr (8, [.int uyp, .ref (t + 19), .ref (t + 20), .ref (t + 21)])) := (s_ne e_8 (nq (i := 18) (j := 0) (by decide))).trans f_282
  have f_284 : h_12[t + 18]? = some (.inr (8, [.int uyp, .ref (t + 19), .ref (t + 20), .ref (t + 21)])) := (s_ne e_13 (nq (i := 18) (j := 0) (by decide))).trans f_283
  have f_285 : h_17[t + 18]? = some (.inr (8, [.int uyp, .ref (t + 19), .ref (t + 20), .ref (t + 21)])) := (s_ne e_18 (nq (i := 18) (j := 0) (by decide))).trans f_284
  have f_286 : h_22[t + 18]? = some (.inr (8, [.int uyp, .ref (t + 19), .ref (t + 20), .ref (t + 21)])) := (s_ne e_23 (nq (i := 18) (j := 0) (by decide))).trans f_285
  have f_287 : h_27[t + 18]? = some (.inr (8, [.int uyp, .ref (t + 19), .ref (t + 20), .ref (t + 21)])) := (s_ne e_28 (nq (i := 18) (j := 0) (by decide))).trans f_286
  have f_288 : h_105[t + 18]? = some (.inr (8, [.int uyp, .ref (t + 19), .ref (t + 20), .ref (t + 21)])) := (r_108 (t + 18) (Or.inr (ar (i := 18) (j := 4) (by decide)))).trans f_287
  have f_289 : h_185[t + 18]? = some (.inr (8, [.int uyp, .ref (t + 19), .ref (t + 20), .ref (t + 21)])) := (r_188 (t + 18) (Or.inr (ar (i := 18) (j := 9) (by decide)))).trans f_288
  have f_290 : h_273[t + 18]? = some (.inr (8, [.int uyp, .ref (t + 19), .ref (t + 20), .ref (t + 21)])) := (r_276 (t + 18) (Or.inr (ar (i := 18) (j := 14) (by decide)))).trans f_289
  have f_291 : h_1[t + 19]? = some (.inl (1, 12, .inl uy1)) := (s_ne e_2 (nq (i := 19) (j := 1) (by decide))).trans huy1
  have f_292 : h_7[t + 19]? = some (.inl (1, 12, .inl uy1)) := (s_ne e_8 (nq (i := 19) (j := 0) (by decide))).trans f_291
  have f_293 : h_12[t + 19]? = some (.inl (1, 12, .inl uy1)) := (s_ne e_13 (nq (i := 19) (j := 0) (by decide))).trans f_292
  have f_294 : h_17[t + 19]? = some (.inl (1, 12, .inl uy1)) := (s_ne e_18 (nq (i := 19) (j := 0) (by decide))).trans f_293
  have f_295 : h_22[t + 19]? = some (.inl (1, 12, .inl uy1)) := (s_ne e_23 (nq (i := 19) (j := 0) (by decide))).trans f_294
  have f_296 : h_27[t + 19]? = some (.inl (1, 12, .inl uy1)) := (s_ne e_28 (nq (i := 19) (j := 0) (by decide))).trans f_295
  have f_297 : h_105[t + 19]? = some (.inl (1, 12, .inl uy1)) := (r_108 (t + 19) (Or.inr (ar (i := 19) (j := 4) (by decide)))).trans f_296
  have f_298 : h_185[t + 19]? = some (.inl (1, 12, .inl uy1)) := (r_188 (t + 19) (Or.inr (ar (i := 19) (j := 9) (by decide)))).trans f_297
  have f_299 : h_273[t + 19]? = some (.inl (1, 12, .inl uy1)) := (r_276 (t + 19) (Or.inr (ar (i := 19) (j := 14) (by decide)))).trans f_298
  have f_300 : h_1[t + 20]? = some (.inl (1, 12, .inl uy2)) := (s_ne e_2 (nq (i := 20) (j := 1) (by decide))).trans huy2
  have f_301 : h_7[t + 20]? = some (.inl (1, 12, .inl uy2)) := (s_ne e_8 (nq (i := 20) (j := 0) (by decide))).trans f_300
  have f_302 : h_12[t + 20]? = some (.inl (1, 12, .inl uy2)) := (s_ne e_13 (nq (i := 20) (j := 0) (by decide))).trans f_301
  have f_303 : h_17[t + 20]? = some (.inl (1, 12, .inl uy2)) := (s_ne e_18 (nq (i := 20) (j := 0) (by decide))).trans f_302
  have f_304 : h_22[t + 20]? = some (.inl (1, 12, .inl uy2)) := (s_ne e_23 (nq (i := 20) (j := 0) (by decide))).trans f_303
  have f_305 : h_27[t + 20]? = some (.inl (1, 12, .inl uy2)) := (s_ne e_28 (nq (i := 20) (j := 0) (by decide))).trans f_304
  have f_306 : h_105[t + 20]? = some (.inl (1, 12, .inl uy2)) := (r_108 (t + 20) (Or.inr (ar (i := 20) (j := 4) (by decide)))).trans f_305
  have f_307 : h_185[t + 20]? = some (.inl (1, 12, .inl uy2)) := (r_188 (t + 20) (Or.inr (ar (i := 20) (j := 9) (by decide)))).trans f_306
  have f_308 : h_273[t + 20]? = some (.inl (1, 12, .inl uy2)) := (r_276 (t + 20) (Or.inr (ar (i := 20) (j := 14) (by decide)))).trans f_307
  have f_309 : h_1[t + 21]? = some (.inl (1, 12, .inl uy3)) := (s_ne e_2 (nq (i := 21) (j := 1) (by decide))).trans huy3
  have f_310 : h_7[t + 21]? = some (.inl (1, 12, .inl uy3)) := (s_ne e_8 (nq (i := 21) (j := 0) (by decide))).trans f_309
  have f_311 : h_12[t + 21]? = some (.inl (1, 12, .inl uy3)) := (s_ne e_13 (nq (i := 21) (j := 0) (by decide))).trans f_310
  have f_312 : h_17[t + 21]? = some (.inl (1, 12, .inl uy3)) := (s_ne e_18 (nq (i := 21) (j := 0) (by decide))).trans f_311
  have f_313 : h_22[t + 21]? = some (.inl (1, 12, .inl uy3)) := (s_ne e_23 (nq (i := 21) (j := 0) (by decide))).trans f_312
  have f_314 : h_27[t + 21]? = some (.inl (1, 12, .inl uy3)) := (s_ne e_28 (nq (i := 21) (j := 0) (by decide))).trans f_313
  have f_315 : h_105[t + 21]? = some (.inl (1, 12, .inl uy3)) := (r_108 (t + 21) (Or.inr (ar (i := 21) (j := 4) (by decide)))).trans f_314
  have f_316 : h_185[t + 21]? = some (.inl (1, 12, .inl uy3)) := (r_188 (t + 21) (Or.inr (ar (i := 21) (j := 9) (by decide)))).trans f_315
  have f_317 : h_273[t + 21]? = some (.inl (1, 12, .inl uy3)) := (r_276 (t + 21) (Or.inr (ar (i := 21) (j := 14) (by decide)))).trans f_316
  have f_318 : h_1[f + 18]? = some (.inr (8, [.int vyp, .ref (f + 19), .ref (f + 20), .ref (f + 21)])) := (s_ne e_2 (dj (i := 18) (j := 1) hap (by decide) (by decide))).trans hvy0
  have f_319 : h_7[f + 18]? = some (.inr (8, [.int vyp, .ref (f + 19), .ref (f + 20), .ref (f + 21)])) := (s_ne e_8 (dj (i := 18) (j := 0) hap (by decide) (by decide))).trans f_318
  have f_320 : h_12[f + 18]? = some (.inr (8, [.int vyp, .ref (f + 19), .ref (f + 20), .ref (f + 21)])) := (s_ne e_13 (dj (i := 18) (j := 0) hap (by decide) (by decide))).trans f_319
  have f_321 : h_17[f + 18]? = some (.inr (8, [.int vyp, .ref (f + 19), .ref (f + 20), .ref (f + 21)])) := (s_ne e_18 (dj (i := 18) (j := 0) hap (by decide) (by decide))).trans f_320
  have f_322 : h_22[f + 18]? = some (.inr (8, [.int vyp, .ref (f + 19), .ref (f + 20), .ref (f + 21)])) := (s_ne e_23 (dj (i := 18) (j := 0) hap (by decide) (by decide))).trans f_321
  have f_323 : h_27[f + 18]? = some (.inr (8, [.int vyp, .ref (f + 19), .ref (f + 20), .ref (f + 21)])) := (s_ne e_28 (dj (i := 18) (j := 0) hap (by decide) (by decide))).trans f_322
  have f_324 : h_105[f + 18]? = some (.inr (8, [.int vyp, .ref (f + 19), .ref (f + 20), .ref (f + 21)])) := (r_108 (f + 18) (dr (i := 18) (m := 4) hap (by decide) (by decide))).trans f_323
  have f_325 : h_185[f + 18]? = some (.inr (8, [.int vyp, .ref (f + 19), .ref (f + 20), .ref (f + 21)])) := (r_188 (f + 18) (dr (i := 18) (m := 9) hap (by decide) (by decide))).trans f_324
  have f_326 : h_273[f + 18]? = some (.inr (8, [.int vyp, .ref (f + 19), .ref (f + 20), .ref (f + 21)])) := (r_276 (f + 18) (dr (i := 18) (m := 14) hap (by decide) (by decide))).trans f_325
  have f_327 : h_1[f + 19]? = some (.inl (1, 12, .inl vy1)) := (s_ne e_2 (dj (i := 19) (j := 1) hap (by decide) (by decide))).trans hvy1
  have f_328 : h_7[f + 19]? = some (.inl (1, 12, .inl vy1)) := (s_ne e_8 (dj (i := 19) (j := 0) hap (by decide) (by decide))).trans f_327
  have f_329 : h_12[f + 19]? = some (.inl (1, 12, .inl vy1)) := (s_ne e_13 (dj (i := 19) (j := 0) hap (by decide) (by decide))).trans f_328
  have f_330 : h_17[f + 19]? = some (.inl (1, 12, .inl vy1)) := (s_ne e_18 (dj (i := 19) (j := 0) hap (by decide) (by decide))).trans f_329
  have f_331 : h_22[f + 19]? = some (.inl (1, 12, .inl vy1)) := (s_ne e_23 (dj (i := 19) (j := 0) hap (by decide) (by decide))).trans f_330
  have f_332 : h_27[f + 19]? = some (.inl (1, 12, .inl vy1)) := (s_ne e_28 (dj (i := 19) (j := 0) hap (by decide) (by decide))).trans f_331
  have f_333 : h_105[f + 19]? = some (.inl (1, 12, .inl vy1)) := (r_108 (f + 19) (dr (i := 19) (m := 4) hap (by decide) (by decide))).trans f_332
  have f_334 : h_185[f + 19]? = some (.inl (1, 12, .inl vy1)) := (r_188 (f + 19) (dr (i := 19) (m := 9) hap (by decide) (by decide))).trans f_333
  have f_335 : h_273[f + 19]? = some (.inl (1, 12, .inl vy1)) := (r_276 (f + 19) (dr (i := 19) (m := 14) hap (by decide) (by decide))).trans f_334
  have f_336 : h_1[f + 20]? = some (.inl (1, 12, .inl vy2)) := (s_ne e_2 (dj (i := 20) (j := 1) hap (by decide) (by decide))).trans hvy2
  have f_337 : h_7[f + 20]? = some (.inl (1, 12, .inl vy2)) := (s_ne e_8 (dj (i := 20) (j := 0) hap (by decide) (by decide))).trans f_336
  have f_338 : h_12[f + 20]? = some (.inl (1, 12, .inl vy2)) := (s_ne e_13 (dj (i := 20) (j := 0) hap (by decide) (by decide))).trans f_337
  have f_339 : h_17[f + 20]? = some (.inl (1, 12, .inl vy2)) := (s_ne e_18 (dj (i := 20) (j := 0) hap (by decide) (by decide))).trans f_338
  have f_340 : h_22[f + 20]? = some (.inl (1, 12, .inl vy2)) := (s_ne e_23 (dj (i := 20) (j := 0) hap (by decide) (by decide))).trans f_339
  have f_341 : h_27[f + 20]? = some (.inl (1, 12, .inl vy2)) := (s_ne e_28 (dj (i := 20) (j := 0) hap (by decide) (by decide))).trans f_340
  have f_342 : h_105[f + 20]? = some (.inl (1, 12, .inl vy2)) := (r_108 (f + 20) (dr (i := 20) (m := 4) hap (by decide) (by decide))).trans f_341
  have f_343 : h_185[f + 20]? = some (.inl (1, 12, .inl vy2)) := (r_188 (f + 20) (dr (i := 20) (m := 9) hap (by decide) (by decide))).trans f_342
  have f_344 : h_273[f + 20]? = some (.inl (1, 12, .inl vy2)) := (r_276 (f + 20) (dr (i := 20) (m := 14) hap (by decide) (by decide))).trans f_343
  have f_345 : h_1[f + 21]? = some (.inl (1, 12, .inl vy3)) := (s_ne e_2 (dj (i := 21) (j := 1) hap (by decide) (by decide))).trans hvy3
  have f_346 : h_7[f + 21]? = some (.inl (1, 12, .inl vy3)) := (s_ne e_8 (dj (i := 21) (j := 0) hap (by decide) (by decide))).trans f_345
  have f_347 : h_12[f + 21]? = some (.inl (1, 12, .inl vy3)) := (s_ne e_13 (dj (i := 21) (j := 0) hap (by decide) (by decide))).trans f_346
  have f_348 : h_17[f + 21]? = some (.inl (1, 12, .inl vy3)) := (s_ne e_18 (dj (i := 21) (j := 0) hap (by decide) (by decide))).trans f_347
  have f_349 : h_22[f + 21]? = some (.inl (1, 12, .inl vy3)) := (s_ne e_23 (dj (i := 21) (j := 0) hap (by decide) (by decide))).trans f_348
  have f_350 : h_27[f + 21]? = some (.inl (1, 12, .inl vy3)) := (s_ne e_28 (dj (i := 21) (j := 0) hap (by decide) (by decide))).trans f_349
  have f_351 : h_105[f + 21]? = some (.inl (1, 12, .inl vy3)) := (r_108 (f + 21) (dr (i := 21) (m := 4) hap (by decide) (by decide))).trans f_350
  have f_352 : h_185[f + 21]? = some (.inl (1, 12, .inl vy3)) := (r_188 (f + 21) (dr (i := 21) (m := 9) hap (by decide) (by decide))).trans f_351
  have f_353 : h_273[f + 21]? = some (.inl (1, 12, .inl vy3)) := (r_276 (f + 21) (dr (i := 21) (m := 14) hap (by decide) (by decide))).trans f_352
  refine J_callV (As := [.ref (f + 18)]) (rest := []) dX7_copy_103 (c_X8_copy (d := 1) (h := h_273) (t := (t + 18)) (f := (f + 18)) (by decide) f_290 f_299 f_308 f_317 f_326 f_335 f_344 f_353 (Or.elim hap (fun q => Or.inl (by omega)) (fun q => Or.inr (by omega)))) hq.n k690 k691 k692 f_290 rfl rfl k90 k693 np_X8_copy (Nat.le_trans (by decide) hd) (by decide) (Nat.le_refl _) (Nat.le_refl _) (hkz l_277) rfl (Nat.le_of_ble_eq_true rfl) (fun r_354 h_355 p_356 => ?_)
  obtain ⟨rfl, l_357, r_358⟩ := p_356
  have l_359 := l_357.trans l_277
  refine J_iinc (i := 2) (j := 0) (v := 2) (lw := [(2, .int 2), (0, .ref t), (1, .ref f)]) dX7_copy_106 rfl (by decide) (by decide) rfl ?_
  refine J_goto (tgt := 86) dX7_copy_109 (by decide) ?_
  refine J_iload_n (i := 2) (j := 0) dX7_copy_86 rfl rfl ?_
  refine J_iconst (v := 3) dX7_copy_87 (by decide) ?_
  refine J_icmp_ge (tgt := 112) dX7_copy_88 (by decide) (fun q => absurd q (by decide)) (fun _ => ?_)
  refine J_aload_n (i := 0) (j := 1) dX7_copy_91 rfl rfl ?_
  have f_360 : h_355[t]? = some (.inr (7, [.ref (t + 1), .int vl, .int vu, .int vp, .ref (t + 2), .int vh, .ref (t + 3), .int vw])) := (r_358 t (Or.inl (al (i := 0) (j := 18) (by decide)))).trans f_278
  refine J_get (C := RX7) (T := TX7) (Z := 8) (ci := 7) (f := 6) dX7_copy_92 inG7 rfl (by decide) k198 f_360 rfl ?_
  refine J_iload_n (i := 2) (j := 0) dX7_copy_95 rfl rfl ?_
  have f_361 : h_355[t + 3]? = some (.inl (6, 3, .inr (.inr (va_up (va_up (va_up (fun _ => none) ((0 : Int32).toNatClampNeg) (some (t + 14))) ((1 : Int32).toNatClampNeg) (some (t + 18))) ((2 : Int32).toNatClampNeg) (some (t + 22)))))) := (r_358 (t + 3) (Or.inl (al (i := 3) (j := 18) (by decide)))).trans f_279
  refine J_aald (q := (t + 22)) dX7_copy_96 f_361 (fun _ => rfl) (vp_c (by decide)) rfl ?_
  refine J_aload_n (i := 1) (j := 2) dX7_copy_97 rfl rfl ?_
  have f_362 : h_355[f]? = some (.inr (7, [.ref (f + 1), .int vl, .int vu, .int vp, .ref (f + 2), .int vh, .ref (f + 3), .int vw])) := (r_358 f (dr (i := 0) (m := 18) hap (by decide) (by decide))).trans f_280
  refine J_get (C := RX7) (T := TX7) (Z := 8) (ci := 7) (f := 6) dX7_copy_98 inG7 rfl (by decide) k198 f_362 rfl ?_
  refine J_iload_n (i := 2) (j := 0) dX7_copy_101 rfl rfl ?_
  have f_363 : h_355[f + 3]? = some (.inl (6, 3, .inr (.inr (va_up (va_up (va_up (fun _ => none) ((0 : Int32).toNatClampNeg) (some (f + 14))) ((1 : Int32).toNatClampNeg) (some (f + 18))) ((2 : Int32).toNatClampNeg) (some (f + 22)))))) := (r_358 (f + 3) (dr (i := 3) (m := 18) hap (by decide) (by decide))).trans f_281
  refine J_aald (q := (f + 22)) dX7_copy_102 f_363 (fun _ => rfl) (vp_c (by decide)) rfl ?_
  have f_364 : h_1[t + 22]? = some (.inr (8, [.int uzp, .ref (t + 23), .ref (t + 24), .ref (t + 25)])) := (s_ne e_2 (nq (i := 22) (j := 1) (by decide))).trans huz0
  have f_365 : h_7[t + 22]? = some (.inr (8, [.int uzp, .ref (t + 23), .ref (t + 24), .ref (t + 25)])) := (s_ne e_8 (nq (i := 22) (j := 0) (by decide))).trans f_364
  have f_366 : h_12[t + 22]? = some (.inr (8, [.int uzp, .ref (t + 23), .ref (t + 24), .ref (t + 25)])) := (s_ne e_13 (nq (i := 22) (j := 0) (by decide))).trans f_365
  have f_367 : h_17[t + 22]? = some (.inr (8, [.int uzp, .ref (t + 23), .ref (t + 24), .ref (t + 25)])) := (s_ne e_18 (nq (i := 22) (j := 0) (by decide))).trans f_366
  have f_368 : h_22[t + 22]? = some (.inr (8, [.int uzp, .ref (t + 23), .ref (t + 24), .ref (t + 25)])) := (s_ne e_23 (nq (i := 22) (j := 0) (by decide))).trans f_367
  have f_369 : h_27[t + 22]? = some (.inr (8, [.int uzp, .ref (t + 23), .ref (t + 24), .ref (t + 25)])) := (s_ne e_28 (nq (i := 22) (j := 0) (by decide))).trans f_368
  have f_370 : h_105[t + 22]? = some (.inr (8, [.int uzp, .ref (t + 23), .ref (t + 24), .ref (t + 25)])) := (r_108 (t + 22) (Or.inr (ar (i := 22) (j := 4) (by decide)))).trans f_369
  have f_371 : h_185[t + 22]? = some (.inr (8, [.int uzp, .ref (t + 23), .ref (t + 24), .ref (t + 25)])) := (r_188 (t + 22) (Or.inr (ar (i := 22) (j := 9) (by decide)))).trans f_370
  have f_372 : h_273[t + 22]? = some (.inr (8, [.int uzp, .ref (t + 23), .ref (t + 24), .ref (t + 25)])) := (r_276 (t + 22) (Or.inr (ar (i := 22) (j := 14) (by decide)))).trans f_371
  have f_373 : h_355[t + 22]? = some (.inr (8, [.int uzp, .ref (t + 23), .ref (t + 24), .ref (t + 25)])) := (r_358 (t + 22) (Or.inr (ar (i := 22) (j := 18) (by decide)))).trans f_372
  have f_374 : h_1[t + 23]? = some (.inl (1, 12, .inl uz1)) := (s_ne e_2 (nq (i := 23) (j := 1) (by decide))).trans huz1
  have f_375 : h_7[t + 23]? = some (.inl (1, 12, .inl uz1)) := (s_ne e_8 (nq (i := 23) (j := 0) (by decide))).trans f_374
  have f_376 : h_12[t + 23]? = some (.inl (1, 12, .inl uz1)) := (s_ne e_13 (nq (i := 23) (j := 0) (by decide))).trans f_375
  have f_377 : h_17[t + 23]? = some (.inl (1, 12, .inl uz1)) := (s_ne e_18 (nq (i := 23) (j := 0) (by decide))).trans f_376
  have f_378 : h_22[t + 23]? = some (.inl (1, 12, .inl uz1)) := (s_ne e_23 (nq (i := 23) (j := 0) (by decide))).trans f_377
  have f_379 : h_27[t + 23]? = some (.inl (1, 12, .inl uz1)) := (s_ne e_28 (nq (i := 23) (j := 0) (by decide))).trans f_378
  have f_380 : h_105[t + 23]? = some (.inl (1, 12, .inl uz1)) := (r_108 (t + 23) (Or.inr (ar (i := 23) (j := 4) (by decide)))).trans f_379
  have f_381 : h_185[t + 23]? = some (.inl (1, 12, .inl uz1)) := (r_188 (t + 23) (Or.inr (ar (i := 23) (j := 9) (by decide)))).trans f_380
  have f_382 : h_273[t + 23]? = some (.inl (1, 12, .inl uz1)) := (r_276 (t + 23) (Or.inr (ar (i := 23) (j := 14) (by decide)))).trans f_381
  have f_383 : h_355[t + 23]? = some (.inl (1, 12, .inl uz1)) := (r_358 (t + 23) (Or.inr (ar (i := 23) (j := 18) (by decide)))).trans f_382
  have f_384 : h_1[t + 24]? = some (.inl (1, 12, .inl uz2)) := (s_ne e_2 (nq (i := 24) (j := 1) (by decide))).trans huz2
  have f_385 : h_7[t + 24]? = some (.inl (1, 12, .inl uz2)) := (s_ne e_8 (nq (i := 24) (j := 0) (by decide))).trans f_384
  have f_386 : h_12[t + 24]? = some (.inl (1, 12, .inl uz2)) := (s_ne e_13 (nq (i := 24) (j := 0) (by decide))).trans f_385
  have f_387 : h_17[t + 24]? = some (.inl (1, 12, .inl uz2)) := (s_ne e_18 (nq (i := 24) (j := 0) (by decide))).trans f_386
  have f_388 : h_22[t + 24]? = some (.inl (1, 12, .inl uz2)) := (s_ne e_23 (nq (i := 24) (j := 0) (by decide))).trans f_387
  have f_389 : h_27[t + 24]? = some (.inl (1, 12, .inl uz2)) := (s_ne e_28 (nq (i := 24) (j := 0) (by decide))).trans f_388
  have f_390 : h_105[t + 24]? = some (.inl (1, 12, .inl uz2)) := (r_108 (t + 24) (Or.inr (ar (i := 24) (j := 4) (by decide)))).trans f_389
  have f_391 : h_185[t + 24]? = some (.inl (1, 12, .inl uz2)) := (r_188 (t + 24) (Or.inr (ar (i := 24) (j := 9) (by decide)))).trans f_390
  have f_392 : h_273[t + 24]? = some (.inl (1, 12, .inl uz2)) := (r_276 (t + 24) (Or.inr (ar (i := 24) (j := 14) (by decide)))).trans f_391
  have f_393 : h_355[t + 24]? = some (.inl (1, 12, .inl uz2)) := (r_358 (t + 24) (Or.inr (ar (i := 24) (j := 18) (by decide)))).trans f_392
  have f_394 : h_1[t + 25]? = some (.inl (1, 12, .inl uz3)) := (s_ne e_2 (nq (i := 25) (j := 1) (by decide))).trans huz3
  have f_395 : h_7[t + 25]? = some (.inl (1, 12, .inl uz3)) := (s_ne e_8 (nq (i := 25) (j := 0) (by decide))).trans f_394
  have f_396 : h_12[t + 25]? = some (.inl (1, 12, .inl uz3)) := (s_ne e_13 (nq (i := 25) (j := 0) (by decide))).trans f_395
  have f_397 : h_17[t + 25]? = some (.inl (1, 12, .inl uz3)) := (s_ne e_18 (nq (i := 25) (j := 0) (by decide))).trans f_396
  have f_398 : h_22[t + 25]? = some (.inl (1, 12, .inl uz3)) := (s_ne e_23 (nq (i := 25) (j := 0) (by decide))).trans f_397
  have f_399 : h_27[t + 25]? = some (.inl (1, 12, .inl uz3)) := (s_ne e_28 (nq (i := 25) (j := 0) (by decide))).trans f_398
  have f_400 : h_105[t + 25]? = some (.inl (1, 12, .inl uz3)) := (r_108 (t + 25) (Or.inr (ar (i := 25) (j := 4) (by decide)))).trans f_399
  have f_401 : h_185[t + 25]? = some (.inl (1, 12, .inl uz3)) := (r_188 (t + 25) (Or.inr (ar (i := 25) (j := 9) (by decide)))).trans f_400
  have f_402 : h_273[t + 25]? = some (.inl (1, 12, .inl uz3)) := (r_276 (t + 25) (Or.inr (ar (i := 25) (j := 14) (by decide)))).trans f_401
  have f_403 : h_355[t + 25]? = some (.inl (1, 12, .inl uz3)) := (r_358 (t + 25) (Or.inr (ar (i := 25) (j := 18) (by decide)))).trans f_402
  have f_404 : h_1[f + 22]? = some (.inr (8, [.int vzp, .ref (f + 23), .ref (f + 24), .ref (f + 25)])) := (s_ne e_2 (dj (i := 22) (j := 1) hap (by decide) (by decide))).trans hvz0
  have f_405 : h_7[f + 22]? = some (.inr (8, [.int vzp, .ref (f + 23), .ref (f + 24), .ref (f + 25)])) := (s_ne e_8 (dj (i := 22) (j := 0) hap (by decide) (by decide))).trans f_404
  have f_406 : h_12[f + 22]? = some (.inr (8, [.int vzp, .ref (f + 23), .ref (f + 24), .ref (f + 25)])) := (s_ne e_13 (dj (i := 22) (j := 0) hap (by decide) (by decide))).trans f_405
  have f_407 : h_17[f + 22]? = some (.inr (8, [.int vzp, .ref (f + 23), .ref (f + 24), .ref (f + 25)])) := (s_ne e_18 (dj (i := 22) (j := 0) hap (by decide) (by decide))).trans f_406
  have f_408 : h_22[f + 22]? = some (.inr (8, [.int vzp, .ref (f + 23), .ref (f + 24), .ref (f + 25)])) := (s_ne e_23 (dj (i := 22) (j := 0) hap (by decide) (by decide))).trans f_407
  have f_409 : h_27[f + 22]? = some (.inr (8, [.int vzp, .ref (f + 23), .ref (f + 24), .ref (f + 25)])) := (s_ne e_28 (dj (i := 22) (j := 0) hap (by decide) (by decide))).trans f_408
  have f_410 : h_105[f + 22]? = some (.inr (8, [.int vzp, .ref (f + 23), .ref (f + 24), .ref (f + 25)])) := (r_108 (f + 22) (dr (i := 22) (m := 4) hap (by decide) (by decide))).trans f_409
  have f_411 : h_185[f + 22]? = some (.inr (8, [.int vzp, .ref (f + 23), .ref (f + 24), .ref (f + 25)])) := (r_188 (f + 22) (dr (i := 22) (m := 9) hap (by decide) (by decide))).trans f_410
  have f_412 : h_273[f + 22]? = some (.inr (8, [.int vzp, .ref (f + 23), .ref (f + 24), .ref (f + 25)])) := (r_276 (f + 22) (dr (i := 22) (m := 14) hap (by decide) (by decide))).trans f_411
  have f_413 : h_355[f + 22]? = some (.inr (8, [.int vzp, .ref (f + 23), .ref (f + 24), .ref (f + 25)])) := (r_358 (f + 22) (dr (i := 22) (m := 18) hap (by decide) (by decide))).trans f_412
  have f_414 : h_1[f + 23]? = some (.inl (1, 12, .inl vz1)) := (s_ne e_2 (dj (i := 23) (j := 1) hap (by decide) (by decide))).trans hvz1
  have f_415 : h_7[f + 23]? = some (.inl (1, 12, .inl vz1)) := (s_ne e_8 (dj (i := 23) (j := 0) hap (by decide) (by decide))).trans f_414
  have f_416 : h_12[f + 23]? = some (.inl (1, 12, .inl vz1)) := (s_ne e_13 (dj (i := 23) (j := 0) hap (by decide) (by decide))).trans f_415
  have f_417 : h_17[f + 23]? = some (.inl (1, 12, .inl vz1)) := (s_ne e_18 (dj (i := 23) (j := 0) hap (by decide) (by decide))).trans f_416
  have f_418 : h_22[f + 23]? = some (.inl (1, 12, .inl vz1)) := (s_ne e_23 (dj (i := 23) (j := 0) hap (by decide) (by decide))).trans f_417
  have f_419 : h_27[f + 23]? = some (.inl (1, 12, .inl vz1)) := (s_ne e_28 (dj (i := 23) (j := 0) hap (by decide) (by decide))).trans f_418
  have f_420 : h_105[f + 23]? = some (.inl (1, 12, .inl vz1)) := (r_108 (f + 23) (dr (i := 23) (m := 4) hap (by decide) (by decide))).trans f_419
  have f_421 : h_185[f + 23]? = some (.inl (1, 12, .inl vz1)) := (r_188 (f + 23) (dr (i := 23) (m := 9) hap (by decide) (by decide))).trans f_420
  have f_422 : h_273[f + 23]? = some (.inl (1, 12, .inl vz1)) := (r_276 (f + 23) (dr (i := 23) (m := 14) hap (by decide) (by decide))).trans f_421
  have f_423 : h_355[f + 23]? = some (.inl (1, 12, .inl vz1)) := (r_358 (f + 23) (dr (i := 23) (m := 18) hap (by decide) (by decide))).trans f_422
  have f_424 : h_1[f + 24]? = some (.inl (1, 12, .inl vz2)) := (s_ne e_2 (dj (i := 24) (j := 1) hap (by decide) (by decide))).trans hvz2
  have f_425 : h_7[f + 24]? = some (.inl (1, 12, .inl vz2)) := (s_ne e_8 (dj (i := 24) (j := 0) hap (by decide) (by decide))).trans f_424
  have f_426 : h_12[f + 24]? = some (.inl (1, 12, .inl vz2)) := (s_ne e_13 (dj (i := 24) (j := 0) hap (by decide) (by decide))).trans f_425
  have f_427 : h_17[f + 24]? = some (.inl (1, 12, .inl vz2)) := (s_ne e_18 (dj (i := 24) (j := 0) hap (by decide) (by decide))).trans f_426
  have f_428 : h_22[f + 24]? = some (.inl (1, 12, .inl vz2)) := (s_ne e_23 (dj (i := 24) (j := 0) hap (by decide) (by decide))).trans f_427
  have f_429 : h_27[f + 24]? = some (.inl (1, 12, .inl vz2)) := (s_ne e_28 (dj (i := 24) (j := 0) hap (by decide) (by decide))).trans f_428
  have f_430 : h_105[f + 24]? = some (.inl (1, 12, .inl vz2)) := (r_108 (f + 24) (dr (i := 24) (m := 4) hap (by decide) (by decide))).trans f_429
  have f_431 : h_185[f + 24]? = some (.inl (1, 12, .inl vz2)) := (r_188 (f + 24) (dr (i := 24) (m := 9) hap (by decide) (by decide))).trans f_430
  have f_432 : h_273[f + 24]? = some (.inl (1, 12, .inl vz2)) := (r_276 (f + 24) (dr (i := 24) (m := 14) hap (by decide) (by decide))).trans f_431
  have f_433 : h_355[f + 24]? = some (.inl (1, 12, .inl vz2)) := (r_358 (f + 24) (dr (i := 24) (m := 18) hap (by decide) (by decide))).trans f_432
  have f_434 : h_1[f + 25]? = some (.inl (1, 12, .inl vz3)) := (s_ne e_2 (dj (i := 25) (j := 1) hap (by decide) (by decide))).trans hvz3
  have f_435 : h_7[f + 25]? = some (.inl (1, 12, .inl vz3)) := (s_ne e_8 (dj (i := 25) (j := 0) hap (by decide) (by decide))).trans f_434
  have f_436 : h_12[f + 25]? = some (.inl (1, 12, .inl vz3)) := (s_ne e_13 (dj (i := 25) (j := 0) hap (by decide) (by decide))).trans f_435
  have f_437 : h_17[f + 25]? = some (.inl (1, 12, .inl vz3)) := (s_ne e_18 (dj (i := 25) (j := 0) hap (by decide) (by decide))).trans f_436
  have f_438 : h_22[f + 25]? = some (.inl (1, 12, .inl vz3)) := (s_ne e_23 (dj (i := 25) (j := 0) hap (by decide) (by decide))).trans f_437
  have f_439 : h_27[f + 25]? = some (.inl (1, 12, .inl vz3)) := (s_ne e_28 (dj (i := 25) (j := 0) hap (by decide) (by decide))).trans f_438
  have f_440 : h_105[f + 25]? = some (.inl (1, 12, .inl vz3)) := (r_108 (f + 25) (dr (i := 25) (m := 4) hap (by decide) (by decide))).trans f_439
  have f_441 : h_185[f + 25]? = some (.inl (1, 12, .inl vz3)) := (r_188 (f + 25) (dr (i := 25) (m := 9) hap (by decide) (by decide))).trans f_440
  have f_442 : h_273[f + 25]? = some (.inl (1, 12, .inl vz3)) := (r_276 (f + 25) (dr (i := 25) (m := 14) hap (by decide) (by decide))).trans f_441
  have f_443 : h_355[f + 25]? = some (.inl (1, 12, .inl vz3)) := (r_358 (f + 25) (dr (i := 25) (m := 18) hap (by decide) (by decide))).trans f_442
  refine J_callV (As := [.ref (f + 22)]) (rest := []) dX7_copy_103 (c_X8_copy (d := 1) (h := h_355) (t := (t + 22)) (f := (f + 22)) (by decide) f_373 f_383 f_393 f_403 f_413 f_423 f_433 f_443 (Or.elim hap (fun q => Or.inl (by omega)) (fun q => Or.inr (by omega)))) hq.n k690 k691 k692 f_373 rfl rfl k90 k693 np_X8_copy (Nat.le_trans (by decide) hd) (by decide) (Nat.le_refl _) (Nat.le_refl _) (hkz l_359) rfl (Nat.le_of_ble_eq_true rfl) (fun r_444 h_445 p_446 => ?_)
  obtain ⟨rfl, l_447, r_448⟩ := p_446
  have l_449 := l_447.trans l_359
  refine J_iinc (i := 2) (j := 0) (v := 3) (lw := [(2, .int 3), (0, .ref t), (1, .ref f)]) dX7_copy_106 rfl (by decide) (by decide) rfl ?_
  refine J_goto (tgt := 86) dX7_copy_109 (by decide) ?_
  refine J_iload_n (i := 2) (j := 0) dX7_copy_86 rfl rfl ?_
  refine J_iconst (v := 3) dX7_copy_87 (by decide) ?_
  refine J_icmp_ge (tgt := 112) dX7_copy_88 (by decide) (fun _ => ?_) (fun q => absurd (by decide) q)
  exact J_vret hq dX7_copy_112 rfl (hkz l_449) (Nat.le_refl _) (Nat.le_refl _) ⟨rfl, l_449, fun j hj => (((((((((((r_448 j (by omega))).trans (r_358 j (by omega))).trans (r_276 j (by omega))).trans (r_188 j (by omega))).trans (r_108 j (by omega))).trans (s_ne e_28 (by omega))).trans (s_ne e_23 (by omega))).trans (s_ne e_18 (by omega))).trans (s_ne e_13 (by omega))).trans (s_ne e_8 (by omega))).trans (s_ne e_2 (by omega))⟩
