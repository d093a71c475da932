theorem k1249 : Cond.methodLink RX10 334 yX7_copy ∈ gt := gt_in 1249 (by decide +kernel) (by decide +kernel)
theorem k1250 : Cond.instanceMethod yX7_copy ∈ gt := gt_in 1250 (by decide +kernel) (by decide +kernel)
theorem k1251 : Cond.selects RX7 yX7_copy yX7_copy ∈ gt := gt_in 1251 (by decide +kernel) (by decide +kernel)
theorem k1252 : Cond.code yX7_copy cX7_copy 3 none ∈ gt := gt_in 1252 (by decide +kernel) (by decide +kernel)
theorem np_X7_copy : yX7_copy.cls ≠ "java/lang/invoke/MethodHandle" ∧ yX7_copy.cls ≠ "java/lang/invoke/VarHandle" ∧ (parseMethodDescriptor yX7_copy.desc).map (fun d => d.parameters.length) = some 1 := by decide +kernel
theorem dX10_image_0 : decode cX10_image 0 = .ok (.iload_n 1, 1) := by decide +kernel
theorem dX10_image_1 : decode cX10_image 1 = .ok (.ifCond .lt 8, 3) := by decide +kernel
theorem dX10_image_4 : decode cX10_image 4 = .ok (.iload_n 1, 1) := by decide +kernel
theorem dX10_image_5 : decode cX10_image 5 = .ok (.iconst 3, 1) := by decide +kernel
theorem dX10_image_6 : decode cX10_image 6 = .ok (.if_icmp .lt 5, 3) := by decide +kernel
theorem dX10_image_9 : decode cX10_image 9 = .ok (.iconst 0, 1) := by decide +kernel
theorem dX10_image_10 : decode cX10_image 10 = .ok (.ireturn, 1) := by decide +kernel
theorem dX10_image_11 : decode cX10_image 11 = .ok (.aload_n 0, 1) := by decide +kernel
theorem dX10_image_12 : decode cX10_image 12 = .ok (.getfield 16, 3) := by decide +kernel
theorem dX10_image_15 : decode cX10_image 15 = .ok (.iload_n 1, 1) := by decide +kernel
theorem dX10_image_16 : decode cX10_image 16 = .ok (.aaload, 1) := by decide +kernel
theorem dX10_image_17 : decode cX10_image 17 = .ok (.aload_n 0, 1) := by decide +kernel
theorem dX10_image_18 : decode cX10_image 18 = .ok (.getfield 10, 3) := by decide +kernel
theorem dX10_image_21 : decode cX10_image 21 = .ok (.invokevirtual 334, 3) := by decide +kernel
theorem dX10_image_24 : decode cX10_image 24 = .ok (.aload_n 0, 1) := by decide +kernel
theorem dX10_image_25 : decode cX10_image 25 = .ok (.getfield 20, 3) := by decide +kernel
theorem dX10_image_28 : decode cX10_image 28 = .ok (.iload_n 1, 1) := by decide +kernel
theorem dX10_image_29 : decode cX10_image 29 = .ok (.iconst 1, 1) := by decide +kernel
theorem dX10_image_30 : decode cX10_image 30 = .ok (.bastore, 1) := by decide +kernel
theorem dX10_image_31 : decode cX10_image 31 = .ok (.iconst 1, 1) := by decide +kernel
theorem dX10_image_32 : decode cX10_image 32 = .ok (.ireturn, 1) := by decide +kernel
set_option maxHeartbeats 4000000 in
set_option maxRecDepth 100000 in
theorem c_X10_image0 {d : Nat} {h : List MC} {a0 : Int32} (hd : 3 ≤ d) (h0 : h[0]? = some (.inr (10, [.ref 1, .ref 27, .ref 28, .ref 29, .ref 43, .ref 49, .ref 53, .ref 56, .ref 57, .ref 79]))) (h1 : h[1]? = some (.inr (7, [.ref 2, .int 0, .int 0, .int (-1), .ref 3, .int 0, .ref 4, .int 0]))) (h27 : h[27]? = some (.inl (5, 3, .inr (.inr (va_up (va_up (va_up (fun _ => none) ((0 : Int32).toNatClampNeg) (some (84))) ((1 : Int32).toNatClampNeg) (some (110))) ((2 : Int32).toNatClampNeg) (some (136))))))) (h28 : h[28]? = some (.inl (3, 3, .inl (fun _ => 0)))) (g2 : h[2]? = some (.inl (0, 600, .inl (fun _ => 0)))) (g3 : h[3]? = some (.inl (4, 2, .inr (.inr (va_up (va_up (fun _ => none) ((0 : Int32).toNatClampNeg) (some (5))) ((1 : Int32).toNatClampNeg) (some (10))))))) (g4 : h[4]? = some (.inl (6, 3, .inr (.inr (va_up (va_up (va_up (fun _ => none) ((0 : Int32).toNatClampNeg) (some (15))) ((1 : Int32).toNatClampNeg) (some (19))) ((2 : Int32).toNatClampNeg) (some (23))))))) (g5 : h[5]? = some (.inr (1, [.int 0, .ref 6, .int 0, .ref 7, .ref 8, .ref 9]))) (g6 : h[6]? = some (.inl (1, 144, .inl (fun _ => 0)))) (g7 : h[7]? = some (.inl (1, 4, .inl (fun _ => 0)))) (g8 : h[8]? = some (.inl (1, 4, .inl (fun _ => 0)))) (g9 : h[9]? = some (.inl (1, 3, .inl (fun _ => 0)))) (g10 : h[10]? = some (.inr (1, [.int 0, .ref 11, .int 0, .ref 12, .ref 13, .ref 14]))) (g11 : h[11]? = some (.inl (1, 144, .inl (fun _ => 0)))) (g12 : h[12]? = some (.inl (1, 4, .inl (fun _ => 0)))) (g13 : h[13]? = some (.inl (1, 4, .inl (fun _ => 0)))) (g14 : h[14]? = some (.inl (1, 3, .inl (fun _ => 0)))) (g15 : h[15]? = some (.inr (8, [.int 0, .ref 16, .ref 17, .ref 18]))) (g16 : h[16]? = some (.inl (1, 12, .inl (fun _ => 0)))) (g17 : h[17]? = some (.inl (1, 12, .inl (fun _ => 0)))) (g18 : h[18]? = some (.inl (1, 12, .inl (fun _ => 0)))) (g19 : h[19]? = some (.inr (8, [.int 0, .ref 20, .ref 21, .ref 22]))) (g20 : h[20]? = some (.inl (1, 12, .inl (fun _ => 0)))) (g21 : h[21]? = some (.inl (1, 12, .inl (fun _ => 0)))) (g22 : h[22]? = some (.inl (1, 12, .inl (fun _ => 0)))) (g23 : h[23]? = some (.inr (8, [.int 0, .ref 24, .ref 25, .ref 26]))) (g24 : h[24]? = some (.inl (1, 12, .inl (fun _ => 0)))) (g25 : h[25]? = some (.inl (1, 12, .inl (fun _ => 0)))) (g26 : h[26]? = some (.inl (1, 12, .inl (fun _ => 0)))) (g84 : h[84]? = some (.inr (7, [.ref 85, .int 0, .int 0, .int (-1), .ref 86, .int 0, .ref 87, .int 0]))) (g85 : h[85]? = some (.inl (0, 600, .inl (fun _ => 0)))) (g86 : h[86]? = some (.inl (4, 2, .inr (.inr (va_up (va_up (fun _ => none) ((0 : Int32).toNatClampNeg) (some (88))) ((1 : Int32).toNatClampNeg) (some (93))))))) (g87 : h[87]? = some (.inl (6, 3, .inr (.inr (va_up (va_up (va_up (fun _ => none) ((0 : Int32).toNatClampNeg) (some (98))) ((1 : Int32).toNatClampNeg) (some (102))) ((2 : Int32).toNatClampNeg) (some (106))))))) (g88 : h[88]? = some (.inr (1, [.int 0, .ref 89, .int 0, .ref 90, .ref 91, .ref 92]))) (g89 : h[89]? = some (.inl (1, 144, .inl (fun _ => 0)))) (g90 : h[90]? = some (.inl (1, 4, .inl (fun _ => 0)))) (g91 : h[91]? = some (.inl (1, 4, .inl (fun _ => 0)))) (g92 : h[92]? = some (.inl (1, 3, .inl (fun _ => 0)))) (g93 : h[93]? = some (.inr (1, [.int 0, .ref 94, .int 0, .ref 95, .ref 96, .ref 97]))) (g94 : h[94]? = some (.inl (1, 144, .inl (fun _ => 0)))) (g95 : h[95]? = some (.inl (1, 4, .inl (fun _ => 0)))) (g96 : h[96]? = some (.inl (1, 4, .inl (fun _ => 0)))) (g97 : h[97]? = some (.inl (1, 3, .inl (fun _ => 0)))) (g98 : h[98]? = some (.inr (8, [.int 0, .ref 99, .ref 100, .ref 101]))) (g99 : h[99]? = some (.inl (1, 12, .inl (fun _ => 0)))) (g100 : h[100]? = some (.inl (1, 12, .inl (fun _ => 0)))) (g101 : h[101]? = some (.inl (1, 12, .inl (fun _ => 0)))) (g102 : h[102]? = some (.inr (8, [.int 0, .ref 103, .ref 104, .ref 105]))) (g103 : h[103]? = some (.inl (1, 12, .inl (fun _ => 0)))) (g104 : h[104]? = some (.inl (1, 12, .inl (fun _ => 0)))) (g105 : h[105]? = some (.inl (1, 12, .inl (fun _ => 0)))) (g106 : h[106]? = some (.inr (8, [.int 0, .ref 107, .ref 108, .ref 109]))) (g107 : h[107]? = some (.inl (1, 12, .inl (fun _ => 0)))) (g108 : h[108]? = some (.inl (1, 12, .inl (fun _ => 0)))) (g109 : h[109]? = some (.inl (1, 12, .inl (fun _ => 0)))) (g110 : h[110]? = some (.inr (7, [.ref 111, .int 0, .int 0, .int (-1), .ref 112, .int 0, .ref 113, .int 0]))) (g111 : h[111]? = some (.inl (0, 600, .inl (fun _ => 0)))) (g112 : h[112]? = some (.inl (4, 2, .inr (.inr (va_up (va_up (fun _ => none) ((0 : Int32).toNatClampNeg) (some (114))) ((1 : Int32).toNatClampNeg) (some (119))))))) (g113 : h[113]? = some (.inl (6, 3, .inr (.inr (va_up (va_up (va_up (fun _ => none) ((0 : Int32).toNatClampNeg) (some (124))) ((1 : Int32).toNatClampNeg) (some (128))) ((2 : Int32).toNatClampNeg) (some (132))))))) (g114 : h[114]? = some (.inr (1, [.int 0, .ref 115, .int 0, .ref 116, .ref 117, .ref 118]))) (g115 : h[115]? = some (.inl (1, 144, .inl (fun _ => 0)))) (g116 : h[116]? = some (.inl (1, 4, .inl (fun _ => 0)))) (g117 : h[117]? = some (.inl (1, 4, .inl (fun _ => 0)))) (g118 : h[118]? = some (.inl (1, 3, .inl (fun _ => 0)))) (g119 : h[119]? = some (.inr (1, [.int 0, .ref 120, .int 0, .ref 121, .ref 122, .ref 123]))) (g120 : h[120]? = some (.inl (1, 144, .inl (fun _ => 0)))) (g121 : h[121]? = some (.inl (1, 4, .inl (fun _ => 0)))) (g122 : h[122]? = some (.inl (1, 4, .inl (fun _ => 0)))) (g123 : h[123]? = some (.inl (1, 3, .inl (fun _ => 0)))) (g124 : h[124]? = some (.inr (8, [.int 0, .ref 125, .ref 126, .ref 127]))) (g125 : h[125]? = some (.inl (1, 12, .inl (fun _ => 0)))) (g126 : h[126]? = some (.inl (1, 12, .inl (fun _ => 0)))) (g127 : h[127]? = some (.inl (1, 12, .inl (fun _ => 0)))) (g128 : h[128]? = some (.inr (8, [.int 0, .ref 129, .ref 130, .ref 131]))) (g129 : h[129]? = some (.inl (1, 12, .inl (fun _ => 0)))) (g130 : h[130]? = some (.inl (1, 12, .inl (fun _ => 0)))) (g131 : h[131]? = some (.inl (1, 12, .inl (fun _ => 0)))) (g132 : h[132]? = some (.inr (8, [.int 0, .ref 133, .ref 134, .ref 135]))) (g133 : h[133]? = some (.inl (1, 12, .inl (fun _ => 0)))) (g134 : h[134]? = some (.inl (1, 12, .inl (fun _ => 0)))) (g135 : h[135]? = some (.inl (1, 12, .inl (fun _ => 0)))) (g136 : h[136]? = some (.inr (7, [.ref 137, .int 0, .int 0, .int (-1), .ref 138, .int 0, .ref 139, .int 0]))) (g137 : h[137]? = some (.inl (0, 600, .inl (fun _ => 0)))) (g138 : h[138]? = some (.inl (4, 2, .inr (.inr (va_up (va_up (fun _ => none) ((0 : Int32).toNatClampNeg) (some (140))) ((1 : Int32).toNatClampNeg) (some (145))))))) (g139 : h[139]? = some (.inl (6, 3, .inr (.inr (va_up (va_up (va_up (fun _ => none) ((0 : Int32).toNatClampNeg) (some (150))) ((1 : Int32).toNatClampNeg) (some (154))) ((2 : Int32).toNatClampNeg) (some (158))))))) (g140 : h[140]? = some (.inr (1, [.int 0, .ref 141, .int 0, .ref 142, .ref 143, .ref 144]))) (g141 : h[141]? = some (.inl (1, 144, .inl (fun _ => 0)))) (g142 : h[142]? = some (.inl (1, 4, .inl (fun _ => 0)))) (g143 : h[143]? = some (.inl (1, 4, .inl (fun _ => 0)))) (g144 : h[144]? = some (.inl (1, 3, .inl (fun _ => 0)))) (g145 : h[145]? = some (.inr (1, [.int 0, .ref 146, .int 0, .ref 147, .ref 148, .ref 149]))) (g146 : h[146]? = some (.inl (1, 144, .inl (fun _ => 0)))) (g147 : h[147]? = some (.inl (1, 4, .inl (fun _ => 0)))) (g148 : h[148]? = some (.inl (1, 4, .inl (fun _ => 0)))) (g149 : h[149]? = some (.inl (1, 3, .inl (fun _ => 0)))) (g150 : h[150]? = some (.inr (8, [.int 0, .ref 151, .ref 152, .ref 153]))) (g151 : h[151]? = some (.inl (1, 12, .inl (fun _ => 0)))) (g152 : h[152]? = some (.inl (1, 12, .inl (fun _ => 0)))) (g153 : h[153]? = some (.inl (1, 12, .inl (fun _ => 0)))) (g154 : h[154]? = some (.inr (8, [.int 0, .ref 155, .ref 156, .ref 157]))) (g155 : h[155]? = some (.inl (1, 12, .inl (fun _ => 0)))) (g156 : h[156]? = some (.inl (1, 12, .inl (fun _ => 0)))) (g157 : h[157]? = some (.inl (1, 12, .inl (fun _ => 0)))) (g158 : h[158]? = some (.inr (8, [.int 0, .ref 159, .ref 160, .ref 161]))) (g159 : h[159]? = some (.inl (1, 12, .inl (fun _ => 0)))) (g160 : h[160]? = some (.inl (1, 12, .inl (fun _ => 0)))) (g161 : h[161]? = some (.inl (1, 12, .inl (fun _ => 0))))  : CT con0 d 0 0 yX10_image cX10_image 2 (some .boolean) [.ref 0, .int a0] h (fun r h2 => r = some (.int (if a0 < 0 then 0 else if a0 < 3 then 1 else 0)) ∧ FX h h2) := by
  refine CT_of (by decide) (Nat.le_of_ble_eq_true rfl) (fun x hq => ?_)
  show J x yX10_image cX10_image 2 (some .boolean) d 0 0 h.length 0 [(0, .ref 0), (1, .int a0)] [] h 0 0
  refine J_iload_n (i := 1) (j := 1) dX10_image_0 rfl rfl ?_
  refine J_if_lt (tgt := 9) dX10_image_1 (by decide) (fun c_1 => ?_) (fun c_1 => ?_)
  · refine J_iconst (v := 0) dX10_image_9 (by decide) ?_
    exact J_zret hq dX10_image_10 rfl rfl (hkz rfl) (Nat.le_refl _) (Nat.le_refl _) ⟨by simp [c_1], ⟨rfl, fun j hj => rfl⟩⟩
  · refine J_iload_n (i := 1) (j := 1) dX10_image_4 rfl rfl ?_
    refine J_iconst (v := 3) dX10_image_5 (by decide) ?_
    refine J_icmp_lt (tgt := 11) dX10_image_6 (by decide) (fun c_2 => ?_) (fun c_2 => ?_)
    · rcases k3 c_1 c_2 with rfl | rfl | rfl
      · refine J_aload_n (i := 0) (j := 0) dX10_image_11 rfl rfl ?_
        refine J_get (C := RX10) (T := TX10) (Z := 10) (ci := 10) (f := 1) dX10_image_12 inG10 rfl (by decide) k424 h0 rfl ?_
        refine J_iload_n (i := 1) (j := 1) dX10_image_15 rfl rfl ?_
        refine J_aald (q := 84) dX10_image_16 h27 (fun _ => rfl) (vp_c (by decide)) rfl ?_
        refine J_aload_n (i := 0) (j := 0) dX10_image_17 rfl rfl ?_
        refine J_get (C := RX10) (T := TX10) (Z := 10) (ci := 10) (f := 0) dX10_image_18 inG10 rfl (by decide) k423 h0 rfl ?_
        refine J_callV (As := [.ref 1]) (rest := []) dX10_image_21 (c_X7_copy (d := 2) (h := h) (t := 84) (f := 1) (by decide) g84 g85 g86 g87 g88 g89 g90 g91 g92 g93 g94 g95 g96 g97 g98 g99 g100 g101 g102 g103 g104 g105 g106 g107 g108 g109 h1 g2 g3 g4 g5 g6 g7 g8 g9 g10 g11 g12 g13 g14 g15 g16 g17 g18 g19 g20 g21 g22 g23 g24 g25 g26 (by decide) (fun _ _ => rfl)) hq.n k1249 k1250 k1251 g84 rfl rfl k88 k1252 np_X7_copy (Nat.le_trans (by decide) hd) (by decide) (Nat.le_refl _) (Nat.le_refl _) (hkz rfl) rfl (Nat.le_of_ble_eq_true rfl) (fun r_3 h_4 p_5 => ?_)
        obtain ⟨rfl, l_6, r_7⟩ := p_5
        have l_8 := l_6.trans rfl
        refine J_aload_n (i := 0) (j := 0) dX10_image_24 rfl rfl ?_
        have f_9 : h_4[0]? = some (.inr (10, [.ref 1, .ref 27, .ref 28, .ref 29, .ref 43, .ref 49, .ref 53, .ref 56, .ref 57, .ref 79])) := (r_7 0 (by decide)).trans h0
        refine J_get (C := RX10) (T := TX10) (Z := 10) (ci := 10) (f := 2) dX10_image_25 inG10 rfl (by decide) k425 f_9 rfl ?_
        refine J_iload_n (i := 1) (j := 1) dX10_image_28 rfl rfl ?_
        refine J_iconst (v := 1) dX10_image_29 (by decide) ?_
        have f_10 : h_4[28]? = some (.inl (3, 3, .inl (fun _ => 0))) := (r_7 28 (by decide)).trans h28
        obtain ⟨h_11, e_12⟩ : ∃ z, z = h_4.set 28 (.inl (3, 3, .inl (upd (fun _ => 0) ((0 : Int32).toNatClampNeg) (vp_nar .boolean 1)))) := ⟨_, rfl⟩
        refine J_zast dX10_image_30 f_10 (vp_c (by decide)) e_12.symm ?_
        have f_13 := a_set e_12 f_10
        have l_14 := l_set e_12 l_8
        refine J_iconst (v := 1) dX10_image_31 (by decide) ?_
        exact J_zret hq dX10_image_32 rfl rfl (hkz l_14) (Nat.le_refl _) (Nat.le_refl _) ⟨by decide, ⟨l_14, fun j hj => ((s_ne e_12 (by omega))).trans (r_7 j (by omega))⟩⟩
      · refine J_aload_n (i := 0) (j := 0) dX10_image_11 rfl rfl ?_
        refine J_get (C := RX10) (T := TX10) (Z := 10) (ci := 10) (f := 1) dX10_image_12 inG10 rfl (by decide) k424 h0 rfl ?_
        refine J_iload_n (i := 1) (j := 1) dX10_image_15 rfl rfl ?_
        refine J_aald (q := 110) dX10_image_16 h27 (fun _ => rfl) (vp_c (by decide)) rfl ?_
        refine J_aload_n (i := 0) (j := 0) dX10_image_17 rfl rfl ?_
        refine J_get (C := RX10) (T := TX10) (Z := 10) (ci := 10) (f := 0) dX10_image_18 inG10 rfl (by decide) k423 h0 rfl ?_
        refine J_callV (As := [.ref 1]) (rest := []) dX10_image_21 (c_X7_copy (d := 2) (h := h) (t := 110) (f := 1) (by decide) g110 g111 g112 g113 g114 g115 g116 g117 g118 g119 g120 g121 g122 g123 g124 g125 g126 g127 g128 g129 g130 g131 g132 g133 g134 g135 h1 g2 g3 g4 g5 g6 g7 g8 g9 g10 g11 g12 g13 g14 g15 g16 g17 g18 g19 g20 g21 g22 g23 g24 g25 g26 (by decide) (fun _ _ => rfl)) hq.n k1249 k1250 k1251 g110 rfl rfl k88 k1252 np_X7_copy (Nat.le_trans (by decide) hd) (by decide) (Nat.le_refl _) (Nat.le_refl _) (hkz rfl) rfl (Nat.le_of_ble_eq_true rfl) (fun r_15 h_16 p_17 => ?_)
        obtain ⟨rfl, l_18, r_19⟩ := p_17
        have l_20 := l_18.trans rfl
        refine J_aload_n (i := 0) (j := 0) dX10_image_24 rfl rfl ?_
        have f_21 : h_16[0]? = some (.inr (10, [.ref 1, .ref 27, .ref 28, .ref 29, .ref 43, .ref 49, .ref 53, .ref 56, .ref 57, .ref 79])) := (r_19 0 (by decide)).trans h0
        refine J_get (C := RX10) (T := TX10) (Z := 10) (ci := 10) (f := 2) dX10_image_25 inG10 rfl (by decide) k425 f_21 rfl ?_
        refine J_iload_n (i := 1) (j := 1) dX10_image_28 rfl rfl ?_
        refine J_iconst (v := 1) dX10_image_29 (by decide) ?_
        have f_22 : h_16[28]? = some (.inl (3, 3, .inl (fun _ => 0))) := (r_19 28 (by decide)).trans h28
        obtain ⟨h_23, e_24⟩ : ∃ z, z = h_16.set 28 (.inl (3, 3, .inl (upd (fun _ => 0) ((1 : Int32).toNatClampNeg) (vp_nar .boolean 1)))) := ⟨_, rfl⟩
        refine J_zast dX10_image_30 f_22 (vp_c (by decide)) e_24.symm ?_
        have f_25 := a_set e_24 f_22
        have l_26 := l_set e_24 l_20
        refine J_iconst (v := 1) dX10_image_31 (by decide) ?_
        exact J_zret hq dX10_image_32 rfl rfl (hkz l_26) (Nat.le_refl _) (Nat.le_refl _) ⟨by decide, ⟨l_26, fun j hj => ((s_ne e_24 (by omega))).trans (r_19 j (by omega))⟩⟩
      · refine J_aload_n (i := 0) (j := 0) dX10_image_11 rfl rfl ?_
        refine J_get (C := RX10) (T := TX10) (Z := 10) (ci := 10) (f := 1) dX10_image_12 inG10 rfl (by decide) k424 h0 rfl ?_
        refine J_iload_n (i := 1) (j := 1) dX10_image_15 rfl rfl ?_
        refine J_aald (q := 136) dX10_image_16 h27 (fun _ => rfl) (vp_c (by decide)) rfl ?_
        refine J_aload_n (i := 0) (j := 0) dX10_image_17 rfl rfl ?_
        refine J_get (C := RX10) (T := TX10) (Z := 10) (ci := 10) (f := 0) dX10_image_18 inG10 rfl (by decide) k423 h0 rfl ?_
        refine J_callV (As := [.ref 1]) (rest := []) dX10_image_21 (c_X7_copy (d := 2) (h := h) (t := 136) (f := 1) (by decide) g136 g137 g138 g139 g140 g141 g142 g143 g144 g145 g146 g147 g148 g149 g150 g151 g152 g153 g154 g155 g156 g157 g158 g159 g160 g161 h1 g2 g3 g4 g5 g6 g7 g8 g9 g10 g11 g12 g13 g14 g15 g16 g17 g18 g19 g20 g21 g22 g23 g24 g25 g26 (by decide) (fun _ _ => rfl)) hq.n k1249 k1250 k1251 g136 rfl rfl k88 k1252 np_X7_copy (Nat.le_trans (by decide) hd) (by decide) (Nat.le_refl _) (Nat.le_refl _) (hkz rfl) rfl (Nat.le_of_ble_eq_true rfl) (fun r_27 h_28 p_29 => ?_)
        obtain ⟨rfl, l_30, r_31⟩ := p_29
        have l_32 := l_30.trans rfl
        refine J_aload_n (i := 0) (j := 0) dX10_image_24 rfl rfl ?_
        have f_33 : h_28[0]? = some (.inr (10, [.ref 1, .ref 27, .ref 28, .ref 29, .ref 43, .ref 49, .ref 53, .ref 56, .ref 57, .ref 79])) := (r_31 0 (by decide)).trans h0
        refine J_get (C := RX10) (T := TX10) (Z := 10) (ci := 10) (f := 2) dX10_image_25 inG10 rfl (by decide) k425 f_33 rfl ?_
        refine J_iload_n (i := 1) (j := 1) dX10_image_28 rfl rfl ?_
        refine J_iconst (v := 1) dX10_image_29 (by decide) ?_
        have f_34 : h_28[28]? = some (.inl (3, 3, .inl (fun _ => 0))) := (r_31 28 (by decide)).trans h28
        obtain ⟨h_35, e_36⟩ : ∃ z, z = h_28.set 28 (.inl (3, 3, .inl (upd (fun _ => 0) ((2 : Int32).toNatClampNeg) (vp_nar .boolean 1)))) := ⟨_, rfl⟩
        refine J_zast dX10_image_30 f_34 (vp_c (by decide)) e_36.symm ?_
        have f_37 := a_set e_36 f_34
        have l_38 := l_set e_36 l_32
        refine J_iconst (v := 1) dX10_image_31 (by decide) ?_
        exact J_zret hq dX10_image_32 rfl rfl (hkz l_38) (Nat.le_refl _) (Nat.le_refl _) ⟨by decide, ⟨l_38, fun j hj => ((s_ne e_36 (by omega))).trans (r_31 j (by omega))⟩⟩
    · refine J_iconst (v := 0) dX10_image_9 (by decide) ?_
      exact J_zret hq dX10_image_10 rfl rfl (hkz rfl) (Nat.le_refl _) (Nat.le_refl _) ⟨by simp [c_1, c_2], ⟨rfl, fun j hj => rfl⟩⟩
