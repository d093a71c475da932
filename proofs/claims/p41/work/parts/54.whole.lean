theorem k107 : Cond.classLink RL 7 RX10 ∈ gt := gt_1_0 (i := 21) rfl rfl
theorem k108 : Cond.instantiable RX10 10 ∈ gt := gt_1_0 (i := 22) rfl rfl
theorem k109 : Cond.methodLink RL 9 yX10_init ∈ gt := gt_1_0 (i := 23) rfl rfl
theorem k110 : Cond.instanceMethod yX10_init ∈ gt := gt_1_1 (i := 0) rfl rfl
theorem k111 : Cond.code yX10_init cX10_init 2 none ∈ gt := gt_1_1 (i := 1) rfl rfl
theorem np_X10_init : yX10_init.cls ≠ "java/lang/invoke/MethodHandle" ∧ yX10_init.cls ≠ "java/lang/invoke/VarHandle" ∧ (parseMethodDescriptor yX10_init.desc).map (fun d => d.parameters.length) = some 0 := ⟨cq_RX10.1, cq_RX10.2, pd_3⟩
theorem k1258 : Cond.classLink RL 10 RX11 ∈ gt := gt_5_8 (i := 20) rfl rfl
theorem k1259 : Cond.instantiable RX11 43 ∈ gt := gt_5_8 (i := 21) rfl rfl
theorem k1260 : Cond.methodLink RL 12 yX11_init ∈ gt := gt_5_8 (i := 22) rfl rfl
theorem k1261 : Cond.instanceMethod yX11_init ∈ gt := gt_5_8 (i := 23) rfl rfl
theorem k1262 : Cond.code yX11_init cX11_init 1 none ∈ gt := gt_5_9 (i := 0) rfl rfl
theorem np_X11_init : yX11_init.cls ≠ "java/lang/invoke/MethodHandle" ∧ yX11_init.cls ≠ "java/lang/invoke/VarHandle" ∧ (parseMethodDescriptor yX11_init.desc).map (fun d => d.parameters.length) = some 0 := ⟨cq_RX11.1, cq_RX11.2, pd_3⟩
theorem le8 {i : Int32} {L : Nat} (hL : L ≤ 4096) (h0 : 0 ≤ i.toInt) (h : ¬ (Int32.ofNat L - 8 < i)) : i.toInt + 8 ≤ L := by
  have e8 : (8 : Int32).toInt = 8 := rfl
  have eL : (Int32.ofNat L).toInt = L := Int32.toInt_ofNat_of_lt (by omega)
  have h1 := Int32.le_iff_toInt_le.mp (i_nlt h)
  rw [ti_sub (by omega) (by omega), eL, e8] at h1
  omega
theorem add8 {i : Int32} (h0 : 0 ≤ i.toInt) (h1 : i.toInt ≤ 4096) : (i + 8).toInt = i.toInt + 8 := by
  have e8 : (8 : Int32).toInt = 8 := rfl
  rw [ti_add (by omega) (by omega), e8]
set_option maxHeartbeats 4000000 in
set_option maxRecDepth 100000 in
theorem law_loop {x : JX} {bb L : Nat} {xs : Nat → Int32} (hq : LQ x bb) (hcon : x.2.2.2.2.2.2.2.2.2.2.2.2.2.2.1 0 = some (L, xs)) (hL : L ≤ 4096) : ∀ (r : Nat) (i : Int32) (u : Nat → Nat → Int32) (g : Nat → Nat → Int64) (ex : List MC) (k n : Nat), 0 ≤ i.toInt → i.toInt ≤ L → (L : Int) - i.toInt ≤ 8 * r + 7 → INX u → k = 182 + ex.length → k + r ≤ 600000 → n + r ≤ 7302250 → J x yL_law code 4 ret 11 600000 7302250 0 18 [(3, .int i), (2, .ref 162), (1, .ref 0), (0, .retAddr 0)] [] (Wd u g ex) k n := by
  intro r
  induction r with
  | zero =>
    intro i u g ex k n h0 h1 h2 hI hk hkr hnr
    refine J_iload_n (i := 3) (j := 0) dL_law_18 rfl rfl ?_
    refine J_aload_nC (i := 0) (j := 3) dL_law_19 rfl rfl ?_
    refine J_clen (z := L) (f := xs) dL_law_20 hcon ?_
    refine J_bipush (v := 8) dL_law_21 (by decide) ?_
    refine J_isub dL_law_23 ?_
    refine J_icmp_gt (tgt := 2261) dL_law_24 (by decide) (fun c => ?_) (fun c => ?_)
    · refine J_iconst (v := 1) dL_law_2261 (by decide) ?_
      exact J_law1 hq dL_law_2262 (by omega) (by omega)
    · have h8 := le8 hL h0 c
      exfalso
      omega
  | succ r ih =>
    intro i u g ex k n h0 h1 h2 hI hk hkr hnr
    refine J_iload_n (i := 3) (j := 0) dL_law_18 rfl rfl ?_
    refine J_aload_nC (i := 0) (j := 3) dL_law_19 rfl rfl ?_
    refine J_clen (z := L) (f := xs) dL_law_20 hcon ?_
    refine J_bipush (v := 8) dL_law_21 (by decide) ?_
    refine J_isub dL_law_23 ?_
    refine J_icmp_gt (tgt := 2261) dL_law_24 (by decide) (fun c => ?_) (fun c => ?_)
    · refine J_iconst (v := 1) dL_law_2261 (by decide) ?_
      exact J_law1 hq dL_law_2262 (by omega) (by omega)
    · have h8 := le8 hL h0 c
      have hi : LI i L := ⟨h0, h8, hL⟩
      have ei := add8 h0 (by omega)
      have KK : ∀ (u2 : Nat → Nat → Int32) (g2 : Nat → Nat → Int64) (ex2 : List MC) (k2 n2 : Nat), INX u2 → k2 = 182 + ex2.length → k2 ≤ k + 1 → n2 ≤ n + 1 → J x yL_law code 4 ret 11 600000 7302250 0 2255 [(3, .int i), (2, .ref 162), (1, .ref 0), (0, .retAddr 0)] [] (Wd u2 g2 ex2) k2 n2 := by
        intro u2 g2 ex2 k2 n2 a1 a2 a3 a4
        refine J_iinc (i := 3) (j := 0) (v := (i + 8)) (lw := [(3, .int (i + 8)), (2, .ref 162), (1, .ref 0), (0, .retAddr 0)]) dL_law_2255 rfl rfl (by decide) rfl ?_
        refine J_goto (tgt := 18) dL_law_2258 (by decide) ?_
        exact ih (i + 8) u2 g2 ex2 k2 n2 (by omega) (by omega) (by omega) a1 a2 (by omega) (by omega)
      refine J_aload_nC (i := 0) (j := 3) dL_law_27 rfl rfl ?_
      refine J_iload_n (i := 3) (j := 0) dL_law_28 rfl rfl ?_
      refine J_cald (z := L) (f := xs) dL_law_29 hcon (li_0 hi) ?_
      refine J_bipush (v := 63) dL_law_30 (by decide) ?_
      refine J_iand dL_law_32 ?_
      obtain ⟨j, hj, ej⟩ := pk_andE (xs i.toNatClampNeg) (m := 63) 6 (by decide)
      refine J_ci (v := nI j) ej ?_
      have hb : k + 1 ≤ 600000 ∧ n + 1 ≤ 7302250 := ⟨by omega, by omega⟩
      clear ej ih h0 h1 h2 hkr hnr h8 ei
      rcases Nat.lt_or_ge j 43 with hj2 | hj2
      · rcases (show j = 0 ∨ j = 1 ∨ j = 2 ∨ j = 3 ∨ j = 4 ∨ j = 5 ∨ j = 6 ∨ j = 7 ∨ j = 8 ∨ j = 9 ∨ j = 10 ∨ j = 11 ∨ j = 12 ∨ j = 13 ∨ j = 14 ∨ j = 15 ∨ j = 16 ∨ j = 17 ∨ j = 18 ∨ j = 19 ∨ j = 20 ∨ j = 21 ∨ j = 22 ∨ j = 23 ∨ j = 24 ∨ j = 25 ∨ j = 26 ∨ j = 27 ∨ j = 28 ∨ j = 29 ∨ j = 30 ∨ j = 31 ∨ j = 32 ∨ j = 33 ∨ j = 34 ∨ j = 35 ∨ j = 36 ∨ j = 37 ∨ j = 38 ∨ j = 39 ∨ j = 40 ∨ j = 41 ∨ j = 42 by omega) with rfl | rfl | rfl | rfl | rfl | rfl | rfl | rfl | rfl | rfl | rfl | rfl | rfl | rfl | rfl | rfl | rfl | rfl | rfl | rfl | rfl | rfl | rfl | rfl | rfl | rfl | rfl | rfl | rfl | rfl | rfl | rfl | rfl | rfl | rfl | rfl | rfl | rfl | rfl | rfl | rfl | rfl | rfl
        · refine J_tableIn (tgt := 220) dL_law_33 (by decide) (by decide) (off := 187) (by decide) (by decide) ?_
          exact law_0 hq hcon hi hI hk hb (Nat.le_refl _) KK
        · refine J_tableIn (tgt := 283) dL_law_33 (by decide) (by decide) (off := 250) (by decide) (by decide) ?_
          exact law_1 hq hcon hi hI hk hb (Nat.le_refl _) KK
        · refine J_tableIn (tgt := 306) dL_law_33 (by decide) (by decide) (off := 273) (by decide) (by decide) ?_
          exact law_2 hq hcon hi hI hk hb (Nat.le_refl _) KK
        · refine J_tableIn (tgt := 339) dL_law_33 (by decide) (by decide) (off := 306) (by decide) (by decide) ?_
          exact law_3 hq hcon hi hI hk hb (Nat.le_refl _) KK
        · refine J_tableIn (tgt := 362) dL_law_33 (by decide) (by decide) (off := 329) (by decide) (by decide) ?_
          exact law_4 hq hcon hi hI hk hb (Nat.le_refl _) KK
        · refine J_tableIn (tgt := 395) dL_law_33 (by decide) (by decide) (off := 362) (by decide) (by decide) ?_
          exact law_5 hq hcon hi hI hk hb (Nat.le_refl _) KK
        · refine J_tableIn (tgt := 448) dL_law_33 (by decide) (by decide) (off := 415) (by decide) (by decide) ?_
          exact law_6 hq hcon hi hI hk hb (Nat.le_refl _) KK
        · refine J_tableIn (tgt := 491) dL_law_33 (by decide) (by decide) (off := 458) (by decide) (by decide) ?_
          exact law_7 hq hcon hi hI hk hb (Nat.le_refl _) KK
        · refine J_tableIn (tgt := 534) dL_law_33 (by decide) (by decide) (off := 501) (by decide) (by decide) ?_
          exact law_8 hq hcon hi hI hk hb (Nat.le_refl _) KK
        · refine J_tableIn (tgt := 597) dL_law_33 (by decide) (by decide) (off := 564) (by decide) (by decide) ?_
          exact law_9 hq hcon hi hI hk hb (Nat.le_refl _) KK
        · refine J_tableIn (tgt := 640) dL_law_33 (by decide) (by decide) (off := 607) (by decide) (by decide) ?_
          exact law_10 hq hcon hi hI hk hb (Nat.le_refl _) KK
        · refine J_tableIn (tgt := 683) dL_law_33 (by decide) (by decide) (off := 650) (by decide) (by decide) ?_
          exact law_11 hq hcon hi hI hk hb (Nat.le_refl _) KK
        · refine J_tableIn (tgt := 742) dL_law_33 (by decide) (by decide) (off := 709) (by decide) (by decide) ?_
          exact law_12 hq hcon hi hI hk hb (Nat.le_refl _) KK
        · refine J_tableIn (tgt := 795) dL_law_33 (by decide) (by decide) (off := 762) (by decide) (by decide) ?_
          exact law_13 hq hcon hi hI hk hb (Nat.le_refl _) KK
        · refine J_tableIn (tgt := 848) dL_law_33 (by decide) (by decide) (off := 815) (by decide) (by decide) ?_
          exact law_14 hq hcon hi hI hk hb (Nat.le_refl _) KK
        · refine J_tableIn (tgt := 901) dL_law_33 (by decide) (by decide) (off := 868) (by decide) (by decide) ?_
          exact law_15 hq hcon hi hI hk hb (Nat.le_refl _) KK
        · refine J_tableIn (tgt := 944) dL_law_33 (by decide) (by decide) (off := 911) (by decide) (by decide) ?_
          exact law_16 hq hcon hi hI hk hb (Nat.le_refl _) KK
        · refine J_tableIn (tgt := 1003) dL_law_33 (by decide) (by decide) (off := 970) (by decide) (by decide) ?_
          exact law_17 hq hcon hi hI hk hb (Nat.le_refl _) KK
        · refine J_tableIn (tgt := 1046) dL_law_33 (by decide) (by decide) (off := 1013) (by decide) (by decide) ?_
          exact law_18 hq hcon hi hI hk hb (Nat.le_refl _) KK
        · refine J_tableIn (tgt := 1099) dL_law_33 (by decide) (by decide) (off := 1066) (by decide) (by decide) ?_
          exact law_19 hq hcon hi hI hk hb (Nat.le_refl _) KK
        · refine J_tableIn (tgt := 1142) dL_law_33 (by decide) (by decide) (off := 1109) (by decide) (by decide) ?_
          exact law_20 hq hcon hi hI hk hb (Nat.le_refl _) KK
        · refine J_tableIn (tgt := 1195) dL_law_33 (by decide) (by decide) (off := 1162) (by decide) (by decide) ?_
          exact law_21 hq hcon hi hI hk hb (Nat.le_refl _) KK
        · refine J_tableIn (tgt := 1264) dL_law_33 (by decide) (by decide) (off := 1231) (by decide) (by decide) ?_
          exact law_22 hq hcon hi hI hk hb (Nat.le_refl _) KK
        · refine J_tableIn (tgt := 1317) dL_law_33 (by decide) (by decide) (off := 1284) (by decide) (by decide) ?_
          exact law_23 hq hcon hi hI hk hb (Nat.le_refl _) KK
        · refine J_tableIn (tgt := 1386) dL_law_33 (by decide) (by decide) (off := 1353) (by decide) (by decide) ?_
          exact law_24 hq hcon hi hI hk hb (Nat.le_refl _) KK
        · refine J_tableIn (tgt := 1419) dL_law_33 (by decide) (by decide) (off := 1386) (by decide) (by decide) ?_
          exact law_25 hq hcon hi hI hk hb (Nat.le_refl _) KK
        · refine J_tableIn (tgt := 1482) dL_law_33 (by decide) (by decide) (off := 1449) (by decide) (by decide) ?_
          exact law_26 hq hcon hi hI hk hb (Nat.le_refl _) KK
        · refine J_tableIn (tgt := 1525) dL_law_33 (by decide) (by decide) (off := 1492) (by decide) (by decide) ?_
          exact law_27 hq hcon hi hI hk hb (Nat.le_refl _) KK
        · refine J_tableIn (tgt := 1558) dL_law_33 (by decide) (by decide) (off := 1525) (by decide) (by decide) ?_
          exact law_28 hq hcon hi hI hk hb (Nat.le_refl _) KK
        · refine J_tableIn (tgt := 1591) dL_law_33 (by decide) (by decide) (off := 1558) (by decide) (by decide) ?_
          exact law_29 hq hcon hi hI hk hb (Nat.le_refl _) KK
        · refine J_tableIn (tgt := 1624) dL_law_33 (by decide) (by decide) (off := 1591) (by decide) (by decide) ?_
          exact law_30 hq hcon hi hI hk hb (Nat.le_refl _) KK
        · refine J_tableIn (tgt := 1693) dL_law_33 (by decide) (by decide) (off := 1660) (by decide) (by decide) ?_
          exact law_31 hq hcon hi hI hk hb (Nat.le_refl _) KK
        · refine J_tableIn (tgt := 1736) dL_law_33 (by decide) (by decide) (off := 1703) (by decide) (by decide) ?_
          exact law_32 hq hcon hi hI hk hb (Nat.le_refl _) KK
        · refine J_tableIn (tgt := 1789) dL_law_33 (by decide) (by decide) (off := 1756) (by decide) (by decide) ?_
          exact law_33 hq hcon hi hI hk hb (Nat.le_refl _) KK
        · refine J_tableIn (tgt := 1868) dL_law_33 (by decide) (by decide) (off := 1835) (by decide) (by decide) ?_
          exact law_34 hq hcon hi hI hk hb (Nat.le_refl _) KK
        · refine J_tableIn (tgt := 1911) dL_law_33 (by decide) (by decide) (off := 1878) (by decide) (by decide) ?_
          exact law_35 hq hcon hi hI hk hb (Nat.le_refl _) KK
        · refine J_tableIn (tgt := 1944) dL_law_33 (by decide) (by decide) (off := 1911) (by decide) (by decide) ?_
          exact law_36 hq hcon hi hI hk hb (Nat.le_refl _) KK
        · refine J_tableIn (tgt := 2003) dL_law_33 (by decide) (by decide) (off := 1970) (by decide) (by decide) ?_
          exact law_37 hq hcon hi hI hk hb (Nat.le_refl _) KK
        · refine J_tableIn (tgt := 2090) dL_law_33 (by decide) (by decide) (off := 2057) (by decide) (by decide) ?_
          exact law_38 hq hcon hi hI hk hb (Nat.le_refl _) KK
        · refine J_tableIn (tgt := 2133) dL_law_33 (by decide) (by decide) (off := 2100) (by decide) (by decide) ?_
          exact law_39 hq hcon hi hI hk hb (Nat.le_refl _) KK
        · refine J_tableIn (tgt := 2186) dL_law_33 (by decide) (by decide) (off := 2153) (by decide) (by decide) ?_
          exact law_40 hq hcon hi hI hk hb (Nat.le_refl _) KK
        · refine J_tableIn (tgt := 2209) dL_law_33 (by decide) (by decide) (off := 2176) (by decide) (by decide) ?_
          exact law_41 hq hcon hi hI hk hb (Nat.le_refl _) KK
        · refine J_tableIn (tgt := 2232) dL_law_33 (by decide) (by decide) (off := 2199) (by decide) (by decide) ?_
          exact law_42 hq hcon hi hI hk hb (Nat.le_refl _) KK
      · refine J_tableOut (tgt := 2255) dL_law_33 (Or.inr (by rw [nI_toInt (by omega)]; omega)) (by decide) ?_
        exact KK u g ex k n hI hk (Nat.le_succ _) (Nat.le_succ _)
set_option maxHeartbeats 4000000 in
set_option maxRecDepth 100000 in
theorem law_start {x : JX} {bb L : Nat} {xs : Nat → Int32} (hq : LQ x bb) (hL : L ≤ 4096) (hcon : x.2.2.2.2.2.2.2.2.2.2.2.2.2.2.1 0 = some (L, xs)) (hd : 11 ≤ 11) : J x yL_law code 4 ret 11 600000 7302250 0 0 [(0, .retAddr 0)] [] [] 0 0 := by
  refine J_new (C := RX10) (T := TX10) (Z := 10) (ci := 10) (fs := [.null, .null, .null, .null, .null, .null, .null, .null, .null, .null]) (ty0 := tyX10) dL_law_0 inG10 rfl tyX10_ok k107 k108 k87 fsX10 rfl (by decide) (by decide) ?_
  obtain ⟨w1, e1⟩ : ∃ z : List MC, z = ([] : List MC) ++ [(.inr (10, [.null, .null, .null, .null, .null, .null, .null, .null, .null, .null]))] := ⟨_, rfl⟩
  refine J_w e1.symm ?_
  refine J_cr (v := 0) rfl ?_
  have f1 := a_push (N := 0) e1 rfl
  have l1 : w1.length = 1 := l_push e1 (N := 0) rfl rfl
  refine J_dup dL_law_3 rfl ?_
  refine J_callI (As := []) (rest := [.ref 0]) dL_law_4 (c_X10_init (d := 4) (h := w1) (o := 0) (n0 := 1) (by decide) l1 f1) hq.n k109 k110 rfl rfl k87 k111 np_X10_init (Nat.le_trans (by decide) hd) (by decide) (by decide) (by decide) (by omega) rfl (Nat.le_of_ble_eq_true rfl) (fun r_2 h2 p_2 => ?_)
  obtain ⟨rfl, l2, f2, b2, fr2⟩ := p_2
  refine J_astore_n (i := 1) (lw := [(1, .ref 0), (0, .retAddr 0)]) dL_law_7 rfl (by decide) rfl ?_
  refine J_new (C := RX11) (T := TX11) (Z := 43) (ci := 11) (fs := [.int 0, .null, .null, .null, .null, .null, .null, .null, .int 0, .int 0, .int 0, .int 0, .int 0, .long 0, .int 0, .int 0, .int 0, .int 0, .int 0, .null, .null, .null, .int 0, .int 0, .int 0, .int 0, .int 0, .int 0, .null, .null, .null, .int 0, .int 0, .int 0, .null, .null, .null, .null, .null, .int 0, .long 0, .int 0, .null]) (ty0 := tyX11) dL_law_8 inG11 rfl tyX11_ok k1258 k1259 k97 fsX11 (by omega) (by decide) (by decide) ?_
  obtain ⟨w3, e3⟩ : ∃ z : List MC, z = h2 ++ [(.inr (11, [.int 0, .null, .null, .null, .null, .null, .null, .null, .int 0, .int 0, .int 0, .int 0, .int 0, .long 0, .int 0, .int 0, .int 0, .int 0, .int 0, .null, .null, .null, .int 0, .int 0, .int 0, .int 0, .int 0, .int 0, .null, .null, .null, .int 0, .int 0, .int 0, .null, .null, .null, .null, .null, .int 0, .long 0, .int 0, .null]))] := ⟨_, rfl⟩
  refine J_w e3.symm ?_
  refine J_cr (v := 162) l2 ?_
  have f3 := a_push (N := 162) e3 l2
  have l3 : w3.length = 163 := l_push e3 (N := 162) l2 rfl
  refine J_dup dL_law_11 rfl ?_
  refine J_callI (As := []) (rest := [.ref 162]) dL_law_12 (c_X11_init (d := 1) (h := w3) (o := 162) (n0 := 163) (by decide) l3 f3) hq.n k1260 k1261 rfl rfl k97 k1262 np_X11_init (Nat.le_trans (by decide) hd) (by decide) (by decide) (by decide) (by omega) rfl (Nat.le_of_ble_eq_true rfl) (fun r_4 h4 p_4 => ?_)
  obtain ⟨rfl, l4, f4, b4, fr4⟩ := p_4
  refine J_astore_n (i := 2) (lw := [(2, .ref 162), (1, .ref 0), (0, .retAddr 0)]) dL_law_15 rfl (by decide) rfl ?_
  refine J_iconst (v := 0) dL_law_16 (by decide) ?_
  refine J_istore_n (i := 3) (lw := [(3, .int 0), (2, .ref 162), (1, .ref 0), (0, .retAddr 0)]) dL_law_17 rfl (by decide) rfl ?_
  have zx : ZX h4 := ⟨l4, (fr4 0 (by decide) (by decide)).trans ((r_push (a := 162) (N := 162) e3 l2 0 (by decide) (by decide)).trans f2), At.fr (N := 163) (a := 162) (m := 161) (At.fr (N := 162) (a := 162) (m := 161) b2 bl10 (r_push (a := 162) (N := 162) e3 l2) (by decide) (Or.inr (by decide))) bl10 fr4 (by decide) (Or.inr (by decide))⟩
  have zm : ZM h4 := ⟨l4, f4, b4⟩
  refine J_w (st_w zx zm) ?_
  have z0 : (0 : Int32).toInt = 0 := rfl
  exact law_loop hq hcon hL (L / 8) 0 u0 g0 [] 182 13870 (by rw [z0]; exact Int.le_refl _) (by rw [z0]; omega) (by rw [z0]; omega) inx_0 rfl (by omega) (by omega)
theorem whole_start {p : Program} {e : Env} {s : State} {m : MethodId} {below : List Frame} {meth : Method} {c : Code} (l : Launch) {b L : Nat} {xs : Nat → Int32} (hL : L ≤ 4096) (C0 : lw_At p s m meth c b L xs) : W p l e room_1 s m #[Value.ref b] below meth c s.heap [] 0 0 (lw_Z below #[Value.ref b] s) (entryFrame m ([Value.ref b] : List Value).toArray 4) := by
  obtain ⟨hx, hb, hr, hml, hown, hts, hX, hbl, hlocks, hgv⟩ := id C0
  obtain ⟨ca, hc0, hSS⟩ := start_SS b hgv hts
  subst hc0
  have hgt : ∀ w ∈ gt, w.before #[Value.ref (ca 0)] s = true := fun w h => hts w (List.mem_filter.mp h).1
  obtain ⟨c0, i0, q0⟩ := u_known (C := RX0) (T := TX0) (N := 10) (n := 10) hgt inG0 (hgt _ k347)
  obtain ⟨c1, i1, q1⟩ := u_known (C := RX1) (T := TX1) (N := 6) (n := 6) hgt inG1 (hgt _ k125)
  obtain ⟨c2, i2, q2⟩ := u_known (C := RX2) (T := TX2) (N := 6) (n := 6) hgt inG2 (hgt _ k353)
  obtain ⟨c3, i3, q3⟩ := u_known (C := RX3) (T := TX3) (N := 7) (n := 7) hgt inG3 (hgt _ k221)
  obtain ⟨c4, i4, q4⟩ := u_known (C := RX4) (T := TX4) (N := 4) (n := 4) hgt inG4 (hgt _ k287)
  obtain ⟨c5, i5, q5⟩ := u_known (C := RX5) (T := TX5) (N := 7) (n := 7) hgt inG5 (hgt _ k314)
  obtain ⟨c6, i6, q6⟩ := u_known (C := RX6) (T := TX6) (N := 6) (n := 6) hgt inG6 (hgt _ k227)
  obtain ⟨c7, i7, q7⟩ := u_known (C := RX7) (T := TX7) (N := 8) (n := 8) hgt inG7 (hgt _ k116)
  obtain ⟨c8, i8, q8⟩ := u_known (C := RX8) (T := TX8) (N := 4) (n := 4) hgt inG8 (hgt _ k163)
  obtain ⟨c9, i9, q9⟩ := u_known (C := RX9) (T := TX9) (N := 1) (n := 1) hgt inG9 (hgt _ k1105)
  obtain ⟨c10, i10, q10⟩ := u_known (C := RX10) (T := TX10) (N := 10) (n := 10) hgt inG10 (hgt _ k108)
  obtain ⟨c11, i11, q11⟩ := u_known (C := RX11) (T := TX11) (N := 43) (n := 43) hgt inG11 (hgt _ k1259)
  obtain ⟨dC, dI, hKc⟩ : ∃ (dC : Nat → ClassId) (dI : Nat → Nat → Nat), ∀ (k : Nat) (q : vw_C), vwCl[k]? = some q → u_Kn s q.1 q.2.1 q.2.2 (dC k) (dI k) := by
    refine ⟨fun k => match k with | 0 => c0 | 1 => c1 | 2 => c2 | 3 => c3 | 4 => c4 | 5 => c5 | 6 => c6 | 7 => c7 | 8 => c8 | 9 => c9 | 10 => c10 | _ => c11, fun k => match k with | 0 => i0 | 1 => i1 | 2 => i2 | 3 => i3 | 4 => i4 | 5 => i5 | 6 => i6 | 7 => i7 | 8 => i8 | 9 => i9 | 10 => i10 | _ => i11, ?_⟩
    intro k q hq
    match k, hq with
    | 0, hq => cases hq; exact q0
    | 1, hq => cases hq; exact q1
    | 2, hq => cases hq; exact q2
    | 3, hq => cases hq; exact q3
    | 4, hq => cases hq; exact q4
    | 5, hq => cases hq; exact q5
    | 6, hq => cases hq; exact q6
    | 7, hq => cases hq; exact q7
    | 8, hq => cases hq; exact q8
    | 9, hq => cases hq; exact q9
    | 10, hq => cases hq; exact q10
    | 11, hq => cases hq; exact q11
    | k + 12, hq => simp [vwCl] at hq
  obtain ⟨a0, ka0_, co0, ha0, hb0, hc0⟩ := Cond.arrayClass_spec (hgt _ ka0)
  obtain ⟨a1, ka1_, co1, ha1, hb1, hc1⟩ := Cond.arrayClass_spec (hgt _ ka1)
  obtain ⟨a2, ka2_, co2, ha2, hb2, hc2⟩ := Cond.arrayClass_spec (hgt _ ka2)
  obtain ⟨a3, ka3_, co3, ha3, hb3, hc3⟩ := Cond.arrayClass_spec (hgt _ ka3)
  obtain ⟨co4, a4, kk4, hd4, -, hb4, hc4, ha4⟩ := Cond.arrayOver_spec (hts _ (List.mem_filter.mp ko4).1)
  obtain ⟨co5, a5, kk5, hd5, -, hb5, hc5, ha5⟩ := Cond.arrayOver_spec (hts _ (List.mem_filter.mp ko5).1)
  obtain ⟨co6, a6, kk6, hd6, -, hb6, hc6, ha6⟩ := Cond.arrayOver_spec (hts _ (List.mem_filter.mp ko6).1)
  obtain ⟨cA, eA⟩ : ∃ cA : Nat → ClassId, cA = (fun k => match k with | 0 => a0 | 1 => a1 | 2 => a2 | 3 => a3 | 4 => a4 | 5 => a5 | _ => a6) := ⟨_, rfl⟩
  have hK : va_K (dC, dI) vwCl (tz cA) s := by
    refine ⟨hKc, fun k q hq => ?_⟩
    rw [eA] at hq
    match k, hq with
    | 0, hq => cases hq; exact ⟨fun N z => ⟨(fun k h => by cases h), ka0_, hb0, co0, hc0⟩, ha0⟩
    | 1, hq => cases hq; exact ⟨fun N z => ⟨(fun k h => by cases h), ka1_, hb1, co1, hc1⟩, ha1⟩
    | 2, hq => cases hq; exact ⟨fun N z => ⟨(fun k h => by cases h), ka2_, hb2, co2, hc2⟩, ha2⟩
    | 3, hq => cases hq; exact ⟨fun N z => ⟨(fun k h => by cases h), ka3_, hb3, co3, hc3⟩, ha3⟩
    | 4, hq => cases hq; exact ⟨fun N z => ⟨(fun k h => by cases h), kk4, hb4, co4, hc4⟩, kk4, co4, hb4, hc4, hd4, ha4⟩
    | 5, hq => cases hq; exact ⟨fun N z => ⟨(fun k h => by cases h), kk5, hb5, co5, hc5⟩, kk5, co5, hb5, hc5, hd5, ha5⟩
    | 6, hq => cases hq; exact ⟨fun N z => ⟨(fun k h => by cases h), kk6, hb6, co6, hc6⟩, kk6, co6, hb6, hc6, hd6, ha6⟩
    | k + 7, hq => simp [tz] at hq
  have hNW : NW ca s.heap.size s := by
    refine ⟨?_, hSS⟩
    intro w hw
    have h1 := hts w (List.mem_filter.mp hw).1
    have h2 := (List.mem_filter.mp hw).2
    unfold nw at h2
    split at h2
    · exact va_Nw.of rfl h1
    · exact va_Nw.of rfl h1
    · exact va_AO.of h1
    · cases h2
  have hl := lv_entry ([Value.ref (ca 0)]) (n := 4) (Nat.le_of_ble_eq_true rfl)
  rw [lg_entry_eq]
  have hJ := law_start (x := (p, l, e, room_1, s, m, #[Value.ref (ca 0)], below, meth, c, s.heap.size, ca, cA, (dC, dI), (fun k => if k = 0 then some (L, xs) else none), lw_Z below #[Value.ref (ca 0)] s)) (bb := ca 0) ⟨⟨rfl, rfl, rfl⟩, (fun k v h => by cases h)⟩ hL rfl (Nat.le_refl _)
  refine hJ ⟨hx, hb, hml, hown, hgt, hr, hlocks, fun h => absurd h (by decide), hK, rfl, by decide, by decide, Nat.le_refl _, Nat.le_refl _, ?_, hNW⟩ s.heap [] _ hl (fun k q h => by simp [wz] at h) va_S.rf
  intro k n f hk
  by_cases h0 : k = 0
  · subst h0
    cases hk
    exact ⟨hX, hbl, Nat.le_refl _⟩
  · simp [h0] at hk
set_option maxHeartbeats 4000000 in
theorem lw_walk (l : Launch) (b : Addr) (xs : List Int32) : MetFree l x (headSpec (Jvm.Cond.code x code maxLocals ret :: tables_1) room_1) (lw_P b xs) (fun _ _ _ _ _ => True) lw_Q := by
  refine MetFree.of_bodyS (code := code) (maxLocals := maxLocals) (ret := ret) (by decide) ?_ ?_
  · intro args s m h hn
    obtain ⟨meth, c, h1, h2, h3, h4, h5, h6, -, -⟩ := Cond.code_spec hn (atoms_spec (ws := Jvm.Cond.code x code maxLocals ret :: tables_1) h _ List.mem_cons_self)
    exact ⟨meth, c, h1, h2, h3, h4, h5, h6⟩
  · intro p e s m args below meth c s₁ B hml0 hP _
    obtain ⟨rfl, hx, hbd, hgv⟩ := hP
    obtain ⟨scr, harrAt, hlist, hof, hsmall⟩ := hx
    obtain ⟨hcb, hkn, -, -⟩ := State.arrayAt?_spec harrAt
    have hown : s.vm.findClass R_law = some m.cls := findClass_of_methodNamed B.named
    have hts0 : ∀ c ∈ (Jvm.Cond.code x code maxLocals ret :: tables_1), c.before #[Value.ref b] s = true := atoms_spec (ws := Jvm.Cond.code x code maxLocals ret :: tables_1) B.pre
    have hts : ∀ w ∈ lw_tbl, w.before #[Value.ref b] s = true := k2_hts_sels lw_privs (fun w hw => hts0 w (List.mem_cons_of_mem _ hw)) lw_privs_ok
    have hml : c.maxLocals = 4 := B.maxLocals_eq (hts0 _ List.mem_cons_self)
    have X₀ : Stand p l e room_1 s m #[Value.ref b] below meth c s₁ [] 0 0 := Stand.of_body B
    have hh0 : s₁.heap = s.heap := by rw [B.state]; rfl
    have hsz : scr.slots.size = xs.length := by rw [← Array.length_toList, hlist, List.length_map]
    have hval : ∀ j : Nat, j < xs.length → scr.slots[j]? = some (.int (xs.getD j 0)) := fun j hj => by
      rw [← Array.getElem?_toList, hlist]
      simp [hj]
    have hbl : b < s.heap.size := (Array.getElem?_eq_some_iff.mp hcb).1
    have hX : va_X b xs.length (fun j => xs.getD j 0) s s.heap := ⟨scr, hcb, hof, hkn, hsz, hval⟩
    have K : W p l e room_1 s m #[Value.ref b] below meth c s₁.heap [] 0 0 (lw_Z below #[Value.ref b] s) (entryFrame m ([Value.ref b] : List Value).toArray 4) := by
      rw [hh0]
      exact whole_start l hbd ⟨B.exec, B.bytes, B.returns, hml, hown, hts, hX, hbl, B.notSynchronized, hgv⟩
    obtain ⟨t, a1, o, b1, b2, b3⟩ := K s₁ rfl X₀
    exact ⟨t, o, a1, b1, b2, b3⟩
theorem lw_pre_spec {args : Array Value} {s : State} (h : (Jvm.Cond.and given_1 narrow_1).before args s = true) (hr : rest_1_c.before args s = true) : ∃ (b : Addr) (xs : List Int32), lw_P b xs args s := by
  have hs := flat_of_before _ h
  have hq := flat_of_before _ hr
  have hc : (Cond.count 1).before args s = true := hs _ (by decide +kernel)
  have harr : (Cond.arrayOf (.arg 0) .int).before args s = true := hs _ (by decide +kernel)
  have hle : (Cond.le (.length (.arg 0)) (.int 4096)).before args s = true := hs _ (by decide +kernel)
  have hlen : (Cond.isInt (.length (.arg 0))).before args s = true := hq _ (by decide +kernel)
  have hall : (Cond.all (.arg 0) (.isInt (.elem (.arg 0) (.index 0)))).before args s = true := hq _ (by decide +kernel)
  obtain ⟨b, xs, hb, hx⟩ := State.ints_of_pre rfl harr hlen hall
  have hsm : xs.length < 2 ^ 31 := hx.choose_spec.2.2.2
  have hev : (Term.length (.arg 0)).eval args s none [] s = some (.int xs.length.toInt32) := hx.length_eval hb
  have hv := Cond.le_ints hev (show (Term.int 4096).eval args s none [] s = some (.int 4096) from rfl)
  have hd : xs.length.toInt32 ≤ 4096 := by
    simpa [Cond.before, Cond.holds, hv] using hle
  have hN : xs.length ≤ 4096 := (Int32.ofNat_le_ofNat hsm (by decide)).mp (show Int32.ofNat xs.length ≤ Int32.ofNat 4096 from hd)
  exact ⟨b, xs, Cond.one_arg hc (show args[0]? = some (.ref b) from hb), hx, hN, h⟩
theorem lw_comes (l : Launch) : Comes l x (Jvm.Cond.code x code maxLocals ret :: tables_1) room_1 (fun tb e args s => Calls_1 tb e args s ∧ rest_1 tb e args s ∧ Pre_1 tb e args s)
    (fun _ _ args s o t => lw_Q args s o t) := by
  intro p e ha hc hk s m args below hf hfit hheap happ hpre
  obtain ⟨b, xs, hP⟩ := lw_pre_spec hpre.2.2 hpre.2.1
  obtain ⟨k, o, h1, h2, h3, hQ⟩ := lw_walk l b xs p e ha hc hk s m args below hf ((Spec.applies_iff_loose hf).mp happ).1 hP trivial
  exact ⟨k, o, h1, h2, h3, hQ⟩
theorem lw_frame {s t : State} {o : Outcome} {args : Array Value} (h : Framed s o t [] 600000 7302250) :
    Framed s o t (fieldLocs frame_1_writes args s ++ arrayLocs frame_1_arrays args s ++ staticLocs frame_1_statics s) 600000 7302250 := h
theorem lw_limb (L : Cond) (hL : ∀ (args : Array Value) (s t : State), L.after args s (.returned (some (.int 1))) t = true) :
    ArmFor flags0 classFile x code maxLocals ret World_1 tables_1 room_1 Calls_1 rest_1 Pre_1
      (fun tb e a s o t => postC L tb e a s o t ∧ Framed s o t (fieldLocs frame_1_writes a s ++ arrayLocs frame_1_arrays a s ++ staticLocs frame_1_statics s) 600000 7302250) := by
  intro l _ _ _ p e ha hc hk s m args below hf hfit hheap happ hpre
  obtain ⟨k, o, h1, h2, h3, rfl, hF⟩ := lw_comes l p e ha hc hk s m args below hf hfit hheap happ hpre
  exact ⟨k, _, h1, h2, h3, hL args s _, lw_frame hF⟩
theorem i_vc : Claimed_1_1 ∧ Claimed_1_2 := ⟨lw_limb limb_1_1 (fun args s t => by simp [limb_1_1, Cond.after, Cond.holds, Cond.value]), lw_limb limb_1_2 (fun args s t => Cond.after_iff.mpr (by
  first | (rw [show limb_1_2 = Cond.eq .result (.int 1) from rfl, Cond.eq_ints (x := 1) (y := 1) rfl rfl]; simp; done) | (simp [limb_1_2, Cond.value, Term.eval]; done)))⟩
