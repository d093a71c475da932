theorem k1806 : Cond.methodLink RX11 74 yX11_move ∈ gt := gt_in 1806 (by decide +kernel) (by decide +kernel)
theorem k1807 : Cond.static yX11_move ∈ gt := gt_in 1807 (by decide +kernel) (by decide +kernel)
theorem k1808 : Cond.code yX11_move cX11_move 5 none ∈ gt := gt_in 1808 (by decide +kernel) (by decide +kernel)
theorem np_X11_move : yX11_move.cls ≠ "java/lang/invoke/MethodHandle" ∧ yX11_move.cls ≠ "java/lang/invoke/VarHandle" ∧ (parseMethodDescriptor yX11_move.desc).map (fun d => d.parameters.length) = some 4 := by decide +kernel
theorem k1802 : Cond.methodLink RX11 381 yX11_copy ∈ gt := gt_in 1802 (by decide +kernel) (by decide +kernel)
theorem k1804 : Cond.instanceMethod yX11_copy ∈ gt := gt_in 1804 (by decide +kernel) (by decide +kernel)
theorem k85 : Cond.selects RX11 yX11_copy yX11_copy ∈ gt := gt_in 85 (by decide +kernel) (by decide +kernel)
theorem k1805 : Cond.code yX11_copy cX11_copy 4 none ∈ gt := gt_in 1805 (by decide +kernel) (by decide +kernel)
theorem np_X11_copy : yX11_copy.cls ≠ "java/lang/invoke/MethodHandle" ∧ yX11_copy.cls ≠ "java/lang/invoke/VarHandle" ∧ (parseMethodDescriptor yX11_copy.desc).map (fun d => d.parameters.length) = some 2 := by decide +kernel
theorem dX11_copy_0 : decode cX11_copy 0 = .ok (.iconst 0, 1) := by decide +kernel
theorem dX11_copy_1 : decode cX11_copy 1 = .ok (.istore_n 3, 1) := by decide +kernel
theorem dX11_copy_2 : decode cX11_copy 2 = .ok (.iload_n 3, 1) := by decide +kernel
theorem dX11_copy_3 : decode cX11_copy 3 = .ok (.sipush 600, 3) := by decide +kernel
theorem dX11_copy_6 : decode cX11_copy 6 = .ok (.if_icmp .ge 33, 3) := by decide +kernel
theorem dX11_copy_9 : decode cX11_copy 9 = .ok (.aload_n 0, 1) := by decide +kernel
theorem dX11_copy_10 : decode cX11_copy 10 = .ok (.getfield 7, 3) := by decide +kernel
theorem dX11_copy_13 : decode cX11_copy 13 = .ok (.sipush 600, 3) := by decide +kernel
theorem dX11_copy_16 : decode cX11_copy 16 = .ok (.iload_n 2, 1) := by decide +kernel
theorem dX11_copy_17 : decode cX11_copy 17 = .ok (.imul, 1) := by decide +kernel
theorem dX11_copy_18 : decode cX11_copy 18 = .ok (.iload_n 3, 1) := by decide +kernel
theorem dX11_copy_19 : decode cX11_copy 19 = .ok (.iadd, 1) := by decide +kernel
theorem dX11_copy_20 : decode cX11_copy 20 = .ok (.aload_n 0, 1) := by decide +kernel
theorem dX11_copy_21 : decode cX11_copy 21 = .ok (.getfield 7, 3) := by decide +kernel
theorem dX11_copy_24 : decode cX11_copy 24 = .ok (.sipush 600, 3) := by decide +kernel
theorem dX11_copy_27 : decode cX11_copy 27 = .ok (.iload_n 1, 1) := by decide +kernel
theorem dX11_copy_28 : decode cX11_copy 28 = .ok (.imul, 1) := by decide +kernel
theorem dX11_copy_29 : decode cX11_copy 29 = .ok (.iload_n 3, 1) := by decide +kernel
theorem dX11_copy_30 : decode cX11_copy 30 = .ok (.iadd, 1) := by decide +kernel
theorem dX11_copy_31 : decode cX11_copy 31 = .ok (.baload, 1) := by decide +kernel
theorem dX11_copy_32 : decode cX11_copy 32 = .ok (.bastore, 1) := by decide +kernel
theorem dX11_copy_33 : decode cX11_copy 33 = .ok (.iinc 3 1, 3) := by decide +kernel
theorem dX11_copy_36 : decode cX11_copy 36 = .ok (.goto (-34), 3) := by decide +kernel
theorem dX11_copy_39 : decode cX11_copy 39 = .ok (.aload_n 0, 1) := by decide +kernel
theorem dX11_copy_40 : decode cX11_copy 40 = .ok (.getfield 13, 3) := by decide +kernel
theorem dX11_copy_43 : decode cX11_copy 43 = .ok (.iconst 1, 1) := by decide +kernel
theorem dX11_copy_44 : decode cX11_copy 44 = .ok (.iload_n 1, 1) := by decide +kernel
theorem dX11_copy_45 : decode cX11_copy 45 = .ok (.iload_n 2, 1) := by decide +kernel
theorem dX11_copy_46 : decode cX11_copy 46 = .ok (.invokestatic 74, 3) := by decide +kernel
theorem dX11_copy_49 : decode cX11_copy 49 = .ok (.aload_n 0, 1) := by decide +kernel
theorem dX11_copy_50 : decode cX11_copy 50 = .ok (.getfield 17, 3) := by decide +kernel
theorem dX11_copy_53 : decode cX11_copy 53 = .ok (.iconst 1, 1) := by decide +kernel
theorem dX11_copy_54 : decode cX11_copy 54 = .ok (.iload_n 1, 1) := by decide +kernel
theorem dX11_copy_55 : decode cX11_copy 55 = .ok (.iload_n 2, 1) := by decide +kernel
theorem dX11_copy_56 : decode cX11_copy 56 = .ok (.invokestatic 74, 3) := by decide +kernel
theorem dX11_copy_59 : decode cX11_copy 59 = .ok (.aload_n 0, 1) := by decide +kernel
theorem dX11_copy_60 : decode cX11_copy 60 = .ok (.getfield 20, 3) := by decide +kernel
theorem dX11_copy_63 : decode cX11_copy 63 = .ok (.iconst 1, 1) := by decide +kernel
theorem dX11_copy_64 : decode cX11_copy 64 = .ok (.iload_n 1, 1) := by decide +kernel
theorem dX11_copy_65 : decode cX11_copy 65 = .ok (.iload_n 2, 1) := by decide +kernel
theorem dX11_copy_66 : decode cX11_copy 66 = .ok (.invokestatic 74, 3) := by decide +kernel
theorem dX11_copy_69 : decode cX11_copy 69 = .ok (.aload_n 0, 1) := by decide +kernel
theorem dX11_copy_70 : decode cX11_copy 70 = .ok (.getfield 23, 3) := by decide +kernel
theorem dX11_copy_73 : decode cX11_copy 73 = .ok (.iconst 2, 1) := by decide +kernel
theorem dX11_copy_74 : decode cX11_copy 74 = .ok (.iload_n 1, 1) := by decide +kernel
theorem dX11_copy_75 : decode cX11_copy 75 = .ok (.iload_n 2, 1) := by decide +kernel
theorem dX11_copy_76 : decode cX11_copy 76 = .ok (.invokestatic 74, 3) := by decide +kernel
theorem dX11_copy_79 : decode cX11_copy 79 = .ok (.aload_n 0, 1) := by decide +kernel
theorem dX11_copy_80 : decode cX11_copy 80 = .ok (.getfield 26, 3) := by decide +kernel
theorem dX11_copy_83 : decode cX11_copy 83 = .ok (.sipush 314, 3) := by decide +kernel
theorem dX11_copy_86 : decode cX11_copy 86 = .ok (.iload_n 1, 1) := by decide +kernel
theorem dX11_copy_87 : decode cX11_copy 87 = .ok (.iload_n 2, 1) := by decide +kernel
theorem dX11_copy_88 : decode cX11_copy 88 = .ok (.invokestatic 74, 3) := by decide +kernel
theorem dX11_copy_91 : decode cX11_copy 91 = .ok (.aload_n 0, 1) := by decide +kernel
theorem dX11_copy_92 : decode cX11_copy 92 = .ok (.getfield 29, 3) := by decide +kernel
theorem dX11_copy_95 : decode cX11_copy 95 = .ok (.bipush 111, 2) := by decide +kernel
theorem dX11_copy_97 : decode cX11_copy 97 = .ok (.iload_n 1, 1) := by decide +kernel
theorem dX11_copy_98 : decode cX11_copy 98 = .ok (.iload_n 2, 1) := by decide +kernel
theorem dX11_copy_99 : decode cX11_copy 99 = .ok (.invokestatic 74, 3) := by decide +kernel
theorem dX11_copy_102 : decode cX11_copy 102 = .ok (.return_, 1) := by decide +kernel
theorem dX11_image_0 : decode cX11_image 0 = .ok (.aload_n 0, 1) := by decide +kernel
theorem dX11_image_1 : decode cX11_image 1 = .ok (.iconst 0, 1) := by decide +kernel
theorem dX11_image_2 : decode cX11_image 2 = .ok (.putfield 70, 3) := by decide +kernel
theorem dX11_image_5 : decode cX11_image 5 = .ok (.iload_n 1, 1) := by decide +kernel
theorem dX11_image_6 : decode cX11_image 6 = .ok (.iconst 0, 1) := by decide +kernel
theorem dX11_image_7 : decode cX11_image 7 = .ok (.iconst 2, 1) := by decide +kernel
theorem dX11_image_8 : decode cX11_image 8 = .ok (.invokestatic 78, 3) := by decide +kernel
theorem dX11_image_11 : decode cX11_image 11 = .ok (.ifCond .ne 5, 3) := by decide +kernel
theorem dX11_image_14 : decode cX11_image 14 = .ok (.iconst 0, 1) := by decide +kernel
theorem dX11_image_15 : decode cX11_image 15 = .ok (.ireturn, 1) := by decide +kernel
theorem dX11_image_16 : decode cX11_image 16 = .ok (.aload_n 0, 1) := by decide +kernel
theorem dX11_image_17 : decode cX11_image 17 = .ok (.iconst 0, 1) := by decide +kernel
theorem dX11_image_18 : decode cX11_image 18 = .ok (.iload_n 1, 1) := by decide +kernel
theorem dX11_image_19 : decode cX11_image 19 = .ok (.iconst 1, 1) := by decide +kernel
theorem dX11_image_20 : decode cX11_image 20 = .ok (.iadd, 1) := by decide +kernel
theorem dX11_image_21 : decode cX11_image 21 = .ok (.invokevirtual 381, 3) := by decide +kernel
theorem dX11_image_24 : decode cX11_image 24 = .ok (.aload_n 0, 1) := by decide +kernel
theorem dX11_image_25 : decode cX11_image 25 = .ok (.getfield 66, 3) := by decide +kernel
theorem dX11_image_28 : decode cX11_image 28 = .ok (.iload_n 1, 1) := by decide +kernel
theorem dX11_image_29 : decode cX11_image 29 = .ok (.iconst 1, 1) := by decide +kernel
theorem dX11_image_30 : decode cX11_image 30 = .ok (.bastore, 1) := by decide +kernel
theorem dX11_image_31 : decode cX11_image 31 = .ok (.iconst 1, 1) := by decide +kernel
theorem dX11_image_32 : decode cX11_image 32 = .ok (.ireturn, 1) := by decide +kernel
theorem dX11_move_0 : decode cX11_move 0 = .ok (.iconst 0, 1) := by decide +kernel
theorem dX11_move_1 : decode cX11_move 1 = .ok (.istore 4, 2) := by decide +kernel
theorem dX11_move_3 : decode cX11_move 3 = .ok (.iload 4, 2) := by decide +kernel
theorem dX11_move_5 : decode cX11_move 5 = .ok (.iload_n 1, 1) := by decide +kernel
theorem dX11_move_6 : decode cX11_move 6 = .ok (.if_icmp .ge 25, 3) := by decide +kernel
theorem dX11_move_9 : decode cX11_move 9 = .ok (.aload_n 0, 1) := by decide +kernel
theorem dX11_move_10 : decode cX11_move 10 = .ok (.iload_n 1, 1) := by decide +kernel
theorem dX11_move_11 : decode cX11_move 11 = .ok (.iload_n 3, 1) := by decide +kernel
theorem dX11_move_12 : decode cX11_move 12 = .ok (.imul, 1) := by decide +kernel
theorem dX11_move_13 : decode cX11_move 13 = .ok (.iload 4, 2) := by decide +kernel
theorem dX11_move_15 : decode cX11_move 15 = .ok (.iadd, 1) := by decide +kernel
theorem dX11_move_16 : decode cX11_move 16 = .ok (.aload_n 0, 1) := by decide +kernel
theorem dX11_move_17 : decode cX11_move 17 = .ok (.iload_n 1, 1) := by decide +kernel
theorem dX11_move_18 : decode cX11_move 18 = .ok (.iload_n 2, 1) := by decide +kernel
theorem dX11_move_19 : decode cX11_move 19 = .ok (.imul, 1) := by decide +kernel
theorem dX11_move_20 : decode cX11_move 20 = .ok (.iload 4, 2) := by decide +kernel
theorem dX11_move_22 : decode cX11_move 22 = .ok (.iadd, 1) := by decide +kernel
theorem dX11_move_23 : decode cX11_move 23 = .ok (.iaload, 1) := by decide +kernel
theorem dX11_move_24 : decode cX11_move 24 = .ok (.iastore, 1) := by decide +kernel
theorem dX11_move_25 : decode cX11_move 25 = .ok (.iinc 4 1, 3) := by decide +kernel
theorem dX11_move_28 : decode cX11_move 28 = .ok (.goto (-25), 3) := by decide +kernel
theorem dX11_move_31 : decode cX11_move 31 = .ok (.return_, 1) := by decide +kernel
set_option maxHeartbeats 4000000 in
theorem l_X11_move {x : JX} {d a Z nn p q : Nat} {h : List MC} (hq : JQ x con0 0 0 (fun r h2 => r = none ∧ h2.length = h.length ∧ (∃ g2, h2[a]? = some (.inl (1, Z, .inl g2))) ∧ ∀ j, j ≠ a → h2[j]? = h[j]?)) (hZ : Z < 2 ^ 31) (hp : nn * p + nn ≤ Z) (hq2 : nn * q + nn ≤ Z) : ∀ (m k : Nat) (w : List MC) (g : Nat → Int32), k + m = nn → w.length = h.length → w[a]? = some (.inl (1, Z, .inl g)) → (∀ j, j ≠ a → w[j]? = h[j]?) → J x yX11_move cX11_move 5 none d 0 0 h.length 3 [(4, .int (nI k)), (0, .ref a), (1, .int (nI nn)), (2, .int (nI p)), (3, .int (nI q))] [] w 0 0 := by
  intro m
  induction m with
  | zero =>
    intro k w g hk hl ha hf
    refine J_iload (i := 4) (j := 0) dX11_move_3 rfl ?_
    refine J_iload_n (i := 1) (j := 2) dX11_move_5 rfl rfl ?_
    refine J_icmp_ge (tgt := 31) dX11_move_6 (by decide) (fun c_1 => ?_) (fun c_1 => ?_)
    · exact J_vret hq dX11_move_31 rfl (hkz hl) (Nat.le_refl _) (Nat.le_refl _) ⟨rfl, hl, ⟨_, ha⟩, hf⟩
    · exact absurd ((nI_leI (by omega) (by omega)).mpr (by omega)) c_1
  | succ m ih =>
    intro k w g hk hl ha hf
    refine J_iload (i := 4) (j := 0) dX11_move_3 rfl ?_
    refine J_iload_n (i := 1) (j := 2) dX11_move_5 rfl rfl ?_
    refine J_icmp_ge (tgt := 31) dX11_move_6 (by decide) (fun c_1 => ?_) (fun c_1 => ?_)
    · exact absurd ((nI_leI (by omega) (by omega)).mp c_1) (by omega)
    · refine J_aload_n (i := 0) (j := 1) dX11_move_9 rfl rfl ?_
      refine J_iload_n (i := 1) (j := 2) dX11_move_10 rfl rfl ?_
      refine J_iload_n (i := 3) (j := 4) dX11_move_11 rfl rfl ?_
      refine J_imul dX11_move_12 ?_
      refine J_ci (v := nI (nn * q)) (pk_mul _ _) ?_
      refine J_iload (i := 4) (j := 0) dX11_move_13 rfl ?_
      refine J_iadd dX11_move_15 ?_
      refine J_ci (v := nI (nn * q + k)) (nI_add _ _) ?_
      refine J_aload_n (i := 0) (j := 1) dX11_move_16 rfl rfl ?_
      refine J_iload_n (i := 1) (j := 2) dX11_move_17 rfl rfl ?_
      refine J_iload_n (i := 2) (j := 3) dX11_move_18 rfl rfl ?_
      refine J_imul dX11_move_19 ?_
      refine J_ci (v := nI (nn * p)) (pk_mul _ _) ?_
      refine J_iload (i := 4) (j := 0) dX11_move_20 rfl ?_
      refine J_iadd dX11_move_22 ?_
      refine J_ci (v := nI (nn * p + k)) (nI_add _ _) ?_
      refine J_iald dX11_move_23 ha (vp_in_nI (n := nn * p + k) (by omega) (by omega)) ?_
      obtain ⟨h_2, e_3⟩ : ∃ z, z = w.set a (.inl (1, Z, .inl (upd g ((nI (nn * q + k)).toNatClampNeg) (g (nI (nn * p + k)).toNatClampNeg)))) := ⟨_, rfl⟩
      refine J_iast dX11_move_24 ha (vp_in_nI (n := nn * q + k) (by omega) (by omega)) e_3.symm ?_
      have f_4 := a_set e_3 ha
      have l_5 := l_set e_3 hl
      refine J_iinc (i := 4) (j := 0) (v := nI (k + 1)) (lw := [(4, .int (nI (k + 1))), (0, .ref a), (1, .int (nI (nn))), (2, .int (nI (p))), (3, .int (nI (q)))]) dX11_move_25 rfl (nI_add _ _) (by decide) rfl ?_
      refine J_goto (tgt := 3) dX11_move_28 (by decide) ?_
      exact ih (k + 1) _ _ (by omega) l_5 f_4 (fun j hj => ((s_ne e_3 hj)).trans (hf j hj))
set_option maxHeartbeats 4000000 in
set_option maxRecDepth 100000 in
theorem c_X11_move {d : Nat} {h : List MC} {a Z nn p q : Nat} {g : Nat → Int32} (hd : 0 ≤ d) (ha : h[a]? = some (.inl (1, Z, .inl g))) (hZ : Z < 2 ^ 31) (hp : nn * p + nn ≤ Z) (hq2 : nn * q + nn ≤ Z) : CT con0 d 0 0 yX11_move cX11_move 5 none [.ref a, .int (nI (nn)), .int (nI (p)), .int (nI (q))] h (fun r h2 => r = none ∧ h2.length = h.length ∧ (∃ g2, h2[a]? = some (.inl (1, Z, .inl g2))) ∧ ∀ j, j ≠ a → h2[j]? = h[j]?) := by
  refine CT_of (by decide) (Nat.le_of_ble_eq_true rfl) (fun x hq => ?_)
  show J x yX11_move cX11_move 5 none d 0 0 h.length 0 [(0, .ref a), (1, .int (nI (nn))), (2, .int (nI (p))), (3, .int (nI (q)))] [] h 0 0
  refine J_iconst (v := 0) dX11_move_0 (by decide) ?_
  refine J_istore (i := 4) (lw := [(4, .int 0), (0, .ref a), (1, .int (nI (nn))), (2, .int (nI (p))), (3, .int (nI (q)))]) dX11_move_1 (by decide) rfl ?_
  exact l_X11_move hq hZ hp hq2 nn 0 h g (by omega) rfl ha (fun _ _ => rfl)
set_option maxHeartbeats 4000000 in
theorem l_X11_copy {x : JX} {d p q : Nat} {h : List MC} {g4 g5 g6 g7 g8 g9 : Nat → Int32} (hd : 1 ≤ d) (hq : JQ x con0 0 0 (fun r h2 => r = none ∧ h2.length = h.length ∧ ∀ j, (j < 163 ∨ 170 ≤ j) → h2[j]? = h[j]?)) (hp : p ≤ 3) (hq2 : q ≤ 3) (hm : h[162]? = some (.inr (11, [.int 0, .ref 163, .ref 164, .ref 165, .ref 166, .ref 167, .ref 168, .ref 169, .int 0, .int 0, .int 0, .int 0, .int 0, .long 0, .int 0, .int 0, .int 0, .int 0, .int 0, .ref 170, .ref 171, .ref 172, .int 0, .int 0, .int 0, .int 0, .int 0, .int 0, .ref 173, .ref 174, .ref 175, .int 0, .int 0, .int 0, .ref 176, .ref 177, .ref 178, .ref 179, .ref 180, .int 0, .long 0, .int 0, .ref 181]))) (h4 : h[164]? = some (.inl (1, 4, .inl g4))) (h5 : h[165]? = some (.inl (1, 4, .inl g5))) (h6 : h[166]? = some (.inl (1, 4, .inl g6))) (h7 : h[167]? = some (.inl (1, 8, .inl g7))) (h8 : h[168]? = some (.inl (1, 1256, .inl g8))) (h9 : h[169]? = some (.inl (1, 444, .inl g9))) : ∀ (m k : Nat) (w : List MC) (g : Nat → Int32), k + m = 600 → w.length = h.length → w[163]? = some (.inl (0, 2400, .inl g)) → (∀ j, j ≠ 163 → w[j]? = h[j]?) → J x yX11_copy cX11_copy 4 none d 0 0 h.length 2 [(3, .int (nI k)), (0, .ref 162), (1, .int (nI p)), (2, .int (nI q))] [] w 0 0 := by
  intro m
  induction m with
  | zero =>
    intro k w g hk hl ha hf
    refine J_iload_n (i := 3) (j := 0) dX11_copy_2 rfl rfl ?_
    refine J_sipush (v := 600) dX11_copy_3 (by decide) ?_
    refine J_icmp_ge (tgt := 39) dX11_copy_6 (by decide) (fun c_1 => ?_) (fun c_1 => ?_)
    · refine J_aload_n (i := 0) (j := 1) dX11_copy_39 rfl rfl ?_
      refine J_get (C := RX11) (T := TX11) (Z := 43) (ci := 11) (f := 2) dX11_copy_40 inG11 rfl (by decide) k1266 ((hf 162 (by decide)).trans hm) rfl ?_
      refine J_iconst (v := 1) dX11_copy_43 (by decide) ?_
      refine J_iload_n (i := 1) (j := 2) dX11_copy_44 rfl rfl ?_
      refine J_iload_n (i := 2) (j := 3) dX11_copy_45 rfl rfl ?_
      refine J_callS (As := [.ref 164, .int 1, .int (nI (p)), .int (nI (q))]) (rest := []) dX11_copy_46 (c_X11_move (d := 0) (h := w) (a := 164) (Z := 4) (nn := 1) (p := p) (q := q) (by decide) ((hf 164 (by decide)).trans h4) (by decide) (by omega) (by omega)) hq.n k1806 k1807 k97 k1808 np_X11_move (Nat.le_trans (by decide) hd) (by decide) (Nat.le_refl _) (Nat.le_refl _) (hkz hl) rfl (Nat.le_of_ble_eq_true rfl) (fun r_2 h_3 p_4 => ?_)
      obtain ⟨rfl, l_5, ⟨g_6, f_7⟩, r_8⟩ := p_4
      have l_9 := l_5.trans hl
      refine J_aload_n (i := 0) (j := 1) dX11_copy_49 rfl rfl ?_
      have f_10 : h_3[162]? = some (.inr (11, [.int 0, .ref 163, .ref 164, .ref 165, .ref 166, .ref 167, .ref 168, .ref 169, .int 0, .int 0, .int 0, .int 0, .int 0, .long 0, .int 0, .int 0, .int 0, .int 0, .int 0, .ref 170, .ref 171, .ref 172, .int 0, .int 0, .int 0, .int 0, .int 0, .int 0, .ref 173, .ref 174, .ref 175, .int 0, .int 0, .int 0, .ref 176, .ref 177, .ref 178, .ref 179, .ref 180, .int 0, .long 0, .int 0, .ref 181])) := (r_8 162 (by decide)).trans ((hf 162 (by decide)).trans hm)
      refine J_get (C := RX11) (T := TX11) (Z := 43) (ci := 11) (f := 3) dX11_copy_50 inG11 rfl (by decide) k1267 f_10 rfl ?_
      refine J_iconst (v := 1) dX11_copy_53 (by decide) ?_
      refine J_iload_n (i := 1) (j := 2) dX11_copy_54 rfl rfl ?_
      refine J_iload_n (i := 2) (j := 3) dX11_copy_55 rfl rfl ?_
      have f_11 : h_3[165]? = some (.inl (1, 4, .inl g5)) := (r_8 165 (by decide)).trans ((hf 165 (by decide)).trans h5)
      refine J_callS (As := [.ref 165, .int 1, .int (nI (p)), .int (nI (q))]) (rest := []) dX11_copy_56 (c_X11_move (d := 0) (h := h_3) (a := 165) (Z := 4) (nn := 1) (p := p) (q := q) (by decide) f_11 (by decide) (by omega) (by omega)) hq.n k1806 k1807 k97 k1808 np_X11_move (Nat.le_trans (by decide) hd) (by decide) (Nat.le_refl _) (Nat.le_refl _) (hkz l_9) rfl (Nat.le_of_ble_eq_true rfl) (fun r_12 h_13 p_14 => ?_)
      obtain ⟨rfl, l_15, ⟨g_16, f_17⟩, r_18⟩ := p_14
      have l_19 := l_15.trans l_9
      refine J_aload_n (i := 0) (j := 1) dX11_copy_59 rfl rfl ?_
      have f_20 : h_13[162]? = some (.inr (11, [.int 0, .ref 163, .ref 164, .ref 165, .ref 166, .ref 167, .ref 168, .ref 169, .int 0, .int 0, .int 0, .int 0, .int 0, .long 0, .int 0, .int 0, .int 0, .int 0, .int 0, .ref 170, .ref 171, .ref 172, .int 0, .int 0, .int 0, .int 0, .int 0, .int 0, .ref 173, .ref 174, .ref 175, .int 0, .int 0, .int 0, .ref 176, .ref 177, .ref 178, .ref 179, .ref 180, .int 0, .long 0, .int 0, .ref 181])) := (r_18 162 (by decide)).trans f_10
      refine J_get (C := RX11) (T := TX11) (Z := 43) (ci := 11) (f := 4) dX11_copy_60 inG11 rfl (by decide) k1268 f_20 rfl ?_
      refine J_iconst (v := 1) dX11_copy_63 (by decide) ?_
      refine J_iload_n (i := 1) (j := 2) dX11_copy_64 rfl rfl ?_
      refine J_iload_n (i := 2) (j := 3) dX11_copy_65 rfl rfl ?_
      have f_21 : h_3[166]? = some (.inl (1, 4, .inl g6)) := (r_8 166 (by decide)).trans ((hf 166 (by decide)).trans h6)
      have f_22 : h_13[166]? = some (.inl (1, 4, .inl g6)) := (r_18 166 (by decide)).trans f_21
      refine J_callS (As := [.ref 166, .int 1, .int (nI (p)), .int (nI (q))]) (rest := []) dX11_copy_66 (c_X11_move (d := 0) (h := h_13) (a := 166) (Z := 4) (nn := 1) (p := p) (q := q) (by decide) f_22 (by decide) (by omega) (by omega)) hq.n k1806 k1807 k97 k1808 np_X11_move (Nat.le_trans (by decide) hd) (by decide) (Nat.le_refl _) (Nat.le_refl _) (hkz l_19) rfl (Nat.le_of_ble_eq_true rfl) (fun r_23 h_24 p_25 => ?_)
      obtain ⟨rfl, l_26, ⟨g_27, f_28⟩, r_29⟩ := p_25
      have l_30 := l_26.trans l_19
      refine J_aload_n (i := 0) (j := 1) dX11_copy_69 rfl rfl ?_
      have f_31 : h_24[162]? = some (.inr (11, [.int 0, .ref 163, .ref 164, .ref 165, .ref 166, .ref 167, .ref 168, .ref 169, .int 0, .int 0, .int 0, .int 0, .int 0, .long 0, .int 0, .int 0, .int 0, .int 0, .int 0, .ref 170, .ref 171, .ref 172, .int 0, .int 0, .int 0, .int 0, .int 0, .int 0, .ref 173, .ref 174, .ref 175, .int 0, .int 0, .int 0, .ref 176, .ref 177, .ref 178, .ref 179, .ref 180, .int 0, .long 0, .int 0, .ref 181])) := (r_29 162 (by decide)).trans f_20
      refine J_get (C := RX11) (T := TX11) (Z := 43) (ci := 11) (f := 5) dX11_copy_70 inG11 rfl (by decide) k1269 f_31 rfl ?_
      refine J_iconst (v := 2) dX11_copy_73 (by decide) ?_
      refine J_iload_n (i := 1) (j := 2) dX11_copy_74 rfl rfl ?_
      refine J_iload_n (i := 2) (j := 3) dX11_copy_75 rfl rfl ?_
      have f_32 : h_3[167]? = some (.inl (1, 8, .inl g7)) := (r_8 167 (by decide)).trans ((hf 167 (by decide)).trans h7)
      have f_33 : h_13[167]? = some (.inl (1, 8, .inl g7)) := (r_18 167 (by decide)).trans f_32
      have f_34 : h_24[167]? = some (.inl (1, 8, .inl g7)) := (r_29 167 (by decide)).trans f_33
      refine J_callS (As := [.ref 167, .int 2, .int (nI (p)), .int (nI (q))]) (rest := []) dX11_copy_76 (c_X11_move (d := 0) (h := h_24) (a := 167) (Z := 8) (nn := 2) (p := p) (q := q) (by decide) f_34 (by decide) (by omega) (by omega)) hq.n k1806 k1807 k97 k1808 np_X11_move (Nat.le_trans (by decide) hd) (by decide) (Nat.le_refl _) (Nat.le_refl _) (hkz l_30) rfl (Nat.le_of_ble_eq_true rfl) (fun r_35 h_36 p_37 => ?_)
      obtain ⟨rfl, l_38, ⟨g_39, f_40⟩, r_41⟩ := p_37
      have l_42 := l_38.trans l_30
      refine J_aload_n (i := 0) (j := 1) dX11_copy_79 rfl rfl ?_
      have f_43 : h_36[162]? = some (.inr (11, [.int 0, .ref 163, .ref 164, .ref 165, .ref 166, .ref 167, .ref 168, .ref 169, .int 0, .int 0, .int 0, .int 0, .int 0, .long 0, .int 0, .int 0, .int 0, .int 0, .int 0, .ref 170, .ref 171, .ref 172, .int 0, .int 0, .int 0, .int 0, .int 0, .int 0, .ref 173, .ref 174, .ref 175, .int 0, .int 0, .int 0, .ref 176, .ref 177, .ref 178, .ref 179, .ref 180, .int 0, .long 0, .int 0, .ref 181])) := (r_41 162 (by decide)).trans f_31
      refine J_get (C := RX11) (T := TX11) (Z := 43) (ci := 11) (f := 6) dX11_copy_80 inG11 rfl (by decide) k1270 f_43 rfl ?_
      refine J_sipush (v := 314) dX11_copy_83 (by decide) ?_
      refine J_iload_n (i := 1) (j := 2) dX11_copy_86 rfl rfl ?_
      refine J_iload_n (i := 2) (j := 3) dX11_copy_87 rfl rfl ?_
      have f_44 : h_3[168]? = some (.inl (1, 1256, .inl g8)) := (r_8 168 (by decide)).trans ((hf 168 (by decide)).trans h8)
      have f_45 : h_13[168]? = some (.inl (1, 1256, .inl g8)) := (r_18 168 (by decide)).trans f_44
      have f_46 : h_24[168]? = some (.inl (1, 1256, .inl g8)) := (r_29 168 (by decide)).trans f_45
      have f_47 : h_36[168]? = some (.inl (1, 1256, .inl g8)) := (r_41 168 (by decide)).trans f_46
      refine J_callS (As := [.ref 168, .int 314, .int (nI (p)), .int (nI (q))]) (rest := []) dX11_copy_88 (c_X11_move (d := 0) (h := h_36) (a := 168) (Z := 1256) (nn := 314) (p := p) (q := q) (by decide) f_47 (by decide) (by omega) (by omega)) hq.n k1806 k1807 k97 k1808 np_X11_move (Nat.le_trans (by decide) hd) (by decide) (Nat.le_refl _) (Nat.le_refl _) (hkz l_42) rfl (Nat.le_of_ble_eq_true rfl) (fun r_48 h_49 p_50 => ?_)
      obtain ⟨rfl, l_51, ⟨g_52, f_53⟩, r_54⟩ := p_50
      have l_55 := l_51.trans l_42
      refine J_aload_n (i := 0) (j := 1) dX11_copy_91 rfl rfl ?_
      have f_56 : h_49[162]? = some (.inr (11, [.int 0, .ref 163, .ref 164, .ref 165, .ref 166, .ref 167, .ref 168, .ref 169, .int 0, .int 0, .int 0, .int 0, .int 0, .long 0, .int 0, .int 0, .int 0, .int 0, .int 0, .ref 170, .ref 171, .ref 172, .int 0, .int 0, .int 0, .int 0, .int 0, .int 0, .ref 173, .ref 174, .ref 175, .int 0, .int 0, .int 0, .ref 176, .ref 177, .ref 178, .ref 179, .ref 180, .int 0, .long 0, .int 0, .ref 181])) := (r_54 162 (by decide)).trans f_43
      refine J_get (C := RX11) (T := TX11) (Z := 43) (ci := 11) (f := 7) dX11_copy_92 inG11 rfl (by decide) k1271 f_56 rfl ?_
      refine J_bipush (v := 111) dX11_copy_95 (by decide) ?_
      refine J_iload_n (i := 1) (j := 2) dX11_copy_97 rfl rfl ?_
      refine J_iload_n (i := 2) (j := 3) dX11_copy_98 rfl rfl ?_
      have f_57 : h_3[169]? = some (.inl (1, 444, .inl g9)) := (r_8 169 (by decide)).trans ((hf 169 (by decide)).trans h9)
      have f_58 : h_13[169]? = some (.inl (1, 444, .inl g9)) := (r_18 169 (by decide)).trans f_57
      have f_59 : h_24[169]? = some (.inl (1, 444, .inl g9)) := (r_29 169 (by decide)).trans f_58
      have f_60 : h_36[169]? = some (.inl (1, 444, .inl g9)) := (r_41 169 (by decide)).trans f_59
      have f_61 : h_49[169]? = some (.inl (1, 444, .inl g9)) := (r_54 169 (by decide)).trans f_60
      refine J_callS (As := [.ref 169, .int 111, .int (nI (p)), .int (nI (q))]) (rest := []) dX11_copy_99 (c_X11_move (d := 0) (h := h_49) (a := 169) (Z := 444) (nn := 111) (p := p) (q := q) (by decide) f_61 (by decide) (by omega) (by omega)) hq.n k1806 k1807 k97 k1808 np_X11_move (Nat.le_trans (by decide) hd) (by decide) (Nat.le_refl _) (Nat.le_refl _) (hkz l_55) rfl (Nat.le_of_ble_eq_true rfl) (fun r_62 h_63 p_64 => ?_)
      obtain ⟨rfl, l_65, ⟨g_66, f_67⟩, r_68⟩ := p_64
      have l_69 := l_65.trans l_55
      exact J_vret hq dX11_copy_102 rfl (hkz l_69) (Nat.le_refl _) (Nat.le_refl _) ⟨rfl, l_69, fun j hj => (((((((r_68 j (by omega))).trans (r_54 j (by omega))).trans (r_41 j (by omega))).trans (r_29 j (by omega))).trans (r_18 j (by omega))).trans (r_8 j (by omega))).trans (hf j (by omega))⟩
    · exact absurd ((nI_leI (a := 600) (by omega) (by omega)).mpr (by omega)) c_1
  | succ m ih =>
    intro k w g hk hl ha hf
    refine J_iload_n (i := 3) (j := 0) dX11_copy_2 rfl rfl ?_
    refine J_sipush (v := 600) dX11_copy_3 (by decide) ?_
    refine J_icmp_ge (tgt := 39) dX11_copy_6 (by decide) (fun c_1 => ?_) (fun c_1 => ?_)
    · exact absurd ((nI_leI (a := 600) (by omega) (by omega)).mp c_1) (by omega)
    · refine J_aload_n (i := 0) (j := 1) dX11_copy_9 rfl rfl ?_
      refine J_get (C := RX11) (T := TX11) (Z := 43) (ci := 11) (f := 1) dX11_copy_10 inG11 rfl (by decide) k1265 ((hf 162 (by decide)).trans hm) rfl ?_
      refine J_sipush (v := 600) dX11_copy_13 (by decide) ?_
      refine J_iload_n (i := 2) (j := 3) dX11_copy_16 rfl rfl ?_
      refine J_imul dX11_copy_17 ?_
      refine J_ci (v := nI (600 * q)) (pk_mul _ _) ?_
      refine J_iload_n (i := 3) (j := 0) dX11_copy_18 rfl rfl ?_
      refine J_iadd dX11_copy_19 ?_
      refine J_ci (v := nI (600 * q + k)) (nI_add _ _) ?_
      refine J_aload_n (i := 0) (j := 1) dX11_copy_20 rfl rfl ?_
      refine J_get (C := RX11) (T := TX11) (Z := 43) (ci := 11) (f := 1) dX11_copy_21 inG11 rfl (by decide) k1265 ((hf 162 (by decide)).trans hm) rfl ?_
      refine J_sipush (v := 600) dX11_copy_24 (by decide) ?_
      refine J_iload_n (i := 1) (j := 2) dX11_copy_27 rfl rfl ?_
      refine J_imul dX11_copy_28 ?_
      refine J_ci (v := nI (600 * p)) (pk_mul _ _) ?_
      refine J_iload_n (i := 3) (j := 0) dX11_copy_29 rfl rfl ?_
      refine J_iadd dX11_copy_30 ?_
      refine J_ci (v := nI (600 * p + k)) (nI_add _ _) ?_
      refine J_bald dX11_copy_31 ha (vp_in_nI (n := 600 * p + k) (by omega) (by omega)) ?_
      obtain ⟨h_2, e_3⟩ : ∃ z, z = w.set 163 (.inl (0, 2400, .inl (upd g ((nI (600 * q + k)).toNatClampNeg) (vp_nar .byte (g (nI (600 * p + k)).toNatClampNeg))))) := ⟨_, rfl⟩
      refine J_bast dX11_copy_32 ha (vp_in_nI (n := 600 * q + k) (by omega) (by omega)) e_3.symm ?_
      have f_4 := a_set e_3 ha
      have l_5 := l_set e_3 hl
      refine J_iinc (i := 3) (j := 0) (v := nI (k + 1)) (lw := [(3, .int (nI (k + 1))), (0, .ref 162), (1, .int (nI (p))), (2, .int (nI (q)))]) dX11_copy_33 rfl (nI_add _ _) (by decide) rfl ?_
      refine J_goto (tgt := 2) dX11_copy_36 (by decide) ?_
      exact ih (k + 1) _ _ (by omega) l_5 f_4 (fun j hj => ((s_ne e_3 hj)).trans (hf j hj))
set_option maxHeartbeats 4000000 in
set_option maxRecDepth 100000 in
theorem c_X11_copy {d : Nat} {h : List MC} {p q : Nat} {g3 g4 g5 g6 g7 g8 g9 : Nat → Int32} (hd : 1 ≤ d) (hm : h[162]? = some (.inr (11, [.int 0, .ref 163, .ref 164, .ref 165, .ref 166, .ref 167, .ref 168, .ref 169, .int 0, .int 0, .int 0, .int 0, .int 0, .long 0, .int 0, .int 0, .int 0, .int 0, .int 0, .ref 170, .ref 171, .ref 172, .int 0, .int 0, .int 0, .int 0, .int 0, .int 0, .ref 173, .ref 174, .ref 175, .int 0, .int 0, .int 0, .ref 176, .ref 177, .ref 178, .ref 179, .ref 180, .int 0, .long 0, .int 0, .ref 181]))) (h3 : h[163]? = some (.inl (0, 2400, .inl g3))) (h4 : h[164]? = some (.inl (1, 4, .inl g4))) (h5 : h[165]? = some (.inl (1, 4, .inl g5))) (h6 : h[166]? = some (.inl (1, 4, .inl g6))) (h7 : h[167]? = some (.inl (1, 8, .inl g7))) (h8 : h[168]? = some (.inl (1, 1256, .inl g8))) (h9 : h[169]? = some (.inl (1, 444, .inl g9))) (hp : p ≤ 3) (hq2 : q ≤ 3) : CT con0 d 0 0 yX11_copy cX11_copy 4 none [.ref 162, .int (nI (p)), .int (nI (q))] h (fun r h2 => r = none ∧ h2.length = h.length ∧ ∀ j, (j < 163 ∨ 170 ≤ j) → h2[j]? = h[j]?) := by
  refine CT_of (by decide) (Nat.le_of_ble_eq_true rfl) (fun x hq => ?_)
  show J x yX11_copy cX11_copy 4 none d 0 0 h.length 0 [(0, .ref 162), (1, .int (nI (p))), (2, .int (nI (q)))] [] h 0 0
  refine J_iconst (v := 0) dX11_copy_0 (by decide) ?_
  refine J_istore_n (i := 3) (lw := [(3, .int 0), (0, .ref 162), (1, .int (nI (p))), (2, .int (nI (q)))]) dX11_copy_1 rfl (by decide) rfl ?_
  exact l_X11_copy hd hq hp hq2 hm h4 h5 h6 h7 h8 h9 600 0 h g3 (by omega) rfl h3 (fun _ _ => rfl)
set_option maxHeartbeats 4000000 in
set_option maxRecDepth 100000 in
theorem c_X11_image0 {d : Nat} {h : List MC} {a0 : Int32} (hd : 2 ≤ d) (hm : h[162]? = some (.inr (11, [.int 0, .ref 163, .ref 164, .ref 165, .ref 166, .ref 167, .ref 168, .ref 169, .int 0, .int 0, .int 0, .int 0, .int 0, .long 0, .int 0, .int 0, .int 0, .int 0, .int 0, .ref 170, .ref 171, .ref 172, .int 0, .int 0, .int 0, .int 0, .int 0, .int 0, .ref 173, .ref 174, .ref 175, .int 0, .int 0, .int 0, .ref 176, .ref 177, .ref 178, .ref 179, .ref 180, .int 0, .long 0, .int 0, .ref 181]))) (h3 : h[163]? = some (.inl (0, 2400, .inl (fun _ => 0)))) (h4 : h[164]? = some (.inl (1, 4, .inl (fun _ => 0)))) (h5 : h[165]? = some (.inl (1, 4, .inl (fun _ => 0)))) (h6 : h[166]? = some (.inl (1, 4, .inl (upd (fun _ => 0) ((0 : Int32).toNatClampNeg) (-1))))) (h7 : h[167]? = some (.inl (1, 8, .inl (fun _ => 0)))) (h8 : h[168]? = some (.inl (1, 1256, .inl (fun _ => 0)))) (h9 : h[169]? = some (.inl (1, 444, .inl (fun _ => 0)))) (h21 : h[181]? = some (.inl (3, 3, .inl (fun _ => 0))))  : CT con0 d 0 0 yX11_image cX11_image 2 (some .boolean) [.ref 162, .int a0] h (fun r h2 => r = some (.int (if a0 < 0 then 0 else if a0 < 3 then 1 else 0))) := by
  refine CT_of (by decide) (Nat.le_of_ble_eq_true rfl) (fun x hq => ?_)
  show J x yX11_image cX11_image 2 (some .boolean) d 0 0 h.length 0 [(0, .ref 162), (1, .int a0)] [] h 0 0
  refine J_aload_n (i := 0) (j := 0) dX11_image_0 rfl rfl ?_
  refine J_iconst (v := 0) dX11_image_1 (by decide) ?_
  obtain ⟨h_1, e_2⟩ : ∃ z, z = h.set 162 (.inr (11, [.int 0, .ref 163, .ref 164, .ref 165, .ref 166, .ref 167, .ref 168, .ref 169, .int 0, .int 0, .int 0, .int 0, .int 0, .long 0, .int 0, .int 0, .int 0, .int 0, .int 0, .ref 170, .ref 171, .ref 172, .int 0, .int 0, .int 0, .int 0, .int 0, .int 0, .ref 173, .ref 174, .ref 175, .int 0, .int 0, .int 0, .ref 176, .ref 177, .ref 178, .ref 179, .ref 180, .int 0, .long 0, .int 0, .ref 181])) := ⟨_, rfl⟩
  refine J_put (C := RX11) (T := TX11) (Z := 43) (ci := 11) (f := 0) (ty0 := tyX11) dX11_image_2 inG11 rfl tyX11_ok nmX11 (by decide) k1264 rfl rfl hm (Nat.le_of_ble_eq_true rfl) (fun _ _ => ⟨rfl, rfl⟩) e_2.symm ?_
  have f_3 := a_set e_2 hm
  have l_4 := l_set e_2 rfl
  refine J_iload_n (i := 1) (j := 1) dX11_image_5 rfl rfl ?_
  refine J_iconst (v := 0) dX11_image_6 (by decide) ?_
  refine J_iconst (v := 2) dX11_image_7 (by decide) ?_
  refine J_callS (As := [.int a0, .int 0, .int 2]) (rest := []) dX11_image_8 (c_X11_in (d := 0) (h := h_1) (v := a0) (lo := 0) (hi := 2) (by decide)) hq.n k1406 k1407 k97 k1408 np_X11_in (Nat.le_trans (by decide) hd) (by decide) (Nat.le_refl _) (Nat.le_refl _) (hkz l_4) rfl (Nat.le_of_ble_eq_true rfl) (fun r_5 h_6 p_7 => ?_)
  obtain ⟨rfl, w_8⟩ := p_7
  refine J_w w_8 ?_
  refine J_ifB_ne (tgt := 16) dX11_image_11 (by decide) (fun c_9 => ?_) (fun c_9 => ?_)
  · rcases k3b c_9 with rfl | rfl | rfl
    · refine J_aload_n (i := 0) (j := 0) dX11_image_16 rfl rfl ?_
      refine J_iconst (v := 0) dX11_image_17 (by decide) ?_
      refine J_iload_n (i := 1) (j := 1) dX11_image_18 rfl rfl ?_
      refine J_iconst (v := 1) dX11_image_19 (by decide) ?_
      refine J_iadd dX11_image_20 ?_
      refine J_ci (v := 1) (by decide) ?_
      have f_10 : h_1[163]? = some (.inl (0, 2400, .inl (fun _ => 0))) := (s_ne e_2 (by decide)).trans h3
      have f_11 : h_1[164]? = some (.inl (1, 4, .inl (fun _ => 0))) := (s_ne e_2 (by decide)).trans h4
      have f_12 : h_1[165]? = some (.inl (1, 4, .inl (fun _ => 0))) := (s_ne e_2 (by decide)).trans h5
      have f_13 : h_1[166]? = some (.inl (1, 4, .inl (upd (fun _ => 0) ((0 : Int32).toNatClampNeg) (-1)))) := (s_ne e_2 (by decide)).trans h6
      have f_14 : h_1[167]? = some (.inl (1, 8, .inl (fun _ => 0))) := (s_ne e_2 (by decide)).trans h7
      have f_15 : h_1[168]? = some (.inl (1, 1256, .inl (fun _ => 0))) := (s_ne e_2 (by decide)).trans h8
      have f_16 : h_1[169]? = some (.inl (1, 444, .inl (fun _ => 0))) := (s_ne e_2 (by decide)).trans h9
      refine J_callV (As := [.int 0, .int 1]) (rest := []) dX11_image_21 (c_X11_copy (d := 1) (h := h_1) (p := 0) (q := 1) (by decide) f_3 f_10 f_11 f_12 f_13 f_14 f_15 f_16 (by omega) (by omega)) hq.n k1802 k1804 k85 f_3 rfl rfl k97 k1805 np_X11_copy (Nat.le_trans (by decide) hd) (by decide) (Nat.le_refl _) (Nat.le_refl _) (hkz l_4) rfl (Nat.le_of_ble_eq_true rfl) (fun r_17 h_18 p_19 => ?_)
      obtain ⟨rfl, l_20, r_21⟩ := p_19
      have l_22 := l_20.trans l_4
      refine J_aload_n (i := 0) (j := 0) dX11_image_24 rfl rfl ?_
      have f_23 : h_18[162]? = some (.inr (11, [.int 0, .ref 163, .ref 164, .ref 165, .ref 166, .ref 167, .ref 168, .ref 169, .int 0, .int 0, .int 0, .int 0, .int 0, .long 0, .int 0, .int 0, .int 0, .int 0, .int 0, .ref 170, .ref 171, .ref 172, .int 0, .int 0, .int 0, .int 0, .int 0, .int 0, .ref 173, .ref 174, .ref 175, .int 0, .int 0, .int 0, .ref 176, .ref 177, .ref 178, .ref 179, .ref 180, .int 0, .long 0, .int 0, .ref 181])) := (r_21 162 (by decide)).trans f_3
      refine J_get (C := RX11) (T := TX11) (Z := 43) (ci := 11) (f := 42) dX11_image_25 inG11 rfl (by decide) k1306 f_23 rfl ?_
      refine J_iload_n (i := 1) (j := 1) dX11_image_28 rfl rfl ?_
      refine J_iconst (v := 1) dX11_image_29 (by decide) ?_
      have f_24 : h_1[181]? = some (.inl (3, 3, .inl (fun _ => 0))) := (s_ne e_2 (by decide)).trans h21
      have f_25 : h_18[181]? = some (.inl (3, 3, .inl (fun _ => 0))) := (r_21 181 (by decide)).trans f_24
      obtain ⟨h_26, e_27⟩ : ∃ z, z = h_18.set 181 (.inl (3, 3, .inl (upd (fun _ => 0) ((0 : Int32).toNatClampNeg) (vp_nar .boolean 1)))) := ⟨_, rfl⟩
      refine J_zast dX11_image_30 f_25 (vp_c (by decide)) e_27.symm ?_
      have f_28 := a_set e_27 f_25
      have l_29 := l_set e_27 l_22
      refine J_iconst (v := 1) dX11_image_31 (by decide) ?_
      exact J_zret hq dX11_image_32 rfl rfl (hkz l_29) (Nat.le_refl _) (Nat.le_refl _) (by decide)
    · refine J_aload_n (i := 0) (j := 0) dX11_image_16 rfl rfl ?_
      refine J_iconst (v := 0) dX11_image_17 (by decide) ?_
      refine J_iload_n (i := 1) (j := 1) dX11_image_18 rfl rfl ?_
      refine J_iconst (v := 1) dX11_image_19 (by decide) ?_
      refine J_iadd dX11_image_20 ?_
      refine J_ci (v := 2) (by decide) ?_
      have f_30 : h_1[163]? = some (.inl (0, 2400, .inl (fun _ => 0))) := (s_ne e_2 (by decide)).trans h3
      have f_31 : h_1[164]? = some (.inl (1, 4, .inl (fun _ => 0))) := (s_ne e_2 (by decide)).trans h4
      have f_32 : h_1[165]? = some (.inl (1, 4, .inl (fun _ => 0))) := (s_ne e_2 (by decide)).trans h5
      have f_33 : h_1[166]? = some (.inl (1, 4, .inl (upd (fun _ => 0) ((0 : Int32).toNatClampNeg) (-1)))) := (s_ne e_2 (by decide)).trans h6
      have f_34 : h_1[167]? = some (.inl (1, 8, .inl (fun _ => 0))) := (s_ne e_2 (by decide)).trans h7
      have f_35 : h_1[168]? = some (.inl (1, 1256, .inl (fun _ => 0))) := (s_ne e_2 (by decide)).trans h8
      have f_36 : h_1[169]? = some (.inl (1, 444, .inl (fun _ => 0))) := (s_ne e_2 (by decide)).trans h9
      refine J_callV (As := [.int 0, .int 2]) (rest := []) dX11_image_21 (c_X11_copy (d := 1) (h := h_1) (p := 0) (q := 2) (by decide) f_3 f_30 f_31 f_32 f_33 f_34 f_35 f_36 (by omega) (by omega)) hq.n k1802 k1804 k85 f_3 rfl rfl k97 k1805 np_X11_copy (Nat.le_trans (by decide) hd) (by decide) (Nat.le_refl _) (Nat.le_refl _) (hkz l_4) rfl (Nat.le_of_ble_eq_true rfl) (fun r_37 h_38 p_39 => ?_)
      obtain ⟨rfl, l_40, r_41⟩ := p_39
      have l_42 := l_40.trans l_4
      refine J_aload_n (i := 0) (j := 0) dX11_image_24 rfl rfl ?_
      have f_43 : h_38[162]? = some (.inr (11, [.int 0, .ref 163, .ref 164, .ref 165, .ref 166, .ref 167, .ref 168, .ref 169, .int 0, .int 0, .int 0, .int 0, .int 0, .long 0, .int 0, .int 0, .int 0, .int 0, .int 0, .ref 170, .ref 171, .ref 172, .int 0, .int 0, .int 0, .int 0, .int 0, .int 0, .ref 173, .ref 174, .ref 175, .int 0, .int 0, .int 0, .ref 176, .ref 177, .ref 178, .ref 179, .ref 180, .int 0, .long 0, .int 0, .ref 181])) := (r_41 162 (by decide)).trans f_3
      refine J_get (C := RX11) (T := TX11) (Z := 43) (ci := 11) (f := 42) dX11_image_25 inG11 rfl (by decide) k1306 f_43 rfl ?_
      refine J_iload_n (i := 1) (j := 1) dX11_image_28 rfl rfl ?_
      refine J_iconst (v := 1) dX11_image_29 (by decide) ?_
      have f_44 : h_1[181]? = some (.inl (3, 3, .inl (fun _ => 0))) := (s_ne e_2 (by decide)).trans h21
      have f_45 : h_38[181]? = some (.inl (3, 3, .inl (fun _ => 0))) := (r_41 181 (by decide)).trans f_44
      obtain ⟨h_46, e_47⟩ : ∃ z, z = h_38.set 181 (.inl (3, 3, .inl (upd (fun _ => 0) ((1 : Int32).toNatClampNeg) (vp_nar .boolean 1)))) := ⟨_, rfl⟩
      refine J_zast dX11_image_30 f_45 (vp_c (by decide)) e_47.symm ?_
      have f_48 := a_set e_47 f_45
      have l_49 := l_set e_47 l_42
      refine J_iconst (v := 1) dX11_image_31 (by decide) ?_
      exact J_zret hq dX11_image_32 rfl rfl (hkz l_49) (Nat.le_refl _) (Nat.le_refl _) (by decide)
    · refine J_aload_n (i := 0) (j := 0) dX11_image_16 rfl rfl ?_
      refine J_iconst (v := 0) dX11_image_17 (by decide) ?_
      refine J_iload_n (i := 1) (j := 1) dX11_image_18 rfl rfl ?_
      refine J_iconst (v := 1) dX11_image_19 (by decide) ?_
      refine J_iadd dX11_image_20 ?_
      refine J_ci (v := 3) (by decide) ?_
      have f_50 : h_1[163]? = some (.inl (0, 2400, .inl (fun _ => 0))) := (s_ne e_2 (by decide)).trans h3
      have f_51 : h_1[164]? = some (.inl (1, 4, .inl (fun _ => 0))) := (s_ne e_2 (by decide)).trans h4
      have f_52 : h_1[165]? = some (.inl (1, 4, .inl (fun _ => 0))) := (s_ne e_2 (by decide)).trans h5
      have f_53 : h_1[166]? = some (.inl (1, 4, .inl (upd (fun _ => 0) ((0 : Int32).toNatClampNeg) (-1)))) := (s_ne e_2 (by decide)).trans h6
      have f_54 : h_1[167]? = some (.inl (1, 8, .inl (fun _ => 0))) := (s_ne e_2 (by decide)).trans h7
      have f_55 : h_1[168]? = some (.inl (1, 1256, .inl (fun _ => 0))) := (s_ne e_2 (by decide)).trans h8
      have f_56 : h_1[169]? = some (.inl (1, 444, .inl (fun _ => 0))) := (s_ne e_2 (by decide)).trans h9
      refine J_callV (As := [.int 0, .int 3]) (rest := []) dX11_image_21 (c_X11_copy (d := 1) (h := h_1) (p := 0) (q := 3) (by decide) f_3 f_50 f_51 f_52 f_53 f_54 f_55 f_56 (by omega) (by omega)) hq.n k1802 k1804 k85 f_3 rfl rfl k97 k1805 np_X11_copy (Nat.le_trans (by decide) hd) (by decide) (Nat.le_refl _) (Nat.le_refl _) (hkz l_4) rfl (Nat.le_of_ble_eq_true rfl) (fun r_57 h_58 p_59 => ?_)
      obtain ⟨rfl, l_60, r_61⟩ := p_59
      have l_62 := l_60.trans l_4
      refine J_aload_n (i := 0) (j := 0) dX11_image_24 rfl rfl ?_
      have f_63 : h_58[162]? = some (.inr (11, [.int 0, .ref 163, .ref 164, .ref 165, .ref 166, .ref 167, .ref 168, .ref 169, .int 0, .int 0, .int 0, .int 0, .int 0, .long 0, .int 0, .int 0, .int 0, .int 0, .int 0, .ref 170, .ref 171, .ref 172, .int 0, .int 0, .int 0, .int 0, .int 0, .int 0, .ref 173, .ref 174, .ref 175, .int 0, .int 0, .int 0, .ref 176, .ref 177, .ref 178, .ref 179, .ref 180, .int 0, .long 0, .int 0, .ref 181])) := (r_61 162 (by decide)).trans f_3
      refine J_get (C := RX11) (T := TX11) (Z := 43) (ci := 11) (f := 42) dX11_image_25 inG11 rfl (by decide) k1306 f_63 rfl ?_
      refine J_iload_n (i := 1) (j := 1) dX11_image_28 rfl rfl ?_
      refine J_iconst (v := 1) dX11_image_29 (by decide) ?_
      have f_64 : h_1[181]? = some (.inl (3, 3, .inl (fun _ => 0))) := (s_ne e_2 (by decide)).trans h21
      have f_65 : h_58[181]? = some (.inl (3, 3, .inl (fun _ => 0))) := (r_61 181 (by decide)).trans f_64
      obtain ⟨h_66, e_67⟩ : ∃ z, z = h_58.set 181 (.inl (3, 3, .inl (upd (fun _ => 0) ((2 : Int32).toNatClampNeg) (vp_nar .boolean 1)))) := ⟨_, rfl⟩
      refine J_zast dX11_image_30 f_65 (vp_c (by decide)) e_67.symm ?_
      have f_68 := a_set e_67 f_65
      have l_69 := l_set e_67 l_62
      refine J_iconst (v := 1) dX11_image_31 (by decide) ?_
      exact J_zret hq dX11_image_32 rfl rfl (hkz l_69) (Nat.le_refl _) (Nat.le_refl _) (by decide)
  · refine J_iconst (v := 0) dX11_image_14 (by decide) ?_
    exact J_zret hq dX11_image_15 rfl rfl (hkz l_4) (Nat.le_refl _) (Nat.le_refl _) (by rw [im0 c_9])
