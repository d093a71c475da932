/-- the model's cells are as they were -/
def FX (h h2 : List MC) : Prop := h2.length = h.length ∧ ∀ j, 162 ≤ j → h2[j]? = h[j]?
theorem cn0 {a : Int32} (h : (!decide (a < 0) && !decide ((1 : Int32) < a)) = false) : (if a = 0 then (0 : Int32) else if a = 1 then 0 else -2) = -2 := by
  by_cases h0 : a = 0
  · subst h0; exact absurd h (by decide)
  · by_cases h1 : a = 1
    · subst h1; exact absurd h (by decide)
    · simp [h0, h1]
theorem cn1 {a : Int32} (h : (!decide (a < 0) && !decide ((1 : Int32) < a)) = true) : (if a = 0 then (0 : Int32) else if a = 1 then 0 else -2) = 0 := by
  simp only [Bool.and_eq_true, Bool.not_eq_true', decide_eq_false_iff_not, Int32.lt_iff_toInt_lt] at h
  have e0 : (0 : Int32).toInt = 0 := by decide
  have e1 : (1 : Int32).toInt = 1 := by decide
  by_cases h0 : a = 0
  · simp [h0]
  · have h1 : a = 1 := by
      apply Int32.toInt_inj.mp
      have h2 : ¬ a.toInt = 0 := fun q => h0 (Int32.toInt_inj.mp (q.trans e0.symm))
      omega
    simp [h1]
theorem en0 {a : Int32} (h : (!decide (a < 0) && !decide ((0 : Int32) < a)) = false) : (if a < 0 then (-1 : Int32) else if a ≤ 0 then a else -1) = -1 := by
  by_cases h0 : a < 0
  · simp [h0]
  · by_cases h1 : a ≤ 0
    · have h2 : ¬ (0 : Int32) < a := by
        rw [Int32.lt_iff_toInt_lt]; rw [Int32.le_iff_toInt_le] at h1; omega
      simp [h0, h2] at h
    · simp [h0, h1]
theorem en1 {a : Int32} (h : (!decide (a < 0) && !decide ((0 : Int32) < a)) = true) : (if a < 0 then (-1 : Int32) else if a ≤ 0 then a else -1) = a := by
  simp only [Bool.and_eq_true, Bool.not_eq_true', decide_eq_false_iff_not] at h
  simp [h.1, i_nlt h.2]
theorem pi3 {a : Int32} (h1 : ¬ a < 0) (h2 : ¬ 3 ≤ a) : vp_in a 3 := by
  rw [vp_in_iff]
  have e0 : (0 : Int32).toInt = 0 := by decide
  have e3 : (3 : Int32).toInt = 3 := by decide
  rw [Int32.lt_iff_toInt_lt] at h1
  rw [Int32.le_iff_toInt_le] at h2
  omega
theorem pi2 {a : Int32} (h : (!decide (a < 0) && !decide ((1 : Int32) < a)) = true) : vp_in a 8 := by
  rw [vp_in_iff]
  simp only [Bool.and_eq_true, Bool.not_eq_true', decide_eq_false_iff_not, Int32.lt_iff_toInt_lt] at h
  have e0 : (0 : Int32).toInt = 0 := by decide
  have e1 : (1 : Int32).toInt = 1 := by decide
  omega
theorem pi4 {a : Int32} (h : (!decide (a < 0) && !decide ((2 : Int32) < a)) = true) : vp_in a 3 := by
  rw [vp_in_iff]
  simp only [Bool.and_eq_true, Bool.not_eq_true', decide_eq_false_iff_not, Int32.lt_iff_toInt_lt] at h
  have e0 : (0 : Int32).toInt = 0 := by decide
  have e1 : (2 : Int32).toInt = 2 := by decide
  omega
theorem k191 : Cond.fieldLinkNest RX10 79 "PondStair$Told" "fault" "I" "PondStair" ∈ nt := nt_in 191 (by decide +kernel) (by decide +kernel)
theorem k193 : Cond.fieldLinkNest RX10 82 "PondStair$Told" "place" "I" "PondStair" ∈ nt := nt_in 193 (by decide +kernel) (by decide +kernel)
theorem k197 : Cond.fieldLinkNest RX10 328 "PondStair$Told" "hills" "I" "PondStair" ∈ nt := nt_in 197 (by decide +kernel) (by decide +kernel)
theorem k201 : Cond.fieldLinkNest RX10 331 "PondStair$Told" "plans" "I" "PondStair" ∈ nt := nt_in 201 (by decide +kernel) (by decide +kernel)
theorem k189 : Cond.fieldLinkNest RX10 71 "PondStair$Told" "length" "I" "PondStair" ∈ nt := nt_in 189 (by decide +kernel) (by decide +kernel)
theorem dX10_again_0 : decode cX10_again 0 = .ok (.iload_n 1, 1) := by decide +kernel
theorem dX10_again_1 : decode cX10_again 1 = .ok (.ifCond .lt 17, 3) := by decide +kernel
theorem dX10_again_4 : decode cX10_again 4 = .ok (.iload_n 1, 1) := by decide +kernel
theorem dX10_again_5 : decode cX10_again 5 = .ok (.iconst 3, 1) := by decide +kernel
theorem dX10_again_6 : decode cX10_again 6 = .ok (.if_icmp .ge 12, 3) := by decide +kernel
theorem dX10_again_9 : decode cX10_again 9 = .ok (.aload_n 0, 1) := by decide +kernel
theorem dX10_again_10 : decode cX10_again 10 = .ok (.getfield 20, 3) := by decide +kernel
theorem dX10_again_13 : decode cX10_again 13 = .ok (.iload_n 1, 1) := by decide +kernel
theorem dX10_again_14 : decode cX10_again 14 = .ok (.baload, 1) := by decide +kernel
theorem dX10_again_15 : decode cX10_again 15 = .ok (.ifCond .ne 5, 3) := by decide +kernel
theorem dX10_again_18 : decode cX10_again 18 = .ok (.iconst 0, 1) := by decide +kernel
theorem dX10_again_19 : decode cX10_again 19 = .ok (.ireturn, 1) := by decide +kernel
theorem dX10_count_0 : decode cX10_count 0 = .ok (.iload_n 1, 1) := by decide +kernel
theorem dX10_count_1 : decode cX10_count 1 = .ok (.lookupswitch 43 #[(0, 27), (1, 35)], 27) := by decide +kernel
theorem dX10_count_28 : decode cX10_count 28 = .ok (.aload_n 0, 1) := by decide +kernel
theorem dX10_count_29 : decode cX10_count 29 = .ok (.getfield 10, 3) := by decide +kernel
theorem dX10_count_32 : decode cX10_count 32 = .ok (.getfield 328, 3) := by decide +kernel
theorem dX10_count_35 : decode cX10_count 35 = .ok (.ireturn, 1) := by decide +kernel
theorem dX10_count_36 : decode cX10_count 36 = .ok (.aload_n 0, 1) := by decide +kernel
theorem dX10_count_37 : decode cX10_count 37 = .ok (.getfield 10, 3) := by decide +kernel
theorem dX10_count_40 : decode cX10_count 40 = .ok (.getfield 331, 3) := by decide +kernel
theorem dX10_count_43 : decode cX10_count 43 = .ok (.ireturn, 1) := by decide +kernel
theorem dX10_count_44 : decode cX10_count 44 = .ok (.bipush (-2), 2) := by decide +kernel
theorem dX10_count_46 : decode cX10_count 46 = .ok (.ireturn, 1) := by decide +kernel
theorem dX10_end_0 : decode cX10_end 0 = .ok (.iload_n 1, 1) := by decide +kernel
theorem dX10_end_1 : decode cX10_end 1 = .ok (.ifCond .lt 14, 3) := by decide +kernel
theorem dX10_end_4 : decode cX10_end 4 = .ok (.iload_n 1, 1) := by decide +kernel
theorem dX10_end_5 : decode cX10_end 5 = .ok (.aload_n 0, 1) := by decide +kernel
theorem dX10_end_6 : decode cX10_end 6 = .ok (.getfield 10, 3) := by decide +kernel
theorem dX10_end_9 : decode cX10_end 9 = .ok (.getfield 71, 3) := by decide +kernel
theorem dX10_end_12 : decode cX10_end 12 = .ok (.if_icmp .le 5, 3) := by decide +kernel
theorem dX10_end_15 : decode cX10_end 15 = .ok (.iconst (-1), 1) := by decide +kernel
theorem dX10_end_16 : decode cX10_end 16 = .ok (.ireturn, 1) := by decide +kernel
theorem dX10_end_17 : decode cX10_end 17 = .ok (.aload_n 0, 1) := by decide +kernel
theorem dX10_end_18 : decode cX10_end 18 = .ok (.getfield 10, 3) := by decide +kernel
theorem dX10_end_21 : decode cX10_end 21 = .ok (.iload_n 1, 1) := by decide +kernel
theorem dX10_end_22 : decode cX10_end 22 = .ok (.putfield 71, 3) := by decide +kernel
theorem dX10_end_25 : decode cX10_end 25 = .ok (.iload_n 1, 1) := by decide +kernel
theorem dX10_end_26 : decode cX10_end 26 = .ok (.ireturn, 1) := by decide +kernel
theorem dX10_fault_0 : decode cX10_fault 0 = .ok (.iload_n 1, 1) := by decide +kernel
theorem dX10_fault_1 : decode cX10_fault 1 = .ok (.lookupswitch 43 #[(0, 27), (1, 35)], 27) := by decide +kernel
theorem dX10_fault_28 : decode cX10_fault 28 = .ok (.aload_n 0, 1) := by decide +kernel
theorem dX10_fault_29 : decode cX10_fault 29 = .ok (.getfield 10, 3) := by decide +kernel
theorem dX10_fault_32 : decode cX10_fault 32 = .ok (.getfield 79, 3) := by decide +kernel
theorem dX10_fault_35 : decode cX10_fault 35 = .ok (.ireturn, 1) := by decide +kernel
theorem dX10_fault_36 : decode cX10_fault 36 = .ok (.aload_n 0, 1) := by decide +kernel
theorem dX10_fault_37 : decode cX10_fault 37 = .ok (.getfield 10, 3) := by decide +kernel
theorem dX10_fault_40 : decode cX10_fault 40 = .ok (.getfield 82, 3) := by decide +kernel
theorem dX10_fault_43 : decode cX10_fault 43 = .ok (.ireturn, 1) := by decide +kernel
theorem dX10_fault_44 : decode cX10_fault 44 = .ok (.iconst (-1), 1) := by decide +kernel
theorem dX10_fault_45 : decode cX10_fault 45 = .ok (.ireturn, 1) := by decide +kernel
theorem dX11_again_0 : decode cX11_again 0 = .ok (.aload_n 0, 1) := by decide +kernel
theorem dX11_again_1 : decode cX11_again 1 = .ok (.iconst 0, 1) := by decide +kernel
theorem dX11_again_2 : decode cX11_again 2 = .ok (.putfield 70, 3) := by decide +kernel
theorem dX11_again_5 : decode cX11_again 5 = .ok (.iload_n 1, 1) := by decide +kernel
theorem dX11_again_6 : decode cX11_again 6 = .ok (.iconst 0, 1) := by decide +kernel
theorem dX11_again_7 : decode cX11_again 7 = .ok (.iconst 2, 1) := by decide +kernel
theorem dX11_again_8 : decode cX11_again 8 = .ok (.invokestatic 78, 3) := by decide +kernel
theorem dX11_again_11 : decode cX11_again 11 = .ok (.ifCond .eq 12, 3) := by decide +kernel
theorem dX11_again_14 : decode cX11_again 14 = .ok (.aload_n 0, 1) := by decide +kernel
theorem dX11_again_15 : decode cX11_again 15 = .ok (.getfield 66, 3) := by decide +kernel
theorem dX11_again_18 : decode cX11_again 18 = .ok (.iload_n 1, 1) := by decide +kernel
theorem dX11_again_19 : decode cX11_again 19 = .ok (.baload, 1) := by decide +kernel
theorem dX11_again_20 : decode cX11_again 20 = .ok (.ifCond .ne 5, 3) := by decide +kernel
theorem dX11_again_23 : decode cX11_again 23 = .ok (.iconst 0, 1) := by decide +kernel
theorem dX11_again_24 : decode cX11_again 24 = .ok (.ireturn, 1) := by decide +kernel
theorem dX11_count_0 : decode cX11_count 0 = .ok (.aload_n 0, 1) := by decide +kernel
theorem dX11_count_1 : decode cX11_count 1 = .ok (.iconst 0, 1) := by decide +kernel
theorem dX11_count_2 : decode cX11_count 2 = .ok (.putfield 70, 3) := by decide +kernel
theorem dX11_count_5 : decode cX11_count 5 = .ok (.iload_n 1, 1) := by decide +kernel
theorem dX11_count_6 : decode cX11_count 6 = .ok (.iconst 0, 1) := by decide +kernel
theorem dX11_count_7 : decode cX11_count 7 = .ok (.iconst 1, 1) := by decide +kernel
theorem dX11_count_8 : decode cX11_count 8 = .ok (.invokestatic 78, 3) := by decide +kernel
theorem dX11_count_11 : decode cX11_count 11 = .ok (.ifCond .eq 12, 3) := by decide +kernel
theorem dX11_count_14 : decode cX11_count 14 = .ok (.aload_n 0, 1) := by decide +kernel
theorem dX11_count_15 : decode cX11_count 15 = .ok (.getfield 23, 3) := by decide +kernel
theorem dX11_count_18 : decode cX11_count 18 = .ok (.iload_n 1, 1) := by decide +kernel
theorem dX11_count_19 : decode cX11_count 19 = .ok (.iaload, 1) := by decide +kernel
theorem dX11_count_20 : decode cX11_count 20 = .ok (.goto 5, 3) := by decide +kernel
theorem dX11_count_23 : decode cX11_count 23 = .ok (.bipush (-2), 2) := by decide +kernel
theorem dX11_count_25 : decode cX11_count 25 = .ok (.ireturn, 1) := by decide +kernel
theorem dX11_end_0 : decode cX11_end 0 = .ok (.aload_n 0, 1) := by decide +kernel
theorem dX11_end_1 : decode cX11_end 1 = .ok (.iconst 0, 1) := by decide +kernel
theorem dX11_end_2 : decode cX11_end 2 = .ok (.putfield 70, 3) := by decide +kernel
theorem dX11_end_5 : decode cX11_end 5 = .ok (.iload_n 1, 1) := by decide +kernel
theorem dX11_end_6 : decode cX11_end 6 = .ok (.iconst 0, 1) := by decide +kernel
theorem dX11_end_7 : decode cX11_end 7 = .ok (.aload_n 0, 1) := by decide +kernel
theorem dX11_end_8 : decode cX11_end 8 = .ok (.getfield 13, 3) := by decide +kernel
theorem dX11_end_11 : decode cX11_end 11 = .ok (.iconst 0, 1) := by decide +kernel
theorem dX11_end_12 : decode cX11_end 12 = .ok (.iaload, 1) := by decide +kernel
theorem dX11_end_13 : decode cX11_end 13 = .ok (.invokestatic 78, 3) := by decide +kernel
theorem dX11_end_16 : decode cX11_end 16 = .ok (.ifCond .ne 5, 3) := by decide +kernel
theorem dX11_end_19 : decode cX11_end 19 = .ok (.iconst (-1), 1) := by decide +kernel
theorem dX11_end_20 : decode cX11_end 20 = .ok (.ireturn, 1) := by decide +kernel
theorem dX11_end_21 : decode cX11_end 21 = .ok (.aload_n 0, 1) := by decide +kernel
theorem dX11_end_22 : decode cX11_end 22 = .ok (.getfield 13, 3) := by decide +kernel
theorem dX11_end_25 : decode cX11_end 25 = .ok (.iconst 0, 1) := by decide +kernel
theorem dX11_end_26 : decode cX11_end 26 = .ok (.iload_n 1, 1) := by decide +kernel
theorem dX11_end_27 : decode cX11_end 27 = .ok (.iastore, 1) := by decide +kernel
theorem dX11_end_28 : decode cX11_end 28 = .ok (.iload_n 1, 1) := by decide +kernel
theorem dX11_end_29 : decode cX11_end 29 = .ok (.ireturn, 1) := by decide +kernel
theorem dX11_fault_0 : decode cX11_fault 0 = .ok (.aload_n 0, 1) := by decide +kernel
theorem dX11_fault_1 : decode cX11_fault 1 = .ok (.iconst 0, 1) := by decide +kernel
theorem dX11_fault_2 : decode cX11_fault 2 = .ok (.putfield 70, 3) := by decide +kernel
theorem dX11_fault_5 : decode cX11_fault 5 = .ok (.iload_n 1, 1) := by decide +kernel
theorem dX11_fault_6 : decode cX11_fault 6 = .ok (.ifCond .ne 12, 3) := by decide +kernel
theorem dX11_fault_9 : decode cX11_fault 9 = .ok (.aload_n 0, 1) := by decide +kernel
theorem dX11_fault_10 : decode cX11_fault 10 = .ok (.getfield 17, 3) := by decide +kernel
theorem dX11_fault_13 : decode cX11_fault 13 = .ok (.iconst 0, 1) := by decide +kernel
theorem dX11_fault_14 : decode cX11_fault 14 = .ok (.iaload, 1) := by decide +kernel
theorem dX11_fault_15 : decode cX11_fault 15 = .ok (.goto 18, 3) := by decide +kernel
theorem dX11_fault_18 : decode cX11_fault 18 = .ok (.iload_n 1, 1) := by decide +kernel
theorem dX11_fault_19 : decode cX11_fault 19 = .ok (.iconst 1, 1) := by decide +kernel
theorem dX11_fault_20 : decode cX11_fault 20 = .ok (.if_icmp .ne 12, 3) := by decide +kernel
theorem dX11_fault_23 : decode cX11_fault 23 = .ok (.aload_n 0, 1) := by decide +kernel
theorem dX11_fault_24 : decode cX11_fault 24 = .ok (.getfield 20, 3) := by decide +kernel
theorem dX11_fault_27 : decode cX11_fault 27 = .ok (.iconst 0, 1) := by decide +kernel
theorem dX11_fault_28 : decode cX11_fault 28 = .ok (.iaload, 1) := by decide +kernel
theorem dX11_fault_29 : decode cX11_fault 29 = .ok (.goto 4, 3) := by decide +kernel
theorem dX11_fault_32 : decode cX11_fault 32 = .ok (.iconst (-1), 1) := by decide +kernel
theorem dX11_fault_33 : decode cX11_fault 33 = .ok (.ireturn, 1) := by decide +kernel
set_option maxHeartbeats 4000000 in
set_option maxRecDepth 100000 in
theorem c_X10_fault0 {d : Nat} {h : List MC} {a0 : Int32} (hd : 0 ≤ d) (h0 : h[0]? = some (.inr (10, [.ref 1, .ref 27, .ref 28, .ref 29, .ref 43, .ref 49, .ref 53, .ref 56, .ref 57, .ref 79]))) (h1 : h[1]? = some (.inr (7, [.ref 2, .int 0, .int 0, .int (-1), .ref 3, .int 0, .ref 4, .int 0])))  : CT con0 d 0 0 yX10_fault cX10_fault 2 (some .int) [.ref 0, .int a0] h (fun r h2 => r = some (.int (if a0 = 0 then 0 else -1)) ∧ FX h h2) := by
  refine CT_of (by decide) (Nat.le_of_ble_eq_true rfl) (fun x hq => ?_)
  show J x yX10_fault cX10_fault 2 (some .int) d 0 0 h.length 0 [(0, .ref 0), (1, .int a0)] [] h 0 0
  refine J_iload_n (i := 1) (j := 1) dX10_fault_0 rfl rfl ?_
  by_cases c_1 : a0 = 0
  · refine J_ci (v := 0) c_1 ?_
    refine J_lookup (tgt := 28) dX10_fault_1 (by decide) (off := 27) (by decide) (by decide) ?_
    refine J_aload_n (i := 0) (j := 0) dX10_fault_28 rfl rfl ?_
    refine J_get (C := RX10) (T := TX10) (Z := 10) (ci := 10) (f := 0) dX10_fault_29 inG10 rfl (by decide) k423 h0 rfl ?_
    refine J_getN (C := RX7) (T := TX7) (Z := 8) (ci := 7) (f := 2) dX10_fault_32 inG7 rfl (by decide) k191 h1 rfl ?_
    exact J_iret hq dX10_fault_35 rfl (hkz rfl) (Nat.le_refl _) (Nat.le_refl _) ⟨by simp [c_1], ⟨rfl, fun _ _ => rfl⟩⟩
  by_cases c_2 : a0 = 1
  · refine J_ci (v := 1) c_2 ?_
    refine J_lookup (tgt := 36) dX10_fault_1 (by decide) (off := 35) (by decide) (by decide) ?_
    refine J_aload_n (i := 0) (j := 0) dX10_fault_36 rfl rfl ?_
    refine J_get (C := RX10) (T := TX10) (Z := 10) (ci := 10) (f := 0) dX10_fault_37 inG10 rfl (by decide) k423 h0 rfl ?_
    refine J_getN (C := RX7) (T := TX7) (Z := 8) (ci := 7) (f := 3) dX10_fault_40 inG7 rfl (by decide) k193 h1 rfl ?_
    exact J_iret hq dX10_fault_43 rfl (hkz rfl) (Nat.le_refl _) (Nat.le_refl _) ⟨by simp [c_2], ⟨rfl, fun _ _ => rfl⟩⟩
  · refine J_lookup (tgt := 44) dX10_fault_1 (by decide) (off := 43) ((lv_osw c_1 (by decide)).trans ((lv_osw c_2 (by decide)).trans rfl)) (by decide) ?_
    refine J_iconst (v := (-1)) dX10_fault_44 (by decide) ?_
    exact J_iret hq dX10_fault_45 rfl (hkz rfl) (Nat.le_refl _) (Nat.le_refl _) ⟨by simp [c_1, c_2], ⟨rfl, fun _ _ => rfl⟩⟩
set_option maxHeartbeats 4000000 in
set_option maxRecDepth 100000 in
theorem c_X10_count0 {d : Nat} {h : List MC} {a0 : Int32} (hd : 0 ≤ d) (h0 : h[0]? = some (.inr (10, [.ref 1, .ref 27, .ref 28, .ref 29, .ref 43, .ref 49, .ref 53, .ref 56, .ref 57, .ref 79]))) (h1 : h[1]? = some (.inr (7, [.ref 2, .int 0, .int 0, .int (-1), .ref 3, .int 0, .ref 4, .int 0])))  : CT con0 d 0 0 yX10_count cX10_count 2 (some .int) [.ref 0, .int a0] h (fun r h2 => r = some (.int (if a0 = 0 then 0 else if a0 = 1 then 0 else -2)) ∧ FX h h2) := by
  refine CT_of (by decide) (Nat.le_of_ble_eq_true rfl) (fun x hq => ?_)
  show J x yX10_count cX10_count 2 (some .int) d 0 0 h.length 0 [(0, .ref 0), (1, .int a0)] [] h 0 0
  refine J_iload_n (i := 1) (j := 1) dX10_count_0 rfl rfl ?_
  by_cases c_1 : a0 = 0
  · refine J_ci (v := 0) c_1 ?_
    refine J_lookup (tgt := 28) dX10_count_1 (by decide) (off := 27) (by decide) (by decide) ?_
    refine J_aload_n (i := 0) (j := 0) dX10_count_28 rfl rfl ?_
    refine J_get (C := RX10) (T := TX10) (Z := 10) (ci := 10) (f := 0) dX10_count_29 inG10 rfl (by decide) k423 h0 rfl ?_
    refine J_getN (C := RX7) (T := TX7) (Z := 8) (ci := 7) (f := 5) dX10_count_32 inG7 rfl (by decide) k197 h1 rfl ?_
    exact J_iret hq dX10_count_35 rfl (hkz rfl) (Nat.le_refl _) (Nat.le_refl _) ⟨by simp [c_1], ⟨rfl, fun _ _ => rfl⟩⟩
  by_cases c_2 : a0 = 1
  · refine J_ci (v := 1) c_2 ?_
    refine J_lookup (tgt := 36) dX10_count_1 (by decide) (off := 35) (by decide) (by decide) ?_
    refine J_aload_n (i := 0) (j := 0) dX10_count_36 rfl rfl ?_
    refine J_get (C := RX10) (T := TX10) (Z := 10) (ci := 10) (f := 0) dX10_count_37 inG10 rfl (by decide) k423 h0 rfl ?_
    refine J_getN (C := RX7) (T := TX7) (Z := 8) (ci := 7) (f := 7) dX10_count_40 inG7 rfl (by decide) k201 h1 rfl ?_
    exact J_iret hq dX10_count_43 rfl (hkz rfl) (Nat.le_refl _) (Nat.le_refl _) ⟨by simp [c_2], ⟨rfl, fun _ _ => rfl⟩⟩
  · refine J_lookup (tgt := 44) dX10_count_1 (by decide) (off := 43) ((lv_osw c_1 (by decide)).trans ((lv_osw c_2 (by decide)).trans rfl)) (by decide) ?_
    refine J_bipush (v := (-2)) dX10_count_44 (by decide) ?_
    exact J_iret hq dX10_count_46 rfl (hkz rfl) (Nat.le_refl _) (Nat.le_refl _) ⟨by simp [c_1, c_2], ⟨rfl, fun _ _ => rfl⟩⟩
set_option maxHeartbeats 4000000 in
set_option maxRecDepth 100000 in
theorem c_X10_end0 {d : Nat} {h : List MC} {a0 : Int32} (hd : 0 ≤ d) (h0 : h[0]? = some (.inr (10, [.ref 1, .ref 27, .ref 28, .ref 29, .ref 43, .ref 49, .ref 53, .ref 56, .ref 57, .ref 79]))) (h1 : h[1]? = some (.inr (7, [.ref 2, .int 0, .int 0, .int (-1), .ref 3, .int 0, .ref 4, .int 0])))  : CT con0 d 0 0 yX10_end cX10_end 2 (some .int) [.ref 0, .int a0] h (fun r h2 => r = some (.int (if a0 < 0 then -1 else if a0 ≤ 0 then a0 else -1)) ∧ FX h h2) := by
  refine CT_of (by decide) (Nat.le_of_ble_eq_true rfl) (fun x hq => ?_)
  show J x yX10_end cX10_end 2 (some .int) d 0 0 h.length 0 [(0, .ref 0), (1, .int a0)] [] h 0 0
  refine J_iload_n (i := 1) (j := 1) dX10_end_0 rfl rfl ?_
  refine J_if_lt (tgt := 15) dX10_end_1 (by decide) (fun c_1 => ?_) (fun c_1 => ?_)
  · refine J_iconst (v := (-1)) dX10_end_15 (by decide) ?_
    exact J_iret hq dX10_end_16 rfl (hkz rfl) (Nat.le_refl _) (Nat.le_refl _) ⟨by simp [c_1], ⟨rfl, fun _ _ => rfl⟩⟩
  · refine J_iload_n (i := 1) (j := 1) dX10_end_4 rfl rfl ?_
    refine J_aload_n (i := 0) (j := 0) dX10_end_5 rfl rfl ?_
    refine J_get (C := RX10) (T := TX10) (Z := 10) (ci := 10) (f := 0) dX10_end_6 inG10 rfl (by decide) k423 h0 rfl ?_
    refine J_getN (C := RX7) (T := TX7) (Z := 8) (ci := 7) (f := 1) dX10_end_9 inG7 rfl (by decide) k189 h1 rfl ?_
    refine J_icmp_le (tgt := 17) dX10_end_12 (by decide) (fun c_2 => ?_) (fun c_2 => ?_)
    · refine J_aload_n (i := 0) (j := 0) dX10_end_17 rfl rfl ?_
      refine J_get (C := RX10) (T := TX10) (Z := 10) (ci := 10) (f := 0) dX10_end_18 inG10 rfl (by decide) k423 h0 rfl ?_
      refine J_iload_n (i := 1) (j := 1) dX10_end_21 rfl rfl ?_
      obtain ⟨h_3, e_4⟩ : ∃ z, z = h.set 1 (.inr (7, [.ref 2, .int a0, .int 0, .int (-1), .ref 3, .int 0, .ref 4, .int 0])) := ⟨_, rfl⟩
      refine J_putN (C := RX7) (T := TX7) (Z := 8) (ci := 7) (f := 1) (ty0 := tyX7) dX10_end_22 inG7 rfl tyX7_ok nmX7 (by decide) k189 rfl rfl h1 (Nat.le_of_ble_eq_true rfl) (fun _ _ => ⟨rfl, rfl⟩) e_4.symm ?_
      have f_5 := a_set e_4 h1
      have l_6 := l_set e_4 rfl
      refine J_iload_n (i := 1) (j := 1) dX10_end_25 rfl rfl ?_
      exact J_iret hq dX10_end_26 rfl (hkz l_6) (Nat.le_refl _) (Nat.le_refl _) ⟨by simp [c_1, c_2], ⟨l_6, fun j hj => (s_ne e_4 (by omega))⟩⟩
    · refine J_iconst (v := (-1)) dX10_end_15 (by decide) ?_
      exact J_iret hq dX10_end_16 rfl (hkz rfl) (Nat.le_refl _) (Nat.le_refl _) ⟨by simp [c_1, c_2], ⟨rfl, fun _ _ => rfl⟩⟩
set_option maxHeartbeats 4000000 in
set_option maxRecDepth 100000 in
theorem c_X10_again0 {d : Nat} {h : List MC} {a0 : Int32} (hd : 1 ≤ d) (h0 : h[0]? = some (.inr (10, [.ref 1, .ref 27, .ref 28, .ref 29, .ref 43, .ref 49, .ref 53, .ref 56, .ref 57, .ref 79]))) (h1 : h[1]? = some (.inr (7, [.ref 2, .int 0, .int 0, .int (-1), .ref 3, .int 0, .ref 4, .int 0]))) (h28 : h[28]? = some (.inl (3, 3, .inl (fun _ => 0))))  : CT con0 d 0 0 yX10_again cX10_again 2 (some .boolean) [.ref 0, .int a0] h (fun r h2 => r = some (.int 0) ∧ FX h h2) := by
  refine CT_of (by decide) (Nat.le_of_ble_eq_true rfl) (fun x hq => ?_)
  show J x yX10_again cX10_again 2 (some .boolean) d 0 0 h.length 0 [(0, .ref 0), (1, .int a0)] [] h 0 0
  refine J_iload_n (i := 1) (j := 1) dX10_again_0 rfl rfl ?_
  refine J_if_lt (tgt := 18) dX10_again_1 (by decide) (fun c_1 => ?_) (fun c_1 => ?_)
  · refine J_iconst (v := 0) dX10_again_18 (by decide) ?_
    exact J_zret hq dX10_again_19 rfl rfl (hkz rfl) (Nat.le_refl _) (Nat.le_refl _) ⟨by simp [c_1], ⟨rfl, fun _ _ => rfl⟩⟩
  · refine J_iload_n (i := 1) (j := 1) dX10_again_4 rfl rfl ?_
    refine J_iconst (v := 3) dX10_again_5 (by decide) ?_
    refine J_icmp_ge (tgt := 18) dX10_again_6 (by decide) (fun c_2 => ?_) (fun c_2 => ?_)
    · refine J_iconst (v := 0) dX10_again_18 (by decide) ?_
      exact J_zret hq dX10_again_19 rfl rfl (hkz rfl) (Nat.le_refl _) (Nat.le_refl _) ⟨by simp [c_1, c_2], ⟨rfl, fun _ _ => rfl⟩⟩
    · refine J_aload_n (i := 0) (j := 0) dX10_again_9 rfl rfl ?_
      refine J_get (C := RX10) (T := TX10) (Z := 10) (ci := 10) (f := 2) dX10_again_10 inG10 rfl (by decide) k425 h0 rfl ?_
      refine J_iload_n (i := 1) (j := 1) dX10_again_13 rfl rfl ?_
      refine J_zald dX10_again_14 h28 (pi3 c_1 c_2) ?_
      refine J_ci (v := 0) rfl ?_
      refine J_if_ne (tgt := 20) dX10_again_15 (by decide) (fun q => absurd (by decide) q) (fun _ => ?_)
      refine J_iconst (v := 0) dX10_again_18 (by decide) ?_
      exact J_zret hq dX10_again_19 rfl rfl (hkz rfl) (Nat.le_refl _) (Nat.le_refl _) ⟨by simp [c_1, c_2], ⟨rfl, fun _ _ => rfl⟩⟩
set_option maxHeartbeats 4000000 in
set_option maxRecDepth 100000 in
theorem c_X11_fault0 {d : Nat} {h : List MC} {a0 : Int32} (hd : 0 ≤ d) (hm : h[162]? = some (.inr (11, [.int 0, .ref 163, .ref 164, .ref 165, .ref 166, .ref 167, .ref 168, .ref 169, .int 0, .int 0, .int 0, .int 0, .int 0, .long 0, .int 0, .int 0, .int 0, .int 0, .int 0, .ref 170, .ref 171, .ref 172, .int 0, .int 0, .int 0, .int 0, .int 0, .int 0, .ref 173, .ref 174, .ref 175, .int 0, .int 0, .int 0, .ref 176, .ref 177, .ref 178, .ref 179, .ref 180, .int 0, .long 0, .int 0, .ref 181]))) (hy : h[167]? = some (.inl (1, 8, .inl (fun _ => 0)))) (h164 : h[164]? = some (.inl (1, 4, .inl (fun _ => 0)))) (h165 : h[165]? = some (.inl (1, 4, .inl (fun _ => 0)))) (h166 : h[166]? = some (.inl (1, 4, .inl (upd (fun _ => 0) ((0 : Int32).toNatClampNeg) (-1))))) (h181 : h[181]? = some (.inl (3, 3, .inl (fun _ => 0))))  : CT con0 d 0 0 yX11_fault cX11_fault 2 (some .int) [.ref 162, .int a0] h (fun r h2 => r = some (.int (if a0 = 0 then 0 else -1))) := by
  refine CT_of (by decide) (Nat.le_of_ble_eq_true rfl) (fun x hq => ?_)
  show J x yX11_fault cX11_fault 2 (some .int) d 0 0 h.length 0 [(0, .ref 162), (1, .int a0)] [] h 0 0
  refine J_aload_n (i := 0) (j := 0) dX11_fault_0 rfl rfl ?_
  refine J_iconst (v := 0) dX11_fault_1 (by decide) ?_
  obtain ⟨h_1, e_2⟩ : ∃ z, z = h.set 162 (.inr (11, [.int 0, .ref 163, .ref 164, .ref 165, .ref 166, .ref 167, .ref 168, .ref 169, .int 0, .int 0, .int 0, .int 0, .int 0, .long 0, .int 0, .int 0, .int 0, .int 0, .int 0, .ref 170, .ref 171, .ref 172, .int 0, .int 0, .int 0, .int 0, .int 0, .int 0, .ref 173, .ref 174, .ref 175, .int 0, .int 0, .int 0, .ref 176, .ref 177, .ref 178, .ref 179, .ref 180, .int 0, .long 0, .int 0, .ref 181])) := ⟨_, rfl⟩
  refine J_put (C := RX11) (T := TX11) (Z := 43) (ci := 11) (f := 0) (ty0 := tyX11) dX11_fault_2 inG11 rfl tyX11_ok nmX11 (by decide) k1264 rfl rfl hm (Nat.le_of_ble_eq_true rfl) (fun _ _ => ⟨rfl, rfl⟩) e_2.symm ?_
  have f_3 := a_set e_2 hm
  have l_4 := l_set e_2 rfl
  refine J_iload_n (i := 1) (j := 1) dX11_fault_5 rfl rfl ?_
  refine J_if_ne (tgt := 18) dX11_fault_6 (by decide) (fun c_5 => ?_) (fun c_5 => ?_)
  · refine J_iload_n (i := 1) (j := 1) dX11_fault_18 rfl rfl ?_
    refine J_iconst (v := 1) dX11_fault_19 (by decide) ?_
    refine J_icmp_ne (tgt := 32) dX11_fault_20 (by decide) (fun c_6 => ?_) (fun c_6 => ?_)
    · refine J_iconst (v := (-1)) dX11_fault_32 (by decide) ?_
      exact J_iret hq dX11_fault_33 rfl (hkz l_4) (Nat.le_refl _) (Nat.le_refl _) (by simp [c_5, c_6])
    · refine J_aload_n (i := 0) (j := 0) dX11_fault_23 rfl rfl ?_
      refine J_get (C := RX11) (T := TX11) (Z := 43) (ci := 11) (f := 4) dX11_fault_24 inG11 rfl (by decide) k1268 f_3 rfl ?_
      refine J_iconst (v := 0) dX11_fault_27 (by decide) ?_
      have f_7 : h_1[166]? = some (.inl (1, 4, .inl (upd (fun _ => 0) ((0 : Int32).toNatClampNeg) (-1)))) := (s_ne e_2 (by decide)).trans h166
      refine J_iald dX11_fault_28 f_7 (vp_c (by decide)) ?_
      refine J_ci (v := -1) rfl ?_
      refine J_goto (tgt := 33) dX11_fault_29 (by decide) ?_
      exact J_iret hq dX11_fault_33 rfl (hkz l_4) (Nat.le_refl _) (Nat.le_refl _) (by simp [c_5, c_6])
  · refine J_aload_n (i := 0) (j := 0) dX11_fault_9 rfl rfl ?_
    refine J_get (C := RX11) (T := TX11) (Z := 43) (ci := 11) (f := 3) dX11_fault_10 inG11 rfl (by decide) k1267 f_3 rfl ?_
    refine J_iconst (v := 0) dX11_fault_13 (by decide) ?_
    have f_8 : h_1[165]? = some (.inl (1, 4, .inl (fun _ => 0))) := (s_ne e_2 (by decide)).trans h165
    refine J_iald dX11_fault_14 f_8 (vp_c (by decide)) ?_
    refine J_ci (v := 0) rfl ?_
    refine J_goto (tgt := 33) dX11_fault_15 (by decide) ?_
    exact J_iret hq dX11_fault_33 rfl (hkz l_4) (Nat.le_refl _) (Nat.le_refl _) (by simp [c_5])
set_option maxHeartbeats 4000000 in
set_option maxRecDepth 100000 in
theorem c_X11_count0 {d : Nat} {h : List MC} {a0 : Int32} (hd : 1 ≤ d) (hm : h[162]? = some (.inr (11, [.int 0, .ref 163, .ref 164, .ref 165, .ref 166, .ref 167, .ref 168, .ref 169, .int 0, .int 0, .int 0, .int 0, .int 0, .long 0, .int 0, .int 0, .int 0, .int 0, .int 0, .ref 170, .ref 171, .ref 172, .int 0, .int 0, .int 0, .int 0, .int 0, .int 0, .ref 173, .ref 174, .ref 175, .int 0, .int 0, .int 0, .ref 176, .ref 177, .ref 178, .ref 179, .ref 180, .int 0, .long 0, .int 0, .ref 181]))) (hy : h[167]? = some (.inl (1, 8, .inl (fun _ => 0)))) (h164 : h[164]? = some (.inl (1, 4, .inl (fun _ => 0)))) (h165 : h[165]? = some (.inl (1, 4, .inl (fun _ => 0)))) (h166 : h[166]? = some (.inl (1, 4, .inl (upd (fun _ => 0) ((0 : Int32).toNatClampNeg) (-1))))) (h181 : h[181]? = some (.inl (3, 3, .inl (fun _ => 0))))  : CT con0 d 0 0 yX11_count cX11_count 2 (some .int) [.ref 162, .int a0] h (fun r h2 => r = some (.int (if a0 = 0 then 0 else if a0 = 1 then 0 else -2))) := by
  refine CT_of (by decide) (Nat.le_of_ble_eq_true rfl) (fun x hq => ?_)
  show J x yX11_count cX11_count 2 (some .int) d 0 0 h.length 0 [(0, .ref 162), (1, .int a0)] [] h 0 0
  refine J_aload_n (i := 0) (j := 0) dX11_count_0 rfl rfl ?_
  refine J_iconst (v := 0) dX11_count_1 (by decide) ?_
  obtain ⟨h_1, e_2⟩ : ∃ z, z = h.set 162 (.inr (11, [.int 0, .ref 163, .ref 164, .ref 165, .ref 166, .ref 167, .ref 168, .ref 169, .int 0, .int 0, .int 0, .int 0, .int 0, .long 0, .int 0, .int 0, .int 0, .int 0, .int 0, .ref 170, .ref 171, .ref 172, .int 0, .int 0, .int 0, .int 0, .int 0, .int 0, .ref 173, .ref 174, .ref 175, .int 0, .int 0, .int 0, .ref 176, .ref 177, .ref 178, .ref 179, .ref 180, .int 0, .long 0, .int 0, .ref 181])) := ⟨_, rfl⟩
  refine J_put (C := RX11) (T := TX11) (Z := 43) (ci := 11) (f := 0) (ty0 := tyX11) dX11_count_2 inG11 rfl tyX11_ok nmX11 (by decide) k1264 rfl rfl hm (Nat.le_of_ble_eq_true rfl) (fun _ _ => ⟨rfl, rfl⟩) e_2.symm ?_
  have f_3 := a_set e_2 hm
  have l_4 := l_set e_2 rfl
  refine J_iload_n (i := 1) (j := 1) dX11_count_5 rfl rfl ?_
  refine J_iconst (v := 0) dX11_count_6 (by decide) ?_
  refine J_iconst (v := 1) dX11_count_7 (by decide) ?_
  refine J_callS (As := [.int a0, .int 0, .int 1]) (rest := []) dX11_count_8 (c_X11_in (d := 0) (h := h_1) (v := a0) (lo := 0) (hi := 1) (by decide)) hq.n k1406 k1407 k97 k1408 np_X11_in (Nat.le_trans (by decide) hd) (by decide) (Nat.le_refl _) (Nat.le_refl _) (hkz l_4) rfl (Nat.le_of_ble_eq_true rfl) (fun r_5 h_6 p_7 => ?_)
  obtain ⟨rfl, w_8⟩ := p_7
  refine J_w w_8 ?_
  refine J_ifB_eq (tgt := 23) dX11_count_11 (by decide) (fun c_9 => ?_) (fun c_9 => ?_)
  · refine J_bipush (v := (-2)) dX11_count_23 (by decide) ?_
    exact J_iret hq dX11_count_25 rfl (hkz l_4) (Nat.le_refl _) (Nat.le_refl _) (by rw [cn0 c_9])
  · refine J_aload_n (i := 0) (j := 0) dX11_count_14 rfl rfl ?_
    refine J_get (C := RX11) (T := TX11) (Z := 43) (ci := 11) (f := 5) dX11_count_15 inG11 rfl (by decide) k1269 f_3 rfl ?_
    refine J_iload_n (i := 1) (j := 1) dX11_count_18 rfl rfl ?_
    have f_10 : h_1[167]? = some (.inl (1, 8, .inl (fun _ => 0))) := (s_ne e_2 (by decide)).trans hy
    refine J_iald dX11_count_19 f_10 (pi2 c_9) ?_
    refine J_ci (v := 0) rfl ?_
    refine J_goto (tgt := 25) dX11_count_20 (by decide) ?_
    exact J_iret hq dX11_count_25 rfl (hkz l_4) (Nat.le_refl _) (Nat.le_refl _) (by rw [cn1 c_9])
set_option maxHeartbeats 4000000 in
set_option maxRecDepth 100000 in
theorem c_X11_end0 {d : Nat} {h : List MC} {a0 : Int32} (hd : 1 ≤ d) (hm : h[162]? = some (.inr (11, [.int 0, .ref 163, .ref 164, .ref 165, .ref 166, .ref 167, .ref 168, .ref 169, .int 0, .int 0, .int 0, .int 0, .int 0, .long 0, .int 0, .int 0, .int 0, .int 0, .int 0, .ref 170, .ref 171, .ref 172, .int 0, .int 0, .int 0, .int 0, .int 0, .int 0, .ref 173, .ref 174, .ref 175, .int 0, .int 0, .int 0, .ref 176, .ref 177, .ref 178, .ref 179, .ref 180, .int 0, .long 0, .int 0, .ref 181]))) (hy : h[167]? = some (.inl (1, 8, .inl (fun _ => 0)))) (h164 : h[164]? = some (.inl (1, 4, .inl (fun _ => 0)))) (h165 : h[165]? = some (.inl (1, 4, .inl (fun _ => 0)))) (h166 : h[166]? = some (.inl (1, 4, .inl (upd (fun _ => 0) ((0 : Int32).toNatClampNeg) (-1))))) (h181 : h[181]? = some (.inl (3, 3, .inl (fun _ => 0))))  : CT con0 d 0 0 yX11_end cX11_end 2 (some .int) [.ref 162, .int a0] h (fun r h2 => r = some (.int (if a0 < 0 then -1 else if a0 ≤ 0 then a0 else -1))) := by
  refine CT_of (by decide) (Nat.le_of_ble_eq_true rfl) (fun x hq => ?_)
  show J x yX11_end cX11_end 2 (some .int) d 0 0 h.length 0 [(0, .ref 162), (1, .int a0)] [] h 0 0
  refine J_aload_n (i := 0) (j := 0) dX11_end_0 rfl rfl ?_
  refine J_iconst (v := 0) dX11_end_1 (by decide) ?_
  obtain ⟨h_1, e_2⟩ : ∃ z, z = h.set 162 (.inr (11, [.int 0, .ref 163, .ref 164, .ref 165, .ref 166, .ref 167, .ref 168, .ref 169, .int 0, .int 0, .int 0, .int 0, .int 0, .long 0, .int 0, .int 0, .int 0, .int 0, .int 0, .ref 170, .ref 171, .ref 172, .int 0, .int 0, .int 0, .int 0, .int 0, .int 0, .ref 173, .ref 174, .ref 175, .int 0, .int 0, .int 0, .ref 176, .ref 177, .ref 178, .ref 179, .ref 180, .int 0, .long 0, .int 0, .ref 181])) := ⟨_, rfl⟩
  refine J_put (C := RX11) (T := TX11) (Z := 43) (ci := 11) (f := 0) (ty0 := tyX11) dX11_end_2 inG11 rfl tyX11_ok nmX11 (by decide) k1264 rfl rfl hm (Nat.le_of_ble_eq_true rfl) (fun _ _ => ⟨rfl, rfl⟩) e_2.symm ?_
  have f_3 := a_set e_2 hm
  have l_4 := l_set e_2 rfl
  refine J_iload_n (i := 1) (j := 1) dX11_end_5 rfl rfl ?_
  refine J_iconst (v := 0) dX11_end_6 (by decide) ?_
  refine J_aload_n (i := 0) (j := 0) dX11_end_7 rfl rfl ?_
  refine J_get (C := RX11) (T := TX11) (Z := 43) (ci := 11) (f := 2) dX11_end_8 inG11 rfl (by decide) k1266 f_3 rfl ?_
  refine J_iconst (v := 0) dX11_end_11 (by decide) ?_
  have f_5 : h_1[164]? = some (.inl (1, 4, .inl (fun _ => 0))) := (s_ne e_2 (by decide)).trans h164
  refine J_iald dX11_end_12 f_5 (vp_c (by decide)) ?_
  refine J_ci (v := 0) rfl ?_
  refine J_callS (As := [.int a0, .int 0, .int 0]) (rest := []) dX11_end_13 (c_X11_in (d := 0) (h := h_1) (v := a0) (lo := 0) (hi := 0) (by decide)) hq.n k1406 k1407 k97 k1408 np_X11_in (Nat.le_trans (by decide) hd) (by decide) (Nat.le_refl _) (Nat.le_refl _) (hkz l_4) rfl (Nat.le_of_ble_eq_true rfl) (fun r_6 h_7 p_8 => ?_)
  obtain ⟨rfl, w_9⟩ := p_8
  refine J_w w_9 ?_
  refine J_ifB_ne (tgt := 21) dX11_end_16 (by decide) (fun c_10 => ?_) (fun c_10 => ?_)
  · refine J_aload_n (i := 0) (j := 0) dX11_end_21 rfl rfl ?_
    refine J_get (C := RX11) (T := TX11) (Z := 43) (ci := 11) (f := 2) dX11_end_22 inG11 rfl (by decide) k1266 f_3 rfl ?_
    refine J_iconst (v := 0) dX11_end_25 (by decide) ?_
    refine J_iload_n (i := 1) (j := 1) dX11_end_26 rfl rfl ?_
    obtain ⟨h_11, e_12⟩ : ∃ z, z = h_1.set 164 (.inl (1, 4, .inl (upd (fun _ => 0) ((0 : Int32).toNatClampNeg) a0))) := ⟨_, rfl⟩
    refine J_iast dX11_end_27 f_5 (vp_c (by decide)) e_12.symm ?_
    have f_13 := a_set e_12 f_5
    have l_14 := l_set e_12 l_4
    refine J_iload_n (i := 1) (j := 1) dX11_end_28 rfl rfl ?_
    exact J_iret hq dX11_end_29 rfl (hkz l_14) (Nat.le_refl _) (Nat.le_refl _) (by rw [en1 c_10])
  · refine J_iconst (v := (-1)) dX11_end_19 (by decide) ?_
    exact J_iret hq dX11_end_20 rfl (hkz l_4) (Nat.le_refl _) (Nat.le_refl _) (by rw [en0 c_10])
set_option maxHeartbeats 4000000 in
set_option maxRecDepth 100000 in
theorem c_X11_again0 {d : Nat} {h : List MC} {a0 : Int32} (hd : 1 ≤ d) (hm : h[162]? = some (.inr (11, [.int 0, .ref 163, .ref 164, .ref 165, .ref 166, .ref 167, .ref 168, .ref 169, .int 0, .int 0, .int 0, .int 0, .int 0, .long 0, .int 0, .int 0, .int 0, .int 0, .int 0, .ref 170, .ref 171, .ref 172, .int 0, .int 0, .int 0, .int 0, .int 0, .int 0, .ref 173, .ref 174, .ref 175, .int 0, .int 0, .int 0, .ref 176, .ref 177, .ref 178, .ref 179, .ref 180, .int 0, .long 0, .int 0, .ref 181]))) (hy : h[167]? = some (.inl (1, 8, .inl (fun _ => 0)))) (h164 : h[164]? = some (.inl (1, 4, .inl (fun _ => 0)))) (h165 : h[165]? = some (.inl (1, 4, .inl (fun _ => 0)))) (h166 : h[166]? = some (.inl (1, 4, .inl (upd (fun _ => 0) ((0 : Int32).toNatClampNeg) (-1))))) (h181 : h[181]? = some (.inl (3, 3, .inl (fun _ => 0))))  : CT con0 d 0 0 yX11_again cX11_again 2 (some .boolean) [.ref 162, .int a0] h (fun r h2 => r = some (.int 0)) := by
  refine CT_of (by decide) (Nat.le_of_ble_eq_true rfl) (fun x hq => ?_)
  show J x yX11_again cX11_again 2 (some .boolean) d 0 0 h.length 0 [(0, .ref 162), (1, .int a0)] [] h 0 0
  refine J_aload_n (i := 0) (j := 0) dX11_again_0 rfl rfl ?_
  refine J_iconst (v := 0) dX11_again_1 (by decide) ?_
  obtain ⟨h_1, e_2⟩ : ∃ z, z = h.set 162 (.inr (11, [.int 0, .ref 163, .ref 164, .ref 165, .ref 166, .ref 167, .ref 168, .ref 169, .int 0, .int 0, .int 0, .int 0, .int 0, .long 0, .int 0, .int 0, .int 0, .int 0, .int 0, .ref 170, .ref 171, .ref 172, .int 0, .int 0, .int 0, .int 0, .int 0, .int 0, .ref 173, .ref 174, .ref 175, .int 0, .int 0, .int 0, .ref 176, .ref 177, .ref 178, .ref 179, .ref 180, .int 0, .long 0, .int 0, .ref 181])) := ⟨_, rfl⟩
  refine J_put (C := RX11) (T := TX11) (Z := 43) (ci := 11) (f := 0) (ty0 := tyX11) dX11_again_2 inG11 rfl tyX11_ok nmX11 (by decide) k1264 rfl rfl hm (Nat.le_of_ble_eq_true rfl) (fun _ _ => ⟨rfl, rfl⟩) e_2.symm ?_
  have f_3 := a_set e_2 hm
  have l_4 := l_set e_2 rfl
  refine J_iload_n (i := 1) (j := 1) dX11_again_5 rfl rfl ?_
  refine J_iconst (v := 0) dX11_again_6 (by decide) ?_
  refine J_iconst (v := 2) dX11_again_7 (by decide) ?_
  refine J_callS (As := [.int a0, .int 0, .int 2]) (rest := []) dX11_again_8 (c_X11_in (d := 0) (h := h_1) (v := a0) (lo := 0) (hi := 2) (by decide)) hq.n k1406 k1407 k97 k1408 np_X11_in (Nat.le_trans (by decide) hd) (by decide) (Nat.le_refl _) (Nat.le_refl _) (hkz l_4) rfl (Nat.le_of_ble_eq_true rfl) (fun r_5 h_6 p_7 => ?_)
  obtain ⟨rfl, w_8⟩ := p_7
  refine J_w w_8 ?_
  refine J_ifB_eq (tgt := 23) dX11_again_11 (by decide) (fun c_9 => ?_) (fun c_9 => ?_)
  · refine J_iconst (v := 0) dX11_again_23 (by decide) ?_
    exact J_zret hq dX11_again_24 rfl rfl (hkz l_4) (Nat.le_refl _) (Nat.le_refl _) (by simp [c_9])
  · refine J_aload_n (i := 0) (j := 0) dX11_again_14 rfl rfl ?_
    refine J_get (C := RX11) (T := TX11) (Z := 43) (ci := 11) (f := 42) dX11_again_15 inG11 rfl (by decide) k1306 f_3 rfl ?_
    refine J_iload_n (i := 1) (j := 1) dX11_again_18 rfl rfl ?_
    have f_10 : h_1[181]? = some (.inl (3, 3, .inl (fun _ => 0))) := (s_ne e_2 (by decide)).trans h181
    refine J_zald dX11_again_19 f_10 (pi4 c_9) ?_
    refine J_ci (v := 0) rfl ?_
    refine J_if_ne (tgt := 25) dX11_again_20 (by decide) (fun q => absurd (by decide) q) (fun _ => ?_)
    refine J_iconst (v := 0) dX11_again_23 (by decide) ?_
    exact J_zret hq dX11_again_24 rfl rfl (hkz l_4) (Nat.le_refl _) (Nat.le_refl _) (by simp [c_9])
