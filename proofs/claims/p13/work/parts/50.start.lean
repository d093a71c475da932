/-! the start: static arrays, words -/
def nl : List Cond := flatC narrow_1
theorem nl_bf {args : Array Value} {s : State} (h : (Cond.and given_1 narrow_1).before args s = true) : ∀ c ∈ nl, c.before args s = true := by
  rw [Cond.before_and, Bool.and_eq_true] at h
  exact flat_of_before _ h.2
def sT (i : Nat) : Term := .static RX3 (sNm i) "[I"
def wT (i : Nat) : Term := .string RX3 (120 + 2 * i)
theorem nl_at {i : Nat} {w : Cond} (h : nl[i]? = some w) : w ∈ nl := List.mem_of_getElem? h
def nl_arrI : List Nat := [8, 118, 34, 26, 82, 100]
theorem nl_arr : ∀ i, i < 6 → nl[nl_arrI.getD i 0]? = some (Cond.arrayOf (sT i) .int) := by decide +kernel
def nl_lenI : List Nat := [9, 119, 35, 27, 83, 101]
theorem nl_len : ∀ i, i < 6 → nl[nl_lenI.getD i 0]? = some (Cond.eq (.length (sT i)) (.int (Int32.ofNat (sAr i).length))) := by decide +kernel
def nl_elI : List (List Nat) := [[10, 11, 12, 13, 14, 15, 16, 17, 18, 19, 20, 21, 22, 23, 24], [120, 121, 122, 123, 124, 125, 126, 127, 128, 129, 130, 131, 132, 133, 134], [36, 37, 38, 39, 40, 41, 42, 43, 44, 45, 46, 47, 48, 49, 50, 51, 52, 53, 54, 55, 56, 57, 58, 59, 60, 61, 62, 63, 64, 65, 66, 67, 68, 69, 70, 71, 72, 73, 74, 75, 76, 77, 78, 79, 80], [28, 29, 30, 31, 32], [84, 85, 86, 87, 88, 89, 90, 91, 92, 93, 94, 95, 96, 97, 98], [102, 103, 104, 105, 106, 107, 108, 109, 110, 111, 112, 113, 114, 115, 116]]
theorem nl_el : ∀ i, i < 6 → ∀ j, j < (sAr i).length → nl[(nl_elI.getD i []).getD j 0]? = some (Cond.eq (.elem (sT i) (.int (Int32.ofNat j))) (.int ((sAr i).getD j 0))) := by decide +kernel
theorem nl_cs : nl[2]? = some (Cond.eq (.static "java/lang/String" "COMPACT_STRINGS" "Z") (.int 1)) := by decide +kernel
theorem nl_fm : nl[3]? = some (Cond.isRef (.static "jdk/internal/util/Preconditions" "SIOOBE_FORMATTER" "Ljava/util/function/BiFunction;")) := by decide +kernel
def nl_exI : List Nat := [171, 179, 188, 199, 211, 223, 236, 251, 266, 281, 298, 316, 335, 355, 376, 399, 421, 446]
theorem nl_ex : ∀ i, i < 18 → nl[nl_exI.getD i 0]? = some (Cond.exactly (wT i) "java/lang/String") := by decide +kernel
def nl_coI : List Nat := [172, 180, 189, 200, 212, 224, 237, 252, 267, 282, 299, 317, 336, 356, 377, 400, 422, 447]
theorem nl_co : ∀ i, i < 18 → nl[nl_coI.getD i 0]? = some (Cond.eq (.field (wT i) "java/lang/String" "coder" "B") (.int 0)) := by decide +kernel
def nl_arI : List Nat := [173, 181, 190, 201, 213, 225, 238, 253, 268, 283, 300, 318, 337, 357, 378, 401, 423, 448]
theorem nl_ar : ∀ i, i < 18 → nl[nl_arI.getD i 0]? = some (Cond.arrayOf (.field (wT i) "java/lang/String" "value" "[B") .byte) := by decide +kernel
def nl_leI : List Nat := [174, 182, 191, 202, 214, 226, 239, 254, 269, 284, 301, 319, 338, 358, 379, 402, 424, 449]
theorem nl_le : ∀ i, i < 18 → nl[nl_leI.getD i 0]? = some (Cond.eq (.length (.field (wT i) "java/lang/String" "value" "[B")) (.int (Int32.ofNat (sLn.getD i 0)))) := by decide +kernel
def nl_byI : List (List Nat) := [[175, 176, 177, 178], [183, 184, 185, 186], [192, 193, 194, 195, 196], [203, 204, 205, 206, 207], [215, 216, 217, 218], [227, 228, 229, 230], [240, 241, 242, 243, 244], [255, 256, 257, 258], [270, 271, 272], [285, 286, 287, 288], [302, 303, 304, 305], [320, 321, 322, 323], [339, 340, 341, 342], [359, 360, 361, 362], [380, 381, 382, 383, 384], [403, 404, 405], [425, 426, 427, 428, 429], [450, 451, 452]]
theorem nl_by : ∀ i, i < 18 → ∀ j, j < sLn.getD i 0 → nl[(nl_byI.getD i []).getD j 0]? = some (Cond.eq (.elem (.field (wT i) "java/lang/String" "value" "[B") (.int (Int32.ofNat j))) (.int ((sBy.getD i []).getD j 0))) := by decide +kernel
def nl_neI : List (List Nat) := [[], [187], [197, 198], [208, 209, 210], [219, 220, 221, 222], [231, 232, 233, 234, 235], [245, 246, 247, 248, 249, 250], [259, 260, 261, 262, 263, 264, 265], [273, 274, 275, 276, 277, 278, 279, 280], [289, 290, 291, 292, 293, 294, 295, 296, 297], [306, 307, 308, 309, 310, 311, 312, 313, 314, 315], [324, 325, 326, 327, 328, 329, 330, 331, 332, 333, 334], [343, 344, 345, 346, 347, 348, 349, 350, 351, 352, 353, 354], [363, 364, 365, 366, 367, 368, 369, 370, 371, 372, 373, 374, 375], [385, 386, 387, 388, 389, 390, 391, 392, 393, 394, 395, 396, 397, 398], [406, 407, 408, 409, 410, 411, 412, 413, 414, 415, 416, 417, 418, 419, 420], [430, 431, 432, 433, 434, 435, 436, 437, 438, 439, 440, 441, 442, 443, 444, 445], [453, 454, 455, 456, 457, 458, 459, 460, 461, 462, 463, 464, 465, 466, 467, 468, 469]]
theorem nl_ne : ∀ i, i < 18 → ∀ j, j < i → nl[(nl_neI.getD i []).getD j 0]? = some (Cond.not (Cond.eq (wT j) (wT i))) := by decide +kernel
def tIx : List Nat := [606, 658, 626, 608, 632, 634]
theorem tb_ls : ∀ i, i < 6 → lw_tbl[tIx.getD i 0]? = some (Cond.laysStatic RX3 (sNm i) "[I") := by decide +kernel
theorem tb_in : lw_tbl[91]? = some (Cond.initialized RX3) := by decide +kernel
theorem tb_cs : lw_tbl[562]? = some (Cond.laysStatic "java/lang/String" "COMPACT_STRINGS" "Z") := by decide +kernel
theorem tb_si : lw_tbl[100]? = some (Cond.initialized "java/lang/String") := by decide +kernel
theorem tb_fm : lw_tbl[578]? = some (Cond.laysStatic "jdk/internal/util/Preconditions" "SIOOBE_FORMATTER" "Ljava/util/function/BiFunction;") := by decide +kernel
theorem tb_pi : lw_tbl[102]? = some (Cond.initialized "jdk/internal/util/Preconditions") := by decide +kernel
def rIx : List Nat := [528, 529, 530, 531, 532, 533, 534, 535, 536, 537, 538, 539, 540, 541, 542, 546, 547, 548]
theorem tb_sr : ∀ i, i < 18 → lw_tbl[rIx.getD i 0]? = some (Cond.stringRef RX3 (120 + 2 * i) (sTx i)) := by decide +kernel
theorem start_SS {args : Array Value} {s : State} (b : Nat) (hgv : (Cond.and given_1 narrow_1).before args s = true) (hts : ∀ w ∈ lw_tbl, w.before args s = true) : ∃ ca : Nat → Nat, ca 0 = b ∧ SS ca s.heap.size s := by
  have N := nl_bf hgv
  have T : ∀ {i : Nat} {w : Cond}, lw_tbl[i]? = some w → w.before args s = true := fun h => hts _ (List.mem_of_getElem? h)
  have hA : ∀ a : Nat, a < s.heap.size → ¬ (fun q => s.heap.size ≤ q) a := fun a h q => absurd h (Nat.not_lt.mpr q)
  have h1 : ∀ i, ∃ t : Nat, i < 6 → (sT i).eval args s none [] s = some (.ref t) ∧ va_T .int t (sAr i).length (fun j => .int ((sAr i).getD j 0)) (fun q => s.heap.size ≤ q) s s.heap := by
    intro i
    by_cases hi : i < 6
    · obtain ⟨t, ht, hT⟩ := va_Tof (f := fun j => .int ((sAr i).getD j 0)) (A := fun q => s.heap.size ≤ q) (N := (sAr i).length) ((show ∀ i, i < 6 → (sAr i).length < 2 ^ 31 by decide) i hi) (N _ (nl_at (nl_arr i hi))) (va_eqt (N _ (nl_at (nl_len i hi)))) (fun j hj => va_eqt (N _ (nl_at (nl_el i hi j hj)))) hA
      exact ⟨t, fun _ => ⟨ht, hT⟩⟩
    · exact ⟨0, fun h => absurd h hi⟩
  obtain ⟨ad, had⟩ := Classical.axiomOfChoice h1
  obtain ⟨adK, adV, hS, hK⟩ := vk_Sof (N := 18) (tm := wT) (len := sLn) (byt := sBy) (A := fun q => s.heap.size ≤ q) (by decide) (fun i hi => N _ (nl_at (nl_ex i hi))) (fun i hi => N _ (nl_at (nl_co i hi))) (fun i hi => N _ (nl_at (nl_ar i hi))) (fun i hi => N _ (nl_at (nl_le i hi))) (fun i hi j hj => N _ (nl_at (nl_by i hi j hj))) (fun i j hi hj hij => (Nat.lt_or_gt_of_ne hij).elim (fun q => Or.inl (N _ (nl_at (nl_ne j hj i q)))) (fun q => Or.inr (N _ (nl_at (nl_ne i hi j q))))) hA
  obtain ⟨fv, hf, hr⟩ := Cond.isRef_spec (N _ (nl_at nl_fm))
  obtain ⟨fa, hfa⟩ : ∃ a : Nat, fv = .null ∨ fv = .ref a := by
    cases fv <;> first | exact ⟨_, Or.inr rfl⟩ | exact ⟨0, Or.inl rfl⟩ | exact (nomatch hr)
  refine ⟨fun k => if k = 0 then b else if k < 7 then ad (k - 1) else if k < 40 then adK (k - 10) else if k < 60 then adV (k - 40) else fa, rfl, ?_⟩
  refine ⟨fun i hi => ?_, va_Zof (T tb_cs) (T tb_si) (va_eqt (N _ (nl_at nl_cs))) hA, ?_, fun i hi => ?_, hfa.imp (fun q => va_Zof (T tb_fm) (T tb_pi) (hf.trans (congrArg some q)) hA) (fun q => va_Zof (T tb_fm) (T tb_pi) (hf.trans (congrArg some q)) hA)⟩
  · have e : (if 1 + i = 0 then b else if 1 + i < 7 then ad (1 + i - 1) else if 1 + i < 40 then adK (1 + i - 10) else if 1 + i < 60 then adV (1 + i - 40) else fa) = ad i := by
      rw [if_neg (by omega), if_pos (by omega), Nat.add_sub_cancel_left]
    simp only [e]
    exact ⟨va_Zof (T (tb_ls i hi)) (T tb_in) (had i hi).1 hA, (had i hi).2⟩
  · have e1 : ∀ i, i < 18 → (if 10 + i = 0 then b else if 10 + i < 7 then ad (10 + i - 1) else if 10 + i < 40 then adK (10 + i - 10) else if 10 + i < 60 then adV (10 + i - 40) else fa) = adK i := by
      intro i hi
      rw [if_neg (by omega), if_neg (by omega), if_pos (by omega), Nat.add_sub_cancel_left]
    have e2 : ∀ i, i < 18 → (if 40 + i = 0 then b else if 40 + i < 7 then ad (40 + i - 1) else if 40 + i < 40 then adK (40 + i - 10) else if 40 + i < 60 then adV (40 + i - 40) else fa) = adV i := by
      intro i hi
      rw [if_neg (by omega), if_neg (by omega), if_neg (by omega), if_pos (by omega), Nat.add_sub_cancel_left]
    refine ⟨fun i hi => ?_, fun i j hi hj q => ?_⟩
    · simp only [e1 i hi, e2 i hi]
      exact hS.1 i hi
    · simp only [e1 i hi, e1 j hj] at q
      exact hS.2 i j hi hj q
  · have e1 : (if 10 + i = 0 then b else if 10 + i < 7 then ad (10 + i - 1) else if 10 + i < 40 then adK (10 + i - 10) else if 10 + i < 60 then adV (10 + i - 40) else fa) = adK i := by
      rw [if_neg (by omega), if_neg (by omega), if_pos (by omega), Nat.add_sub_cancel_left]
    simp only [e1]
    exact vk_R.of (T (tb_sr i hi)) (hK i hi)
