/-! the class's copies of what is told -/
theorem i01 : (0 : Int32) + 1 = 1 := by decide
theorem i12 : (1 : Int32) + 1 = 2 := by decide
theorem i23 : (2 : Int32) + 1 = 3 := by decide
theorem te2 : (2 - (0 : Int32).toInt).toNat + 1 = 3 := by decide
theorem te3 : (3 - (0 : Int32).toInt).toNat + 1 = 4 := by decide
theorem xqb {α β : Type} {x : α} {K : α → β} : xq_lt x K = K x := rfl
theorem tcY_84_1 {u : MM} : ms (ms (ms (ms (ms (mr u 85 (va_cpy (u 2) (u 85) 0 0 600)) 84 1 (u 1 1)) 84 2 (u 1 2)) 84 3 (u 1 3)) 84 5 (u 1 5)) 84 7 (u 1 7) = tc0 u 84 1 := by
  unfold tc0
  rfl
theorem tcX_84_1 {u : MM} {g : GG} : Fx_T_copyR_84_1X u g = tcx u g 84 1 := by
  have w0 : ∀ w : MM, Fx_W_copyK_98_15X w g = wcx w 98 15 := by
    intro w
    unfold Fx_W_copyK_98_15X wcx
    rfl
  have w1 : ∀ w : MM, Fx_W_copyK_102_19X w g = wcx w 102 19 := by
    intro w
    unfold Fx_W_copyK_102_19X wcx
    rfl
  have w2 : ∀ w : MM, Fx_W_copyK_106_23X w g = wcx w 106 23 := by
    intro w
    unfold Fx_W_copyK_106_23X wcx
    rfl
  have s0 : ∀ w : MM, Fx_T_copyR_84_1X_L86 g 4 0 w = wcx (wcx (wcx w 98 15) 102 19) 106 23 := by
    intro w
    rw [Fx_T_copyR_84_1X_L86_s, if_neg (by decide), if_pos rfl, xqb, i01, w0]
    rw [Fx_T_copyR_84_1X_L86_s, if_neg (by decide), if_neg (by decide), if_pos rfl, xqb, i12, w1]
    rw [Fx_T_copyR_84_1X_L86_s, if_neg (by decide), if_neg (by decide), if_neg (by decide), xqb, i23, w2]
    rw [Fx_T_copyR_84_1X_L86_s, if_pos (by decide)]
  have r0 : ∀ w : MM, Fx_T_copyR_84_1X_L58 g 3 0 w = Fx_T_copyR_84_1X_L86 g 4 0 (Fx_H_copyBX 93 10 (Fx_H_copyBX 88 5 w g) g) := by
    intro w
    rw [Fx_T_copyR_84_1X_L58_s, if_neg (by decide), if_pos rfl, xqb, i01]
    rw [Fx_T_copyR_84_1X_L58_s, if_neg (by decide), if_neg (by decide), xqb, i12]
    rw [Fx_T_copyR_84_1X_L58_s, if_pos (by decide), te3]
  unfold Fx_T_copyR_84_1X
  rw [te2, xqb, xqb, xqb, xqb, xqb, xqb, r0, s0, tcY_84_1]
  rfl
theorem tcY_110_1 {u : MM} : ms (ms (ms (ms (ms (mr u 111 (va_cpy (u 2) (u 111) 0 0 600)) 110 1 (u 1 1)) 110 2 (u 1 2)) 110 3 (u 1 3)) 110 5 (u 1 5)) 110 7 (u 1 7) = tc0 u 110 1 := by
  unfold tc0
  rfl
theorem tcX_110_1 {u : MM} {g : GG} : Fx_T_copyR_110_1X u g = tcx u g 110 1 := by
  have w0 : ∀ w : MM, Fx_W_copyK_124_15X w g = wcx w 124 15 := by
    intro w
    unfold Fx_W_copyK_124_15X wcx
    rfl
  have w1 : ∀ w : MM, Fx_W_copyK_128_19X w g = wcx w 128 19 := by
    intro w
    unfold Fx_W_copyK_128_19X wcx
    rfl
  have w2 : ∀ w : MM, Fx_W_copyK_132_23X w g = wcx w 132 23 := by
    intro w
    unfold Fx_W_copyK_132_23X wcx
    rfl
  have s0 : ∀ w : MM, Fx_T_copyR_110_1X_L86 g 4 0 w = wcx (wcx (wcx w 124 15) 128 19) 132 23 := by
    intro w
    rw [Fx_T_copyR_110_1X_L86_s, if_neg (by decide), if_pos rfl, xqb, i01, w0]
    rw [Fx_T_copyR_110_1X_L86_s, if_neg (by decide), if_neg (by decide), if_pos rfl, xqb, i12, w1]
    rw [Fx_T_copyR_110_1X_L86_s, if_neg (by decide), if_neg (by decide), if_neg (by decide), xqb, i23, w2]
    rw [Fx_T_copyR_110_1X_L86_s, if_pos (by decide)]
  have r0 : ∀ w : MM, Fx_T_copyR_110_1X_L58 g 3 0 w = Fx_T_copyR_110_1X_L86 g 4 0 (Fx_H_copyBX 119 10 (Fx_H_copyBX 114 5 w g) g) := by
    intro w
    rw [Fx_T_copyR_110_1X_L58_s, if_neg (by decide), if_pos rfl, xqb, i01]
    rw [Fx_T_copyR_110_1X_L58_s, if_neg (by decide), if_neg (by decide), xqb, i12]
    rw [Fx_T_copyR_110_1X_L58_s, if_pos (by decide), te3]
  unfold Fx_T_copyR_110_1X
  rw [te2, xqb, xqb, xqb, xqb, xqb, xqb, r0, s0, tcY_110_1]
  rfl
theorem tcY_136_1 {u : MM} : ms (ms (ms (ms (ms (mr u 137 (va_cpy (u 2) (u 137) 0 0 600)) 136 1 (u 1 1)) 136 2 (u 1 2)) 136 3 (u 1 3)) 136 5 (u 1 5)) 136 7 (u 1 7) = tc0 u 136 1 := by
  unfold tc0
  rfl
theorem tcX_136_1 {u : MM} {g : GG} : Fx_T_copyR_136_1X u g = tcx u g 136 1 := by
  have w0 : ∀ w : MM, Fx_W_copyK_150_15X w g = wcx w 150 15 := by
    intro w
    unfold Fx_W_copyK_150_15X wcx
    rfl
  have w1 : ∀ w : MM, Fx_W_copyK_154_19X w g = wcx w 154 19 := by
    intro w
    unfold Fx_W_copyK_154_19X wcx
    rfl
  have w2 : ∀ w : MM, Fx_W_copyK_158_23X w g = wcx w 158 23 := by
    intro w
    unfold Fx_W_copyK_158_23X wcx
    rfl
  have s0 : ∀ w : MM, Fx_T_copyR_136_1X_L86 g 4 0 w = wcx (wcx (wcx w 150 15) 154 19) 158 23 := by
    intro w
    rw [Fx_T_copyR_136_1X_L86_s, if_neg (by decide), if_pos rfl, xqb, i01, w0]
    rw [Fx_T_copyR_136_1X_L86_s, if_neg (by decide), if_neg (by decide), if_pos rfl, xqb, i12, w1]
    rw [Fx_T_copyR_136_1X_L86_s, if_neg (by decide), if_neg (by decide), if_neg (by decide), xqb, i23, w2]
    rw [Fx_T_copyR_136_1X_L86_s, if_pos (by decide)]
  have r0 : ∀ w : MM, Fx_T_copyR_136_1X_L58 g 3 0 w = Fx_T_copyR_136_1X_L86 g 4 0 (Fx_H_copyBX 145 10 (Fx_H_copyBX 140 5 w g) g) := by
    intro w
    rw [Fx_T_copyR_136_1X_L58_s, if_neg (by decide), if_pos rfl, xqb, i01]
    rw [Fx_T_copyR_136_1X_L58_s, if_neg (by decide), if_neg (by decide), xqb, i12]
    rw [Fx_T_copyR_136_1X_L58_s, if_pos (by decide), te3]
  unfold Fx_T_copyR_136_1X
  rw [te2, xqb, xqb, xqb, xqb, xqb, xqb, r0, s0, tcY_136_1]
  rfl
theorem tcY_1_84 {u : MM} : ms (ms (ms (ms (ms (mr u 2 (va_cpy (u 85) (u 2) 0 0 600)) 1 1 (u 84 1)) 1 2 (u 84 2)) 1 3 (u 84 3)) 1 5 (u 84 5)) 1 7 (u 84 7) = tc0 u 1 84 := by
  unfold tc0
  rfl
theorem tcX_1_84 {u : MM} {g : GG} : Fx_T_copyR_1_84X u g = tcx u g 1 84 := by
  have w0 : ∀ w : MM, Fx_W_copyK_15_98X w g = wcx w 15 98 := by
    intro w
    unfold Fx_W_copyK_15_98X wcx
    rfl
  have w1 : ∀ w : MM, Fx_W_copyK_19_102X w g = wcx w 19 102 := by
    intro w
    unfold Fx_W_copyK_19_102X wcx
    rfl
  have w2 : ∀ w : MM, Fx_W_copyK_23_106X w g = wcx w 23 106 := by
    intro w
    unfold Fx_W_copyK_23_106X wcx
    rfl
  have s0 : ∀ w : MM, Fx_T_copyR_1_84X_L86 g 4 0 w = wcx (wcx (wcx w 15 98) 19 102) 23 106 := by
    intro w
    rw [Fx_T_copyR_1_84X_L86_s, if_neg (by decide), if_pos rfl, xqb, i01, w0]
    rw [Fx_T_copyR_1_84X_L86_s, if_neg (by decide), if_neg (by decide), if_pos rfl, xqb, i12, w1]
    rw [Fx_T_copyR_1_84X_L86_s, if_neg (by decide), if_neg (by decide), if_neg (by decide), xqb, i23, w2]
    rw [Fx_T_copyR_1_84X_L86_s, if_pos (by decide)]
  have r0 : ∀ w : MM, Fx_T_copyR_1_84X_L58 g 3 0 w = Fx_T_copyR_1_84X_L86 g 4 0 (Fx_H_copyBX 10 93 (Fx_H_copyBX 5 88 w g) g) := by
    intro w
    rw [Fx_T_copyR_1_84X_L58_s, if_neg (by decide), if_pos rfl, xqb, i01]
    rw [Fx_T_copyR_1_84X_L58_s, if_neg (by decide), if_neg (by decide), xqb, i12]
    rw [Fx_T_copyR_1_84X_L58_s, if_pos (by decide), te3]
  unfold Fx_T_copyR_1_84X
  rw [te2, xqb, xqb, xqb, xqb, xqb, xqb, r0, s0, tcY_1_84]
  rfl
theorem tcY_1_110 {u : MM} : ms (ms (ms (ms (ms (mr u 2 (va_cpy (u 111) (u 2) 0 0 600)) 1 1 (u 110 1)) 1 2 (u 110 2)) 1 3 (u 110 3)) 1 5 (u 110 5)) 1 7 (u 110 7) = tc0 u 1 110 := by
  unfold tc0
  rfl
theorem tcX_1_110 {u : MM} {g : GG} : Fx_T_copyR_1_110X u g = tcx u g 1 110 := by
  have w0 : ∀ w : MM, Fx_W_copyK_15_124X w g = wcx w 15 124 := by
    intro w
    unfold Fx_W_copyK_15_124X wcx
    rfl
  have w1 : ∀ w : MM, Fx_W_copyK_19_128X w g = wcx w 19 128 := by
    intro w
    unfold Fx_W_copyK_19_128X wcx
    rfl
  have w2 : ∀ w : MM, Fx_W_copyK_23_132X w g = wcx w 23 132 := by
    intro w
    unfold Fx_W_copyK_23_132X wcx
    rfl
  have s0 : ∀ w : MM, Fx_T_copyR_1_110X_L86 g 4 0 w = wcx (wcx (wcx w 15 124) 19 128) 23 132 := by
    intro w
    rw [Fx_T_copyR_1_110X_L86_s, if_neg (by decide), if_pos rfl, xqb, i01, w0]
    rw [Fx_T_copyR_1_110X_L86_s, if_neg (by decide), if_neg (by decide), if_pos rfl, xqb, i12, w1]
    rw [Fx_T_copyR_1_110X_L86_s, if_neg (by decide), if_neg (by decide), if_neg (by decide), xqb, i23, w2]
    rw [Fx_T_copyR_1_110X_L86_s, if_pos (by decide)]
  have r0 : ∀ w : MM, Fx_T_copyR_1_110X_L58 g 3 0 w = Fx_T_copyR_1_110X_L86 g 4 0 (Fx_H_copyBX 10 119 (Fx_H_copyBX 5 114 w g) g) := by
    intro w
    rw [Fx_T_copyR_1_110X_L58_s, if_neg (by decide), if_pos rfl, xqb, i01]
    rw [Fx_T_copyR_1_110X_L58_s, if_neg (by decide), if_neg (by decide), xqb, i12]
    rw [Fx_T_copyR_1_110X_L58_s, if_pos (by decide), te3]
  unfold Fx_T_copyR_1_110X
  rw [te2, xqb, xqb, xqb, xqb, xqb, xqb, r0, s0, tcY_1_110]
  rfl
theorem tcY_1_136 {u : MM} : ms (ms (ms (ms (ms (mr u 2 (va_cpy (u 137) (u 2) 0 0 600)) 1 1 (u 136 1)) 1 2 (u 136 2)) 1 3 (u 136 3)) 1 5 (u 136 5)) 1 7 (u 136 7) = tc0 u 1 136 := by
  unfold tc0
  rfl
theorem tcX_1_136 {u : MM} {g : GG} : Fx_T_copyR_1_136X u g = tcx u g 1 136 := by
  have w0 : ∀ w : MM, Fx_W_copyK_15_150X w g = wcx w 15 150 := by
    intro w
    unfold Fx_W_copyK_15_150X wcx
    rfl
  have w1 : ∀ w : MM, Fx_W_copyK_19_154X w g = wcx w 19 154 := by
    intro w
    unfold Fx_W_copyK_19_154X wcx
    rfl
  have w2 : ∀ w : MM, Fx_W_copyK_23_158X w g = wcx w 23 158 := by
    intro w
    unfold Fx_W_copyK_23_158X wcx
    rfl
  have s0 : ∀ w : MM, Fx_T_copyR_1_136X_L86 g 4 0 w = wcx (wcx (wcx w 15 150) 19 154) 23 158 := by
    intro w
    rw [Fx_T_copyR_1_136X_L86_s, if_neg (by decide), if_pos rfl, xqb, i01, w0]
    rw [Fx_T_copyR_1_136X_L86_s, if_neg (by decide), if_neg (by decide), if_pos rfl, xqb, i12, w1]
    rw [Fx_T_copyR_1_136X_L86_s, if_neg (by decide), if_neg (by decide), if_neg (by decide), xqb, i23, w2]
    rw [Fx_T_copyR_1_136X_L86_s, if_pos (by decide)]
  have r0 : ∀ w : MM, Fx_T_copyR_1_136X_L58 g 3 0 w = Fx_T_copyR_1_136X_L86 g 4 0 (Fx_H_copyBX 10 145 (Fx_H_copyBX 5 140 w g) g) := by
    intro w
    rw [Fx_T_copyR_1_136X_L58_s, if_neg (by decide), if_pos rfl, xqb, i01]
    rw [Fx_T_copyR_1_136X_L58_s, if_neg (by decide), if_neg (by decide), xqb, i12]
    rw [Fx_T_copyR_1_136X_L58_s, if_pos (by decide), te3]
  unfold Fx_T_copyR_1_136X
  rw [te2, xqb, xqb, xqb, xqb, xqb, xqb, r0, s0, tcY_1_136]
  rfl
