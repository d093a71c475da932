/-! storms asked for: storm, runs, safe, spared, brings -/
theorem ldf_c {x y x1 y1 : MM} {n m : Nat} (L : LDF x y n m) (hx : ∀ c, 43 ≤ c → c ≤ 48 → x1 c = x c) (hy : y1 172 = y 172) (hj : ∀ j, 22 ≤ j → j ≤ 27 → y1 162 j = y 162 j) : LDF x1 y1 n m := by
  obtain ⟨n9, m1, m4, ha, ma, aw, x2, y1', hr, hd, h3, k26, k27, s, hf⟩ := L
  have er : rwA y1 = rwA y := by
    funext p c
    unfold rwA
    rw [hy]
  refine ⟨n9, m1, m4, ?_, ?_, ?_, ?_, ?_, fun i hi => ?_, fun i hi => ?_, ?_, ?_, ?_, ?_, ?_⟩
  · rw [er]; exact ha_c ha (hx 44 (by decide) (by decide)) (hx 45 (by decide) (by decide))
  · rw [er]; exact ma_c ma (hj 22 (by decide) (by decide)) hy
  · rw [er]; exact aw
  · rw [hx 44 (by decide) (by decide)]; exact x2
  · rw [hy]; exact y1'
  · rw [hx 46 (by decide) (by decide), hx 47 (by decide) (by decide), hy]; exact hr i hi
  · rw [hx 48 (by decide) (by decide), hy]; exact hd i hi
  · rw [hy]; exact h3
  · rw [hj 26 (by decide) (by decide)]; exact k26
  · rw [hj 27 (by decide) (by decide)]; exact k27
  · unfold SIT GRW at s ⊢
    rw [hx 43 (by decide) (by decide), hx 44 (by decide) (by decide), hx 45 (by decide) (by decide), hx 46 (by decide) (by decide), hx 47 (by decide) (by decide), hx 48 (by decide) (by decide), hy, hj 22 (by decide) (by decide), hj 23 (by decide) (by decide), hj 24 (by decide) (by decide), hj 25 (by decide) (by decide), hj 26 (by decide) (by decide), hj 27 (by decide) (by decide)]
    exact s
  · rw [hy]; exact hf
theorem heard_e {s : Int32} {q : Nat} : ((s >>> (iN q &&& 31)) &&& 1) = if inB s q = true then 1 else 0 := by
  unfold inB
  by_cases h : ((s >>> (iN q &&& 31)) &&& 1) = 1
  · rw [decide_eq_true h, if_pos rfl]; exact h
  · rw [decide_eq_false h, if_neg (by decide)]
    exact Int32.toInt_inj.mp (bit01 h)
