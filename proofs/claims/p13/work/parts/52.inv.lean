def IG0 (u : Nat → Nat → Int32) : Prop := Bd 0 2 (u 1 5) ∧ Bd 0 9 (u 5 0) ∧ Bd 0 4 (u 5 2) ∧ Bd 0 9 (u 10 0) ∧ Bd 0 4 (u 10 2) ∧ Bd 0 3 (u 1 7) ∧ Bd 0 12 (u 15 0) ∧ Bd 0 12 (u 19 0) ∧ Bd 0 12 (u 23 0) ∧ AB u 6 (-1) 999 ∧ AB u 11 (-1) 999 ∧ (KM u 15) ∧ (KM u 19) ∧ (KM u 23) ∧ Bd 0 600 (u 1 1) ∧ BF u 2
theorem ig0_c {u u2 : Nat → Nat → Int32} (e : ∀ c, 1 ≤ c ∧ c ≤ 26 → u2 c = u c) (h : IG0 u) : IG0 u2 := by
  obtain ⟨q0, q1, q2, q3, q4, q5, q6, q7, q8, q9, q10, q11, q12, q13, q14, q15⟩ := h
  exact ⟨(bd_r (congrFun (e 1 (by decide)) _) q0), (bd_r (congrFun (e 5 (by decide)) _) q1), (bd_r (congrFun (e 5 (by decide)) _) q2), (bd_r (congrFun (e 10 (by decide)) _) q3), (bd_r (congrFun (e 10 (by decide)) _) q4), (bd_r (congrFun (e 1 (by decide)) _) q5), (bd_r (congrFun (e 15 (by decide)) _) q6), (bd_r (congrFun (e 19 (by decide)) _) q7), (bd_r (congrFun (e 23 (by decide)) _) q8), (ab_c (e 6 (by decide)) q9), (ab_c (e 11 (by decide)) q10), (km_c (e 16 (by decide)) (e 18 (by decide)) q11), (km_c (e 20 (by decide)) (e 22 (by decide)) q12), (km_c (e 24 (by decide)) (e 26 (by decide)) q13), (bd_r (congrFun (e 1 (by decide)) _) q14), (bf_c (e 2 (by decide)) q15)⟩
def IG1 (u : Nat → Nat → Int32) : Prop := Bd 0 600 (u 84 1) ∧ Bd 0 2 (u 84 5) ∧ Bd 0 3 (u 84 7) ∧ BF u 85 ∧ Bd 0 9 (u 88 0) ∧ Bd 0 4 (u 88 2) ∧ Bd 0 9 (u 93 0) ∧ Bd 0 4 (u 93 2) ∧ AB u 89 (-1) 999 ∧ AB u 94 (-1) 999 ∧ Bd 0 12 (u 98 0) ∧ Bd 0 12 (u 102 0) ∧ Bd 0 12 (u 106 0) ∧ (KM u 98) ∧ (KM u 102) ∧ (KM u 106) ∧ Bd 0 600 (u 110 1) ∧ Bd 0 2 (u 110 5) ∧ Bd 0 3 (u 110 7) ∧ BF u 111 ∧ Bd 0 9 (u 114 0) ∧ Bd 0 4 (u 114 2) ∧ Bd 0 9 (u 119 0) ∧ Bd 0 4 (u 119 2) ∧ AB u 115 (-1) 999 ∧ AB u 120 (-1) 999 ∧ Bd 0 12 (u 124 0) ∧ Bd 0 12 (u 128 0) ∧ Bd 0 12 (u 132 0) ∧ (KM u 124) ∧ (KM u 128) ∧ (KM u 132) ∧ Bd 0 600 (u 136 1) ∧ Bd 0 2 (u 136 5) ∧ Bd 0 3 (u 136 7) ∧ BF u 137 ∧ Bd 0 9 (u 140 0) ∧ Bd 0 4 (u 140 2) ∧ Bd 0 9 (u 145 0) ∧ Bd 0 4 (u 145 2) ∧ AB u 141 (-1) 999 ∧ AB u 146 (-1) 999 ∧ Bd 0 12 (u 150 0) ∧ Bd 0 12 (u 154 0) ∧ Bd 0 12 (u 158 0) ∧ (KM u 150) ∧ (KM u 154) ∧ (KM u 158)
theorem ig1_c {u u2 : Nat → Nat → Int32} (e : ∀ c, 84 ≤ c ∧ c ≤ 161 → u2 c = u c) (h : IG1 u) : IG1 u2 := by
  obtain ⟨q0, q1, q2, q3, q4, q5, q6, q7, q8, q9, q10, q11, q12, q13, q14, q15, q16, q17, q18, q19, q20, q21, q22, q23, q24, q25, q26, q27, q28, q29, q30, q31, q32, q33, q34, q35, q36, q37, q38, q39, q40, q41, q42, q43, q44, q45, q46, q47⟩ := h
  exact ⟨(bd_r (congrFun (e 84 (by decide)) _) q0), (bd_r (congrFun (e 84 (by decide)) _) q1), (bd_r (congrFun (e 84 (by decide)) _) q2), (bf_c (e 85 (by decide)) q3), (bd_r (congrFun (e 88 (by decide)) _) q4), (bd_r (congrFun (e 88 (by decide)) _) q5), (bd_r (congrFun (e 93 (by decide)) _) q6), (bd_r (congrFun (e 93 (by decide)) _) q7), (ab_c (e 89 (by decide)) q8), (ab_c (e 94 (by decide)) q9), (bd_r (congrFun (e 98 (by decide)) _) q10), (bd_r (congrFun (e 102 (by decide)) _) q11), (bd_r (congrFun (e 106 (by decide)) _) q12), (km_c (e 99 (by decide)) (e 101 (by decide)) q13), (km_c (e 103 (by decide)) (e 105 (by decide)) q14), (km_c (e 107 (by decide)) (e 109 (by decide)) q15), (bd_r (congrFun (e 110 (by decide)) _) q16), (bd_r (congrFun (e 110 (by decide)) _) q17), (bd_r (congrFun (e 110 (by decide)) _) q18), (bf_c (e 111 (by decide)) q19), (bd_r (congrFun (e 114 (by decide)) _) q20), (bd_r (congrFun (e 114 (by decide)) _) q21), (bd_r (congrFun (e 119 (by decide)) _) q22), (bd_r (congrFun (e 119 (by decide)) _) q23), (ab_c (e 115 (by decide)) q24), (ab_c (e 120 (by decide)) q25), (bd_r (congrFun (e 124 (by decide)) _) q26), (bd_r (congrFun (e 128 (by decide)) _) q27), (bd_r (congrFun (e 132 (by decide)) _) q28), (km_c (e 125 (by decide)) (e 127 (by decide)) q29), (km_c (e 129 (by decide)) (e 131 (by decide)) q30), (km_c (e 133 (by decide)) (e 135 (by decide)) q31), (bd_r (congrFun (e 136 (by decide)) _) q32), (bd_r (congrFun (e 136 (by decide)) _) q33), (bd_r (congrFun (e 136 (by decide)) _) q34), (bf_c (e 137 (by decide)) q35), (bd_r (congrFun (e 140 (by decide)) _) q36), (bd_r (congrFun (e 140 (by decide)) _) q37), (bd_r (congrFun (e 145 (by decide)) _) q38), (bd_r (congrFun (e 145 (by decide)) _) q39), (ab_c (e 141 (by decide)) q40), (ab_c (e 146 (by decide)) q41), (bd_r (congrFun (e 150 (by decide)) _) q42), (bd_r (congrFun (e 154 (by decide)) _) q43), (bd_r (congrFun (e 158 (by decide)) _) q44), (km_c (e 151 (by decide)) (e 153 (by decide)) q45), (km_c (e 155 (by decide)) (e 157 (by decide)) q46), (km_c (e 159 (by decide)) (e 161 (by decide)) q47)⟩
def IG2 (u : Nat → Nat → Int32) : Prop := AB u 33 (-1) 999 ∧ (KM u 37) ∧ Bd 0 9 (u 32 0) ∧ Bd 0 4 (u 32 2) ∧ Bd 0 12 (u 37 0) ∧ AB u 41 0 999
theorem ig2_c {u u2 : Nat → Nat → Int32} (e : ∀ c, 29 ≤ c ∧ c ≤ 42 → u2 c = u c) (h : IG2 u) : IG2 u2 := by
  obtain ⟨q0, q1, q2, q3, q4, q5⟩ := h
  exact ⟨(ab_c (e 33 (by decide)) q0), (km_c (e 38 (by decide)) (e 40 (by decide)) q1), (bd_r (congrFun (e 32 (by decide)) _) q2), (bd_r (congrFun (e 32 (by decide)) _) q3), (bd_r (congrFun (e 37 (by decide)) _) q4), (ab_c (e 41 (by decide)) q5)⟩
def IG3 (u : Nat → Nat → Int32) : Prop := Bd 0 9 (u 44 0) ∧ Bd 0 4 (u 44 2) ∧ Bd 0 12 (u 49 0) ∧ AB u 45 (-1) 999 ∧ (KM u 49) ∧ Bd 0 9 (u 53 0) ∧ Bd 0 511 (u 53 1) ∧ Bd 0 9 (u 61 0) ∧ Bd 0 4 (u 61 2) ∧ AB u 66 0 511 ∧ Bd 0 9 (u 70 0) ∧ Bd 0 4 (u 70 2) ∧ Bd 0 9 (u 79 0) ∧ Bd 0 4 (u 79 2) ∧ Bd 0 4 (u 56 5) ∧ AB u 77 0 3 ∧ AB u 76 0 3
theorem ig3_c {u u2 : Nat → Nat → Int32} (e : ∀ c, 43 ≤ c ∧ c ≤ 83 → u2 c = u c) (h : IG3 u) : IG3 u2 := by
  obtain ⟨q0, q1, q2, q3, q4, q5, q6, q7, q8, q9, q10, q11, q12, q13, q14, q15, q16⟩ := h
  exact ⟨(bd_r (congrFun (e 44 (by decide)) _) q0), (bd_r (congrFun (e 44 (by decide)) _) q1), (bd_r (congrFun (e 49 (by decide)) _) q2), (ab_c (e 45 (by decide)) q3), (km_c (e 50 (by decide)) (e 52 (by decide)) q4), (bd_r (congrFun (e 53 (by decide)) _) q5), (bd_r (congrFun (e 53 (by decide)) _) q6), (bd_r (congrFun (e 61 (by decide)) _) q7), (bd_r (congrFun (e 61 (by decide)) _) q8), (ab_c (e 66 (by decide)) q9), (bd_r (congrFun (e 70 (by decide)) _) q10), (bd_r (congrFun (e 70 (by decide)) _) q11), (bd_r (congrFun (e 79 (by decide)) _) q12), (bd_r (congrFun (e 79 (by decide)) _) q13), (bd_r (congrFun (e 56 (by decide)) _) q14), (ab_c (e 77 (by decide)) q15), (ab_c (e 76 (by decide)) q16)⟩
def IG4 (u : Nat → Nat → Int32) : Prop := (MY u) ∧ AB u 168 (-1) 999 ∧ (HD u) ∧ (HC u) ∧ (PL u) ∧ AB u 164 0 600 ∧ AB u 169 (-1) 999
theorem ig4_c {u u2 : Nat → Nat → Int32} (e : ∀ c, 163 ≤ c ∧ c ≤ 169 → u2 c = u c) (h : IG4 u) : IG4 u2 := by
  obtain ⟨q0, q1, q2, q3, q4, q5, q6⟩ := h
  exact ⟨(my_c (e 167 (by decide)) q0), (ab_c (e 168 (by decide)) q1), (hd_c (e 168 (by decide)) q2), (hc_c (e 167 (by decide)) (e 168 (by decide)) q3), (pl_c (e 169 (by decide)) q4), (ab_c (e 164 (by decide)) q5), (ab_c (e 169 (by decide)) q6)⟩
def IG5 (u : Nat → Nat → Int32) : Prop := AB u 171 (-1) 999 ∧ AB u 170 (-1) 999
theorem ig5_c {u u2 : Nat → Nat → Int32} (e : ∀ c, 170 ≤ c ∧ c ≤ 171 → u2 c = u c) (h : IG5 u) : IG5 u2 := by
  obtain ⟨q0, q1⟩ := h
  exact ⟨(ab_c (e 171 (by decide)) q0), (ab_c (e 170 (by decide)) q1)⟩
def IG6 (u : Nat → Nat → Int32) : Prop := (N0 u) ∧ (DN u) ∧ AB u 177 (-1) 999 ∧ AB u 178 (-1) 999 ∧ AB u 179 0 8
theorem ig6_c {u u2 : Nat → Nat → Int32} (e : ∀ c, 172 ≤ c ∧ c ≤ 181 → u2 c = u c) (h : IG6 u) : IG6 u2 := by
  obtain ⟨q0, q1, q2, q3, q4⟩ := h
  exact ⟨(n0_c (e 172 (by decide)) q0), (dn_c (e 172 (by decide)) q1), (ab_c (e 177 (by decide)) q2), (ab_c (e 178 (by decide)) q3), (ab_c (e 179 (by decide)) q4)⟩
def INV (u : Nat → Nat → Int32) : Prop := IG0 u ∧ IG1 u ∧ IG2 u ∧ IG3 u ∧ IG4 u ∧ IG5 u ∧ IG6 u ∧ Bd 0 9 (u 162 22) ∧ Bd 0 511 (u 162 31) ∧ Bd 0 999 (u 162 12) ∧ Bd 0 999 (u 162 17)
theorem inv_0 : INV u0 := by
  have z : ∀ a j : Nat, ¬ (a = 1 ∨ a = 84 ∨ a = 110 ∨ a = 136) → a ≠ 29 → a ≠ 56 → a ≠ 166 → u0 a j = 0 := by
    intro a j h1 h2 h3 h4
    unfold u0
    rw [if_neg h1, if_neg h2, if_neg h3, if_neg h4]
  exact ⟨⟨(by decide), (by decide), (by decide), (by decide), (by decide), (by decide), (by decide), (by decide), (by decide), (fun j => bd_r (z 6 j (by decide) (by decide) (by decide) (by decide)) (by decide)), (fun j => bd_r (z 11 j (by decide) (by decide) (by decide) (by decide)) (by decide)), (fun j => Or.inr (bd_r (z 18 j (by decide) (by decide) (by decide) (by decide)) (by decide))), (fun j => Or.inr (bd_r (z 22 j (by decide) (by decide) (by decide) (by decide)) (by decide))), (fun j => Or.inr (bd_r (z 26 j (by decide) (by decide) (by decide) (by decide)) (by decide))), (by decide), (fun j => by rw [(z 2 j (by decide) (by decide) (by decide) (by decide))]; rfl)⟩, ⟨(by decide), (by decide), (by decide), (fun j => by rw [(z 85 j (by decide) (by decide) (by decide) (by decide))]; rfl), (by decide), (by decide), (by decide), (by decide), (fun j => bd_r (z 89 j (by decide) (by decide) (by decide) (by decide)) (by decide)), (fun j => bd_r (z 94 j (by decide) (by decide) (by decide) (by decide)) (by decide)), (by decide), (by decide), (by decide), (fun j => Or.inr (bd_r (z 101 j (by decide) (by decide) (by decide) (by decide)) (by decide))), (fun j => Or.inr (bd_r (z 105 j (by decide) (by decide) (by decide) (by decide)) (by decide))), (fun j => Or.inr (bd_r (z 109 j (by decide) (by decide) (by decide) (by decide)) (by decide))), (by decide), (by decide), (by decide), (fun j => by rw [(z 111 j (by decide) (by decide) (by decide) (by decide))]; rfl), (by decide), (by decide), (by decide), (by decide), (fun j => bd_r (z 115 j (by decide) (by decide) (by decide) (by decide)) (by decide)), (fun j => bd_r (z 120 j (by decide) (by decide) (by decide) (by decide)) (by decide)), (by decide), (by decide), (by decide), (fun j => Or.inr (bd_r (z 127 j (by decide) (by decide) (by decide) (by decide)) (by decide))), (fun j => Or.inr (bd_r (z 131 j (by decide) (by decide) (by decide) (by decide)) (by decide))), (fun j => Or.inr (bd_r (z 135 j (by decide) (by decide) (by decide) (by decide)) (by decide))), (by decide), (by decide), (by decide), (fun j => by rw [(z 137 j (by decide) (by decide) (by decide) (by decide))]; rfl), (by decide), (by decide), (by decide), (by decide), (fun j => bd_r (z 141 j (by decide) (by decide) (by decide) (by decide)) (by decide)), (fun j => bd_r (z 146 j (by decide) (by decide) (by decide) (by decide)) (by decide)), (by decide), (by decide), (by decide), (fun j => Or.inr (bd_r (z 153 j (by decide) (by decide) (by decide) (by decide)) (by decide))), (fun j => Or.inr (bd_r (z 157 j (by decide) (by decide) (by decide) (by decide)) (by decide))), (fun j => Or.inr (bd_r (z 161 j (by decide) (by decide) (by decide) (by decide)) (by decide)))⟩, ⟨(fun j => bd_r (z 33 j (by decide) (by decide) (by decide) (by decide)) (by decide)), (fun j => Or.inr (bd_r (z 40 j (by decide) (by decide) (by decide) (by decide)) (by decide))), (by decide), (by decide), (by decide), (fun j => bd_r (z 41 j (by decide) (by decide) (by decide) (by decide)) (by decide))⟩, ⟨(by decide), (by decide), (by decide), (fun j => bd_r (z 45 j (by decide) (by decide) (by decide) (by decide)) (by decide)), (fun j => Or.inr (bd_r (z 52 j (by decide) (by decide) (by decide) (by decide)) (by decide))), (by decide), (by decide), (by decide), (by decide), (fun j => bd_r (z 66 j (by decide) (by decide) (by decide) (by decide)) (by decide)), (by decide), (by decide), (by decide), (by decide), (by decide), (fun j => bd_r (z 77 j (by decide) (by decide) (by decide) (by decide)) (by decide)), (fun j => bd_r (z 76 j (by decide) (by decide) (by decide) (by decide)) (by decide))⟩, ⟨(fun j hj => ⟨bd_r (z 167 _ (by decide) (by decide) (by decide) (by decide)) (by decide), bd_r (z 167 _ (by decide) (by decide) (by decide) (by decide)) (by decide)⟩), (fun j => bd_r (z 168 j (by decide) (by decide) (by decide) (by decide)) (by decide)), (fun s hs => ⟨bd_r (z 168 _ (by decide) (by decide) (by decide) (by decide)) (by decide), fun p hp => ⟨bd_r (z 168 _ (by decide) (by decide) (by decide) (by decide)) (by decide), bd_r (z 168 _ (by decide) (by decide) (by decide) (by decide)) (by decide)⟩, bd_r (z 168 _ (by decide) (by decide) (by decide) (by decide)) (by decide)⟩), (fun j hj i hi hl => by rw [(z 167 _ (by decide) (by decide) (by decide) (by decide))] at hl; exact absurd hl (by have : (0 : Int32).toInt = 0 := rfl; omega)), (fun s hs => ⟨bd_r (z 169 _ (by decide) (by decide) (by decide) (by decide)) (by decide), fun i hi => ⟨Or.inr (bd_r (z 169 _ (by decide) (by decide) (by decide) (by decide)) (by decide)), bd_r (z 169 _ (by decide) (by decide) (by decide) (by decide)) (by decide)⟩⟩), (fun j => bd_r (z 164 j (by decide) (by decide) (by decide) (by decide)) (by decide)), (fun j => bd_r (z 169 j (by decide) (by decide) (by decide) (by decide)) (by decide))⟩, ⟨(fun j => bd_r (z 171 j (by decide) (by decide) (by decide) (by decide)) (by decide)), (fun j => bd_r (z 170 j (by decide) (by decide) (by decide) (by decide)) (by decide))⟩, ⟨(fun j hj => bd_r (z 172 _ (by decide) (by decide) (by decide) (by decide)) (by decide)), (fun p hp => ⟨bd_r (z 172 _ (by decide) (by decide) (by decide) (by decide)) (by decide), bd_r (z 172 _ (by decide) (by decide) (by decide) (by decide)) (by decide)⟩), (fun j => bd_r (z 177 j (by decide) (by decide) (by decide) (by decide)) (by decide)), (fun j => bd_r (z 178 j (by decide) (by decide) (by decide) (by decide)) (by decide)), (fun j => bd_r (z 179 j (by decide) (by decide) (by decide) (by decide)) (by decide))⟩, (by decide), (by decide), (by decide), (by decide)⟩
def INX (u : Nat → Nat → Int32) : Prop := INV u ∧ RLY u u
theorem rlx_0 : RLX u0 u0 := ⟨⟨fun j _ => rfl, rfl, rfl, rfl, rfl, rfl, fun k _ hl => absurd hl (Nat.not_lt_zero k), fun k _ hl => absurd hl (Nat.not_lt_zero k)⟩, rfl, fun k _ hn => absurd rfl hn⟩
theorem rly_0 : RLY u0 u0 := ⟨rlx_0, fun s _ h _ hl => absurd (show h < 0 from hl) (Nat.not_lt_zero h), rfl⟩
theorem inx_0 : INX u0 := ⟨inv_0, rly_0⟩
def LI (i : Int32) (L : Nat) : Prop := 0 ≤ i.toInt ∧ i.toInt + 8 ≤ L ∧ L ≤ 4096
theorem li_in {i c : Int32} {L : Nat} (h : LI i L) (hc : 0 ≤ c.toInt ∧ c.toInt ≤ 7) : vp_in (i + c) L := by
  obtain ⟨h1, h2, h3⟩ := h
  have e : (i + c).toInt = i.toInt + c.toInt := ti_add (by omega) (by omega)
  have e0 : (0 : Int32).toInt = 0 := rfl
  intro q
  rcases q with q | q
  · have := Int32.lt_iff_toInt_lt.mp q
    omega
  · have h4 : (i + c).toNatClampNeg = (i + c).toInt.toNat := rfl
    omega
theorem li_0 {i : Int32} {L : Nat} (h : LI i L) : vp_in i L := by
  obtain ⟨h1, h2, h3⟩ := h
  have e0 : (0 : Int32).toInt = 0 := rfl
  intro q
  rcases q with q | q
  · have := Int32.lt_iff_toInt_lt.mp q
    omega
  · have h4 : i.toNatClampNeg = i.toInt.toNat := rfl
    omega
theorem wlk {k : Nat} {u : Nat → Nat → Int32} {g : Nat → Nat → Int64} {ex : List MC} (h : k = 182 + ex.length) : k + 0 = (Wd u g ex).length := by rw [Wd_len, h]; rfl
theorem lk1 {k n : Nat} (h : k + 1 ≤ 600000 ∧ n + 1 ≤ 7302250) : k + 0 ≤ 600000 := by omega
theorem ln1 {k n : Nat} (h : k + 1 ≤ 600000 ∧ n + 1 ≤ 7302250) : n + 0 ≤ 7302250 := by omega
theorem rne {c a lo hi : Nat} (h : lo ≤ c ∧ c ≤ hi) (r : a < lo ∨ hi < a) : c ≠ a := by omega
theorem fit_X {p : Program} {l : Launch} {e : Env} {R : Room} {s : State} {m : MethodId} {args : Array Value} {below : List Frame} {meth : Method} {c : Code} {T : State} {locs : List Loc} {k k1 n : Nat} (X : Stand p l e R s m args below meth c T locs k n) (h : T.heap.size ≤ s.heap.size + k1) : Stand p l e R s m args below meth c T locs k1 n :=
  { X with same := ⟨X.same.1, X.same.2.1, h, X.same.2.2.2⟩ }
theorem J_callVx {x : JX} {y : MethodName} {cc : ByteArray} {nL : Nat} {rt : Option FieldType} {d M N L0 : Nat} {pc : Nat} {lv : List (Nat × Value)} {st : List Value} {h : List MC} {k n : Nat} {con0 : JK} {d1 M1 N1 nL1 ix : Nat} {y1 : MethodName} {cc1 : ByteArray} {rt1 : Option FieldType} {Post1 : Option Value → List MC → Prop} {As rest : List Value} {a ci : Nat} {fs : List Value} {q : vw_C} (hd : decode cc pc = .ok (.invokevirtual ix, 3)) (hM : CT con0 d1 M1 N1 y1 cc1 nL1 rt1 (.ref a :: As) h Post1) (hN : JN x con0) (hi1 : Cond.methodLink y.cls ix y1 ∈ gt) (hi2 : Cond.instanceMethod y1 ∈ gt) (hi3 : Cond.selects y1.cls y1 y1 ∈ gt) (ha : h[a]? = some (.inr (ci, fs))) (hc : vwCl[ci]? = some q) (hq : q.1 = y1.cls) (hi4 : Cond.initialized y1.cls ∈ gt) (hi5 : Cond.code y1 cc1 nL1 rt1 ∈ gt) (hdn : y1.cls ≠ "java/lang/invoke/MethodHandle" ∧ y1.cls ≠ "java/lang/invoke/VarHandle" ∧ (parseMethodDescriptor y1.desc).map (fun d => d.parameters.length) = some As.length) (hdd : d1 + 1 ≤ d) (hmx : nL1 ≤ 19) (hMM : k + M1 ≤ M) (hNN : n + N1 ≤ N) (hk : k + L0 = h.length) (hst : st = As.reverse ++ .ref a :: rest) (hw : (rest.map fun v => v.category).sum ≤ 8) (K : ∀ (r : Option Value) (h1 : List MC), Post1 r h1 → ∀ k1, k1 + L0 = h1.length → k1 ≤ k + M1 → J x y cc nL rt d M N L0 (pc + 3) lv (r.toList ++ rest) h1 k1 (n + N1)) : J x y cc nL rt d M N L0 pc lv st h k n := by
  obtain ⟨p, l, e, R, s, m, args, below, meth, c, b, ca, cA, D, con, Q⟩ := x
  intro O H locs ls hl hP hS
  have hx := O.1
  have hb := O.2.1
  have hts := O.2.2.2.2.1
  have hown := O.2.2.2.1
  have hK : va_K D vwCl (tz cA) s := O.2.2.2.2.2.2.2.2.1
  intro T hT X
  have hz := J_size X hT O.2.2.2.2.2.2.2.2.2.1 hk hP hS
  have hMet := hM l b ca cA D con hN
  have hG : GoodIn gt (Cond.code y1 cc1 nL1 rt1 :: gt) := fun w hw => (List.mem_cons.mp hw).elim (fun q => by rw [q]; exact gt_gt _ hi5) (gt_gt w)
  have hR : (RM d1 M1 N1).frames + 1 ≤ R.frames ∧ 8 + (nL1 + 11) + (RM d1 M1 N1).locals ≤ R.locals := by
    have h1 := O.2.2.2.2.2.2.2.2.2.2.1
    have h2 := O.2.2.2.2.2.2.2.2.2.2.2.1
    show d1 + 1 ≤ R.frames ∧ 8 + (nL1 + 11) + 38 * d1 ≤ R.locals
    omega
  have hB := callB_of (R := R) (mc := M1) (ms := N1) As.length hts hG rfl rfl rfl (hts _ hi4) (hts _ hi1) hdn hR
  have hpc : ∀ U : State, U.heap = H → s.WarmedH U.vm → PC b ca cA D con (.ref a :: As) h (((.ref a :: As)).map (rv b ca)).toArray U := fun U hU hW => ⟨rfl, by rw [hU]; exact hz, by rw [hU]; exact hP, va_K.moved hW.alike hK, CN.moved O.2.2.2.2.2.2.2.2.2.2.2.2.2.2.1 hW.alike hU hS, NW.warm hW hU hS O.2.2.2.2.2.2.2.2.2.2.2.2.2.2.2⟩
  have hcs : k + M1 ≤ R.cells ∧ n + N1 ≤ R.slots := ⟨Nat.le_trans hMM O.2.2.2.2.2.2.2.2.2.2.2.2.1, Nat.le_trans hNN O.2.2.2.2.2.2.2.2.2.2.2.2.2.1⟩
  subst hst
  have hsk : (As.reverse ++ .ref a :: rest).map (rv b ca) = (As.map (rv b ca)).reverse ++ .ref (b + a) :: rest.map (rv b ca) := by simp [rv]
  have hrm : 2 * (F0 m pc ls ((As.reverse ++ .ref a :: rest).map (rv b ca))).monitorRoom + ((rest.map (rv b ca)).map fun v => v.category).sum ≤ 8 := lv_room (by rw [rv_sum]; exact hw)
  have hrc := va_recv hK hP hc (wz_get ha)
  rw [hq] at hrc
  obtain ⟨v, st₀, t, T1, L, h0, X1, hL, e1, e2, ⟨⟨r, h1, hv, hp, hz1, hP1, hK1⟩, hF⟩, go⟩ := va_runV (Ts := gt) (As := As.map (rv b ca)) (rest := rest.map (rv b ca)) (g := F0 m pc ls ((As.reverse ++ .ref a :: rest).map (rv b ca))) ⟨hx, hb, O.2.2.1, hown, hts⟩ hMet ⟨hB, hts _ hi2, hts _ hi3⟩ ⟨PC_blind _ _ _ _ _ _ _, hrc, hpc⟩ rfl (by rw [List.length_map]) hl.1 hsk hrm hd hcs T hT X
  cases hv
  have hS1 : va_S (fun q => b ≤ q) s.heap T1.heap (locs ++ L) := by
    have hF1 : H.size ≤ t.heap.size := by rw [← h0]; exact hF.1
    refine ⟨Nat.le_trans hS.1 (by rw [e1]; exact hF1), fun q h1 h2 => ?_, fun q hq => ?_⟩
    · rw [e1, hF.2 q (by rw [h0]; exact Nat.lt_of_lt_of_le h1 hS.1) h2, h0]
      exact hS.2.1 q h1 h2
    · rcases List.mem_append.mp hq with h | h
      · exact hS.2.2 q h
      · exact hL q h
  have hs0 : s.heap.size = b + L0 := O.2.2.2.2.2.2.2.2.2.1
  have hs1 : T1.heap.size = b + h1.length := by rw [e1]; exact hz1
  have hs2 := X1.heapSize
  have hs3 : L0 ≤ h1.length := by have := hS1.1; omega
  have kk := K r h1 hp (h1.length - L0) (by omega) (by omega) O T1.heap (locs ++ L) ls hl (by rw [e1]; exact hP1) hS1 T1 rfl (fit_X X1 (by omega))
  obtain ⟨t2, a1, b1⟩ := kk
  refine ⟨t2, go t2 ?_, b1⟩
  cases r <;> exact a1
theorem lx1 {k n k1 : Nat} (h : k + 1 ≤ 600000 ∧ n + 1 ≤ 7302250) (q : k1 ≤ k + 1) : k1 + 0 ≤ 600000 := by omega
theorem lx2 {k n : Nat} (h : k + 1 ≤ 600000 ∧ n + 1 ≤ 7302250) : n + 1 + 0 ≤ 7302250 := by omega
