/-! what a text tells hangs on its bytes alone -/
section
variable {f f2 : Nat → Int32} {L : Nat}
theorem cg_run {p : Int32 → Bool} (h : ∀ j, j < L → f j = f2 j) (a : Nat) : run p f L a = run p f2 L a :=
  run_ind (p := p) (f := f) (L := L) (P := fun a => run p f L a = run p f2 L a) (fun a n => by
    rw [run_e n, run_e (fun m => n ⟨m.1, by rw [h a m.1]; exact m.2⟩)]) (fun a h1 h2 ih => by rw [run_s h1 h2, run_s (f := f2) h1 (by rw [← h a h1]; exact h2)]; exact ih) _ a (Nat.le_refl _)
theorem cg_dg (h : ∀ j, j < L → f j = f2 j) : ∀ (n a : Nat) (v : Int32), L - a ≤ n → dgv f L a v = dgv f2 L a v := by
  intro n
  induction n with
  | zero => intro a v hn; rw [dgv_e (fun q => by omega), dgv_e (fun q => by omega)]
  | succ n ih =>
    intro a v hn
    by_cases q : a < L ∧ isD (f a) = true
    · rw [dgv_s q.1 q.2, dgv_s (f := f2) q.1 (by rw [← h a q.1]; exact q.2), h a q.1]
      exact ih _ _ (by omega)
    · rw [dgv_e q, dgv_e (fun m => q ⟨m.1, by rw [h a m.1]; exact m.2⟩)]
theorem cg_S (h : ∀ j, j < L → f j = f2 j) (a : Nat) : tS f L a = tS f2 L a := cg_run h a
theorem cg_K (h : ∀ j, j < L → f j = f2 j) (a : Nat) : tK f L a = tK f2 L a := by
  unfold tK
  rw [cg_S h a]
  by_cases q : L ≤ tS f2 L a
  · rw [if_pos q, if_pos q]
  · rw [if_neg q, if_neg q, h _ (by omega), cg_run h]
theorem cg_N (h : ∀ j, j < L → f j = f2 j) (a : Nat) : tN f L a = tN f2 L a := by
  unfold tN
  rw [cg_S h a]
  by_cases q : L ≤ tS f2 L a
  · rw [if_pos q, if_pos q]
  · rw [if_neg q, if_neg q, h _ (by omega), cg_run h, cg_run h]
theorem cg_V (h : ∀ j, j < L → f j = f2 j) (a : Nat) : tV f L a = tV f2 L a := by
  unfold tV
  rw [cg_S h a]
  exact cg_dg h _ _ _ (Nat.le_refl _)
theorem cg_wq (h : ∀ j, j < L → f j = f2 j) : ∀ (l : List Int32) (s : Nat), s + l.length ≤ L → wq f s l = wq f2 s l
  | [], _, _ => rfl
  | c :: l, s, hs => by
    have hl : (c :: l).length = l.length + 1 := rfl
    show ((f s == c) && wq f (s + 1) l) = ((f2 s == c) && wq f2 (s + 1) l)
    rw [h s (by omega), cg_wq h l (s + 1) (by omega)]
theorem cg_wk (h : ∀ j, j < L → f j = f2 j) {s e i : Nat} {k : Int32} (he : e ≤ L) (hi : i < 18) : wk f s e k i = wk f2 s e k i := by
  unfold wk wm
  by_cases q : e = s + sLn.getD i 0
  · rw [cg_wq h _ s (by rw [← sB_len i hi]; omega)]
  · rw [decide_eq_false q, Bool.false_and, Bool.false_and]
theorem cg_fw {p q : Nat → Bool} {m : Nat} (h : ∀ j, j < m → p j = q j) : ∀ (n k : Nat), m - k ≤ n → fw p m k = fw q m k := by
  intro n
  induction n with
  | zero => intro k hk; rw [fw_n (by omega), fw_n (by omega)]
  | succ n ih =>
    intro k hk
    by_cases c : k < m
    · by_cases z : p k = true
      · rw [fw_t c z, fw_t c (by rw [← h k c]; exact z)]
      · rw [fw_f c z, fw_f c (by rw [← h k c]; exact z)]
        exact ih (k + 1) (by omega)
    · rw [fw_n c, fw_n c]
theorem cg_hX (h : ∀ j, j < L → f j = f2 j) {a : Nat} (ha : a ≤ L) : hX f L a = hX f2 L a := by
  unfold hX
  rw [cg_S h, cg_N h, cg_K h]
  exact cg_fw (fun j hj => cg_wk h (tN_in ha) (by omega)) _ 0 (Nat.le_refl _)
theorem cg_pX (h : ∀ j, j < L → f j = f2 j) {a : Nat} (ha : a ≤ L) : pX f L a = pX f2 L a := by
  unfold pX
  rw [cg_S h, cg_N h, cg_K h]
  exact cg_fw (fun j hj => cg_wk h (tN_in ha) (pwi_lt j hj)) _ 0 (Nat.le_refl _)
theorem cg_sk (h : ∀ j, j < L → f j = f2 j) : ∀ (r a : Nat), sk f L r a = sk f2 L r a := by
  intro r
  induction r with
  | zero => intro a; rfl
  | succ r ih =>
    intro a
    show sk f L r (tN f L a) = sk f2 L r (tN f2 L a)
    rw [cg_N h]
    exact ih _
theorem cg_nb (h : ∀ j, j < L → f j = f2 j) : ∀ (r a : Nat), nb f L r a = nb f2 L r a := by
  intro r
  induction r with
  | zero => intro a; unfold nb; rw [cg_K h, cg_S h]
  | succ r ih => intro a; unfold nb; rw [cg_K h, cg_S h, cg_N h, ih]
theorem cg_vv (h : ∀ j, j < L → f j = f2 j) (a : Nat) : vv f L a = vv f2 L a := by
  funext j
  unfold vv
  rw [cg_sk h, cg_V h]
theorem cg_pp (h : ∀ j, j < L → f j = f2 j) (a : Nat) : pp f L a = pp f2 L a := by
  funext j
  unfold pp
  rw [cg_sk h, cg_S h]
theorem cg_HR (h : ∀ j, j < L → f j = f2 j) : ∀ (n a : Nat) (P : Int32 × Int32) (R : Nat → Int32), a ≤ L → HR f L n a P R = HR f2 L n a P R := by
  intro n
  induction n with
  | zero => intro a P R _; rfl
  | succ n ih =>
    intro a P R ha
    unfold HR
    have eP : ∀ w, lnP w f L a R P = lnP w f2 L a R P := by
      intro w
      unfold lnP
      rw [cg_N h, cg_vv h, cg_pp h, cg_S h]
    have eR : ∀ w, lnR w f L a R = lnR w f2 L a R := by
      intro w
      unfold lnR
      rw [cg_N h, cg_vv h]
    rw [cg_K h, cg_hX h ha, cg_S h, cg_N h, cg_nb h, eP, eR, cg_sk h, ih _ _ _ (sk_in _ _ (tN_in ha))]
theorem cg_PT (h : ∀ j, j < L → f j = f2 j) : ∀ (n a : Nat) (P : Int32 × Int32) (R : Nat → Int32), a ≤ L → PT f L n a P R = PT f2 L n a P R := by
  intro n
  induction n with
  | zero => intro a P R _; rfl
  | succ n ih =>
    intro a P R ha
    unfold PT
    have eP : ∀ w, lnPP w f L a R P = lnPP w f2 L a R P := by
      intro w
      unfold lnPP
      rw [cg_N h, cg_vv h, cg_pp h, cg_S h]
    have eR : ∀ w, lnPR w f L a R = lnPR w f2 L a R := by
      intro w
      unfold lnPR
      rw [cg_N h, cg_vv h]
    rw [cg_K h, cg_pX h ha, cg_S h, cg_N h, cg_nb h, eP, eR, cg_sk h, ih _ _ _ (sk_in _ _ (tN_in ha))]
end
/-- which number a text gets: -1 none -/
def nuT (sort at0 hs ps : Int32) : Int32 := if sort = 0 then (if at0 = -1 then (if 2 ≤ hs then -1 else hs) else if at0 < 0 then -1 else if hs ≤ at0 then -1 else at0) else if sort = 1 then (if at0 = -1 then (if 3 ≤ ps then -1 else ps) else if at0 < 0 then -1 else if ps ≤ at0 then -1 else at0) else -1
theorem nu_C {sort at0 : Int32} {u : MM} {g : GG} : Fx_T_numberForX sort at0 u g = nuT sort at0 (u 1 5) (u 1 7) := by
  by_cases h0 : sort = 0
  · subst h0; rfl
  · by_cases h1 : sort = 1
    · subst h1; rfl
    · unfold Fx_T_numberForX nuT
      simp only [h0, h1, if_false]
/-- what a text leaves: FAULT, place, row -/
def txF (sort : Int32) (f : Nat → Int32) (L : Nat) (r : Nat → Int32) : Int32 × Int32 × (Nat → Int32) := if sort = 0 then finH L (HR f L 601 0 (0, -1) (R0 true r)) else finP (PT f L 601 0 (0, -1) (R0 false r))
/-- the class's text: answer, FAULT, place, counts, tape -/
theorem tc_X {sort at0 : Int32} {u : MM} {g : GG} {L : Nat} {r : Nat → Int32} {F : Int32 × Int32 × (Nat → Int32)} (hb : L ≤ 600) (hL : u 1 1 = iN L) (b5 : Bd 0 2 (u 1 5)) (b7 : Bd 0 3 (u 1 7)) (hF : txF sort (u 2) L r = F) :
    (nuT sort at0 (u 1 5) (u 1 7) = -1 → Fx_P_textRX sort at0 u g = (-2, ms (ms (ms u 1 1 0) 1 2 0) 1 3 (-1))) ∧
    (¬ nuT sort at0 (u 1 5) (u 1 7) = -1 → ∃ x, (x 29 5 = F.1 ∧ x 29 6 = F.2.1 ∧ (F.1 = 0 → (sort = 0 → RepH x F.2.2 True) ∧ (sort = 1 → RepP x F.2.2))) ∧ x = Fx_Rd_readX (iN L) sort (ms (ms (ms u 1 1 0) 1 2 0) 1 3 (-1)) g ∧
      Fx_P_textRX sort at0 u g = if F.1 = 0 then (nuT sort at0 (u 1 5) (u 1 7), Fx_T_keepX sort (nuT sort at0 (u 1 5) (u 1 7)) (ms (ms x 1 2 F.1) 1 3 F.2.1) g) else (-1, ms (ms x 1 2 F.1) 1 3 F.2.1)) := by
  have e : Fx_P_textRX sort at0 u g = if Fx_T_numberForX sort at0 (ms (ms (ms u 1 1 0) 1 2 0) 1 3 (-1)) g = -1 then (-2, ms (ms (ms u 1 1 0) 1 2 0) 1 3 (-1)) else (if (Fx_Rd_readX (u 1 1) sort (ms (ms (ms u 1 1 0) 1 2 0) 1 3 (-1)) g) 29 5 = 0 then (Fx_T_numberForX sort at0 (ms (ms (ms u 1 1 0) 1 2 0) 1 3 (-1)) g, Fx_T_keepX sort (Fx_T_numberForX sort at0 (ms (ms (ms u 1 1 0) 1 2 0) 1 3 (-1)) g) (ms (ms (Fx_Rd_readX (u 1 1) sort (ms (ms (ms u 1 1 0) 1 2 0) 1 3 (-1)) g) 1 2 ((Fx_Rd_readX (u 1 1) sort (ms (ms (ms u 1 1 0) 1 2 0) 1 3 (-1)) g) 29 5)) 1 3 ((Fx_Rd_readX (u 1 1) sort (ms (ms (ms u 1 1 0) 1 2 0) 1 3 (-1)) g) 29 6)) g) else (-1, ms (ms (Fx_Rd_readX (u 1 1) sort (ms (ms (ms u 1 1 0) 1 2 0) 1 3 (-1)) g) 1 2 ((Fx_Rd_readX (u 1 1) sort (ms (ms (ms u 1 1 0) 1 2 0) 1 3 (-1)) g) 29 5)) 1 3 ((Fx_Rd_readX (u 1 1) sort (ms (ms (ms u 1 1 0) 1 2 0) 1 3 (-1)) g) 29 6))) := by
    unfold Fx_P_textRX
    simp only [xq_lt]
  rw [e, nu_C, hL]
  have e5 : ms (ms (ms u 1 1 0) 1 2 0) 1 3 (-1) 1 5 = u 1 5 := rfl
  have e7 : ms (ms (ms u 1 1 0) 1 2 0) 1 3 (-1) 1 7 = u 1 7 := rfl
  rw [e5, e7]
  refine ⟨fun q => by rw [if_pos q], fun q => ?_⟩
  rw [if_neg q]
  have hs : sort = 0 ∨ sort = 1 := by
    by_cases h0 : sort = 0
    · exact Or.inl h0
    · by_cases h1 : sort = 1
      · exact Or.inr h1
      · exact absurd (by unfold nuT; rw [if_neg h0, if_neg h1]) q
  have key : (Fx_Rd_readX (iN L) sort (ms (ms (ms u 1 1 0) 1 2 0) 1 3 (-1)) g) 29 5 = F.1 ∧ (Fx_Rd_readX (iN L) sort (ms (ms (ms u 1 1 0) 1 2 0) 1 3 (-1)) g) 29 6 = F.2.1 ∧ (F.1 = 0 → (sort = 0 → RepH (Fx_Rd_readX (iN L) sort (ms (ms (ms u 1 1 0) 1 2 0) 1 3 (-1)) g) F.2.2 True) ∧ (sort = 1 → RepP (Fx_Rd_readX (iN L) sort (ms (ms (ms u 1 1 0) 1 2 0) 1 3 (-1)) g) F.2.2)) := by
    rcases hs with z | z
    · subst z
      have h2 : ∀ k, k < 3 → R0 true r (2 + k) = 1 := by
        intro k hk
        rcases (show k = 0 ∨ k = 1 ∨ k = 2 by omega) with y | y | y <;> subst y <;> rfl
      obtain ⟨k1, k2, k3⟩ := d0_X (u := ms (ms (ms u 1 1 0) 1 2 0) 1 3 (-1)) (g := g) (R := R0 true r) hb rfl rfl h2 hF
      exact ⟨k1, k2, fun y => ⟨fun _ => k3 y, fun y2 => absurd y2 (by decide)⟩⟩
    · subst z
      obtain ⟨k1, k2, k3⟩ := d1_X (u := ms (ms (ms u 1 1 0) 1 2 0) 1 3 (-1)) (g := g) (R := R0 false r) hb rfl hF
      exact ⟨k1, k2, fun y => ⟨fun y2 => absurd y2 (by decide), fun _ => k3 y⟩⟩
  refine ⟨_, key, rfl, ?_⟩
  rw [key.1, key.2.1]
