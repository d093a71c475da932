/-! words -/
theorem ofN {n : Nat} : Int32.ofNat n = iN n := rfl
def wq (f : Nat → Int32) : Nat → List Int32 → Bool
  | _, [] => true
  | s, c :: l => (f s == c) && wq f (s + 1) l
/-- the word from s to e is the i-th -/
def wm (f : Nat → Int32) (s e i : Nat) : Bool := decide (e = s + sLn.getD i 0) && wq f s (sBy.getD i [])
theorem sB_len : ∀ i, i < 18 → sLn.getD i 0 = (sBy.getD i []).length := by decide +kernel
theorem sB_ch : ∀ i, i < 18 → ∀ k, k < 5 → ((((sBy.getD i []).getD k 0) &&& 255).toUInt32 % 65536).toInt32 = (sBy.getD i []).getD k 0 := by decide +kernel
theorem ch_X {i k : Nat} {u : Nat → Nat → Int32} {g : Nat → Nat → Int64} (hi : i < 18) (hk : k < 5) : Fx_St_charAtX i (iN k) u g = (sBy.getD i []).getD k 0 := by
  show ((((sBy.getD i []).getD (iN k).toNatClampNeg 0) &&& 255).toUInt32 % 65536).toInt32 = _
  rw [iN_cl (by omega)]
  exact sB_ch i hi k hk
theorem wq_d {f : Nat → Int32} {s k : Nat} {l : List Int32} (h : k < l.length) : wq f s (l.drop k) = ((f s == l.getD k 0) && wq f (s + 1) (l.drop (k + 1))) := by
  rw [List.drop_eq_getElem_cons h]
  have e : l.getD k 0 = l[k] := by rw [List.getD_eq_getElem?_getD, List.getElem?_eq_getElem h]; rfl
  rw [e]
  rfl
theorem iw_L {u : Nat → Nat → Int32} {g : Nat → Nat → Int64} {L i s : Nat} (hi : i < 18) (hL : u 30 1 = iN L) (hb : L ≤ 600) (h4 : u 30 4 = iN s) (he : s + sLn.getD i 0 ≤ L) : ∀ (n k : Nat), sLn.getD i 0 - k < n → k ≤ sLn.getD i 0 → Fx_Tk_isWordX_L28 i u g n (iN k) = wq (u 2) (s + k) ((sBy.getD i []).drop k) := by
  have h5 := sln_le i
  intro n
  induction n with
  | zero => intro k h; omega
  | succ n ih =>
    intro k h hk
    rw [Fx_Tk_isWordX_L28_s, hL, h4, iN_a, ofN]
    have hl := sB_len i hi
    by_cases c : sLn.getD i 0 ≤ k
    · rw [if_pos ((iN_le (a := sLn.getD i 0) (b := k) (by omega) (by omega)).mpr c), List.drop_eq_nil_of_le (by omega)]
      rfl
    · rw [if_neg (fun q => c ((iN_le (a := sLn.getD i 0) (b := k) (by omega) (by omega)).mp q)), if_neg (fun q => by have := (iN_le (by omega) (by omega)).mp q; omega), iN_cl (by omega)]
      show (if u 2 (s + k) = Fx_St_charAtX i (iN k) u g then Fx_Tk_isWordX_L28 i u g n (iN k + 1) else false) = _
      rw [ch_X hi (by omega), iN_s, wq_d (by omega)]
      by_cases q : u 2 (s + k) = (sBy.getD i []).getD k 0
      · rw [if_pos q, ih (k + 1) (by omega) (by omega), beq_iff_eq.mpr q, Bool.true_and]
        rfl
      · rw [if_neg q, beq_eq_false_iff_ne.mpr q]
        rfl
theorem iw_X {u : Nat → Nat → Int32} {g : Nat → Nat → Int64} {L i s e : Nat} (hi : i < 18) (hL : u 30 1 = iN L) (hb : L ≤ 600) (h2 : u 30 2 = iN e) (h4 : u 30 4 = iN s) (hs : s ≤ e) (he : e ≤ L) : Fx_Tk_isWordX i u g = (decide (u 30 3 = 1) && wm (u 2) s e i) := by
  have h5 := sln_le i
  unfold Fx_Tk_isWordX
  rw [h2, h4, iN_sub hs, ofN]
  by_cases c : u 30 3 = 1
  · rw [if_pos c, decide_eq_true c, Bool.true_and]
    unfold wm
    by_cases q : e = s + sLn.getD i 0
    · rw [if_pos (show iN (e - s) = iN (sLn.getD i 0) by rw [show e - s = sLn.getD i 0 by omega]), decide_eq_true q, Bool.true_and]
      have := iw_L (g := g) hi hL hb h4 (by omega) 6 0 (by omega) (by omega)
      exact this
    · rw [if_neg (show ¬ iN (e - s) = iN (sLn.getD i 0) from fun z => by have := (iN_eq (by omega) (by omega)).mp z; omega), decide_eq_false q]
      rfl
  · rw [if_neg c, decide_eq_false c]
    rfl
/-- the first k from k on, below m, with p; else -1 -/
def fw (p : Nat → Bool) (m k : Nat) : Int32 := if k < m then (if p k = true then iN k else fw p m (k + 1)) else -1
termination_by m - k
decreasing_by omega
theorem fw_n {p : Nat → Bool} {m k : Nat} (h : ¬ k < m) : fw p m k = -1 := by rw [fw, if_neg h]
theorem fw_t {p : Nat → Bool} {m k : Nat} (h : k < m) (q : p k = true) : fw p m k = iN k := by rw [fw, if_pos h, if_pos q]
theorem fw_f {p : Nat → Bool} {m k : Nat} (h : k < m) (q : ¬ p k = true) : fw p m k = fw p m (k + 1) := by rw [fw, if_pos h, if_neg q]
theorem hw_X : ∀ k, k < 15 → ∀ (u : Nat → Nat → Int32) (g : Nat → Nat → Int64), Fx_Rd_hillWordX (iN k) u g = k := by
  have h : ∀ k, k < 15 → Fx_Rd_hillWordX (iN k) (fun _ _ => 0) (fun _ _ => 0) = k := by decide +kernel
  intro k hk u g
  exact h k hk
def pwi (k : Nat) : Nat := [12, 15, 16, 14, 17].getD k 0
theorem pw_X : ∀ k, k < 5 → ∀ (u : Nat → Nat → Int32) (g : Nat → Nat → Int64), Fx_Rd_planWordX (iN k) u g = pwi k := by
  have h : ∀ k, k < 5 → Fx_Rd_planWordX (iN k) (fun _ _ => 0) (fun _ _ => 0) = pwi k := by decide +kernel
  intro k hk u g
  exact h k hk
theorem pwi_lt : ∀ k, k < 5 → pwi k < 18 := by decide
def wk (f : Nat → Int32) (s e : Nat) (k : Int32) (i : Nat) : Bool := decide (k = 1) && wm f s e i
theorem lo_H {u : Nat → Nat → Int32} {g : Nat → Nat → Int64} {L s e : Nat} (hL : u 30 1 = iN L) (hb : L ≤ 600) (h2 : u 30 2 = iN e) (h4 : u 30 4 = iN s) (hs : s ≤ e) (he : e ≤ L) : ∀ (n k : Nat), 15 - k < n → k ≤ 15 → Fx_Rd_lineOfX_L13b 0 u g n (iN k) = fw (wk (u 2) s e (u 30 3)) 15 k := by
  intro n
  induction n with
  | zero => intro k h; omega
  | succ n ih =>
    intro k h hk
    rw [Fx_Rd_lineOfX_L13b_s]
    by_cases c : 15 ≤ k
    · rw [if_pos (show (15 : Int32) ≤ iN k from (iN_le (a := 15) (by omega) (by omega)).mpr c), fw_n (by omega)]
    · rw [if_neg (show ¬ (15 : Int32) ≤ iN k from fun q => c ((iN_le (a := 15) (by omega) (by omega)).mp q)), if_pos rfl]
      show (if Fx_Tk_isWordX (Fx_Rd_hillWordX (iN k) u g) u g = true then iN k else Fx_Rd_lineOfX_L13b 0 u g n (iN k + 1)) = _
      rw [hw_X k (by omega), iw_X (by omega) hL hb h2 h4 hs he, iN_s]
      by_cases q : wk (u 2) s e (u 30 3) k = true
      · rw [fw_t (by omega) q]
        exact if_pos q
      · rw [fw_f (by omega) q, ← ih (k + 1) (by omega) (by omega)]
        exact if_neg q
theorem lo_P {u : Nat → Nat → Int32} {g : Nat → Nat → Int64} {L s e : Nat} {sort : Int32} (hsort : ¬ sort = 0) (hL : u 30 1 = iN L) (hb : L ≤ 600) (h2 : u 30 2 = iN e) (h4 : u 30 4 = iN s) (hs : s ≤ e) (he : e ≤ L) : ∀ (n k : Nat), 5 - k < n → k ≤ 5 → Fx_Rd_lineOfX_L13 sort u g n (iN k) = fw (fun k => wk (u 2) s e (u 30 3) (pwi k)) 5 k := by
  intro n
  induction n with
  | zero => intro k h; omega
  | succ n ih =>
    intro k h hk
    rw [Fx_Rd_lineOfX_L13_s]
    by_cases c : 5 ≤ k
    · rw [if_pos (show (5 : Int32) ≤ iN k from (iN_le (a := 5) (by omega) (by omega)).mpr c), fw_n (by omega)]
    · rw [if_neg (show ¬ (5 : Int32) ≤ iN k from fun q => c ((iN_le (a := 5) (by omega) (by omega)).mp q)), if_neg hsort]
      show (if Fx_Tk_isWordX (Fx_Rd_planWordX (iN k) u g) u g = true then iN k else Fx_Rd_lineOfX_L13 sort u g n (iN k + 1)) = _
      rw [pw_X k (by omega), iw_X (pwi_lt k (by omega)) hL hb h2 h4 hs he, iN_s]
      by_cases q : wk (u 2) s e (u 30 3) (pwi k) = true
      · rw [fw_t (p := fun k => wk (u 2) s e (u 30 3) (pwi k)) (by omega) q]
        exact if_pos q
      · rw [fw_f (p := fun k => wk (u 2) s e (u 30 3) (pwi k)) (by omega) q, ← ih (k + 1) (by omega) (by omega)]
        exact if_neg q
/-- which line the token at a begins: of a hill, of a plan; -1: none -/
def hX (f : Nat → Int32) (L a : Nat) : Int32 := fw (wk f (tS f L a) (tN f L a) (tK f L a)) 15 0
def pX (f : Nat → Int32) (L a : Nat) : Int32 := fw (fun k => wk f (tS f L a) (tN f L a) (tK f L a) (pwi k)) 5 0
theorem lo_0 {x u : Nat → Nat → Int32} {g : Nat → Nat → Int64} {L a : Nat} (hL : u 30 1 = iN L) (hb : L ≤ 600) (ha : a ≤ L) (h : ADV x u (u 2) L a) : Fx_Rd_lineOfX 0 x g = hX (u 2) L a := by
  obtain ⟨h0, -, h1, h2, h3, h4, -⟩ := h
  have e : x 2 = u 2 := h0 2 (by decide)
  have q := lo_H (g := g) (h1.trans hL) hb h2 h4 (tN_le a) (tN_in ha) 16 0 (by omega) (by omega)
  rw [e, h3] at q
  exact q
theorem lo_1 {x u : Nat → Nat → Int32} {g : Nat → Nat → Int64} {L a : Nat} {sort : Int32} (hs : ¬ sort = 0) (hL : u 30 1 = iN L) (hb : L ≤ 600) (ha : a ≤ L) (h : ADV x u (u 2) L a) : Fx_Rd_lineOfX sort x g = pX (u 2) L a := by
  obtain ⟨h0, -, h1, h2, h3, h4, -⟩ := h
  have e : x 2 = u 2 := h0 2 (by decide)
  have q := lo_P (g := g) hs (h1.trans hL) hb h2 h4 (tN_le a) (tN_in ha) 6 0 (by omega) (by omega)
  rw [e, h3] at q
  unfold Fx_Rd_lineOfX
  rw [if_neg hs]
  exact q
theorem fw_c {p : Nat → Bool} {m : Nat} : ∀ n k, m - k ≤ n → (fw p m k = -1 ∧ ∀ j, k ≤ j → j < m → ¬ p j = true) ∨ ∃ j, k ≤ j ∧ j < m ∧ fw p m k = iN j ∧ p j = true := by
  intro n
  induction n with
  | zero => intro k h; exact Or.inl ⟨fw_n (by omega), fun j h1 h2 => by omega⟩
  | succ n ih =>
    intro k h
    by_cases c : k < m
    · by_cases q : p k = true
      · exact Or.inr ⟨k, Nat.le_refl _, c, fw_t c q, q⟩
      · rw [fw_f c q]
        rcases ih (k + 1) (by omega) with ⟨h1, h2⟩ | ⟨j, h1, h2, h3, h4⟩
        · refine Or.inl ⟨h1, fun j q1 q2 => ?_⟩
          by_cases z : j = k
          · rw [z]; exact q
          · exact h2 j (by omega) q2
        · exact Or.inr ⟨j, by omega, h2, h3, h4⟩
    · exact Or.inl ⟨fw_n c, fun j h1 h2 => by omega⟩
theorem hX_c {f : Nat → Int32} {L a : Nat} : (hX f L a = -1 ∧ ∀ j, j < 15 → ¬ wk f (tS f L a) (tN f L a) (tK f L a) j = true) ∨ ∃ j, j < 15 ∧ hX f L a = iN j ∧ wk f (tS f L a) (tN f L a) (tK f L a) j = true := by
  rcases fw_c (p := wk f (tS f L a) (tN f L a) (tK f L a)) (m := 15) 15 0 (by omega) with ⟨h1, h2⟩ | ⟨j, -, h2, h3, h4⟩
  · exact Or.inl ⟨h1, fun j hj => h2 j (by omega) hj⟩
  · exact Or.inr ⟨j, h2, h3, h4⟩
theorem pX_c {f : Nat → Int32} {L a : Nat} : (pX f L a = -1 ∧ ∀ j, j < 5 → ¬ wk f (tS f L a) (tN f L a) (tK f L a) (pwi j) = true) ∨ ∃ j, j < 5 ∧ pX f L a = iN j ∧ wk f (tS f L a) (tN f L a) (tK f L a) (pwi j) = true := by
  rcases fw_c (p := fun k => wk f (tS f L a) (tN f L a) (tK f L a) (pwi k)) (m := 5) 5 0 (by omega) with ⟨h1, h2⟩ | ⟨j, -, h2, h3, h4⟩
  · exact Or.inl ⟨h1, fun j hj => h2 j (by omega) hj⟩
  · exact Or.inr ⟨j, h2, h3, h4⟩
