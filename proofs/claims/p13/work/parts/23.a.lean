/-! the reference's reader -/
def mse (u : Nat → Nat → Int32) (a l : Int32) : Int32 := if a < l then (u 163 a.toNatClampNeg) &&& 255 else -1
theorem mse_1 {u : Nat → Nat → Int32} {a l v : Int32} (h : a < l) (e : v = u 163 a.toNatClampNeg) : v &&& 255 = mse u a l := by rw [e]; exact (if_pos h).symm
theorem mse_2 {u : Nat → Nat → Int32} {a l : Int32} (h : l ≤ a) : -1 = mse u a l := (if_neg (fun q => lt_le_no q h)).symm
theorem mse_c {u u2 : Nat → Nat → Int32} {a a2 l l2 : Int32} (e : u2 163 = u 163) (ea : a2 = a) (el : l2 = l) : mse u2 a2 l2 = mse u a l := by subst ea; subst el; unfold mse; rw [e]
theorem mse_b (v : Int32) {u : Nat → Nat → Int32} {a l : Int32} (e : v = mse u a l := by rfl) : Bd (-1) 255 v := by
  rw [e]
  unfold mse
  split
  · exact bd_w (bd_andr (a := 255) (b := 255) (v := 255) (by decide) (by decide)) (by decide)
  · decide
theorem mse_lt {u : Nat → Nat → Int32} {a l : Int32} {lo hi : Int} (b : Bd lo hi (mse u a l)) (h : 0 ≤ lo) : a < l := by
  by_cases q : a < l
  · exact q
  · exfalso
    have : mse u a l = -1 := if_neg q
    rw [this] at b
    have := b.1
    have e : (-1 : Int32).toInt = -1 := rfl
    omega
theorem c_le {lo hi : Int} {v c : Int32} (b : Bd lo hi v) (h : c.toInt ≤ lo) : c ≤ v := by rw [Int32.le_iff_toInt_le]; have := b.1; omega
theorem le_cc {lo hi : Int} {v c : Int32} (b : Bd lo hi v) (h : hi ≤ c.toInt) : v ≤ c := by rw [Int32.le_iff_toInt_le]; have := b.2; omega
/-- a token read: from place a to place b; s is its sort, 0 at the end -/
def GV (a b s : Int32) : Prop := a ≤ b ∧ (a < b ∨ s = 0)
theorem gv_t {a b c s t : Int32} (h1 : GV a b s) (h2 : GV b c t) : GV a c t := by
  have x1 := Int32.le_iff_toInt_le.mp h1.1
  have x2 := Int32.le_iff_toInt_le.mp h2.1
  refine ⟨by rw [Int32.le_iff_toInt_le]; omega, ?_⟩
  rcases h2.2 with h | h
  · have x3 := Int32.lt_iff_toInt_lt.mp h
    exact Or.inl (by rw [Int32.lt_iff_toInt_lt]; omega)
  · exact Or.inr h
theorem gv_r {a b c a2 b2 c2 : Int32} (e1 : a2 = a) (e2 : b2 = b) (e3 : c2 = c) (h : GV a b c) : GV a2 b2 c2 := by subst e1; subst e2; subst e3; exact h
theorem gv_end {a b s : Int32} (h : a ≤ b) (e : s = 0) : GV a b s := ⟨h, Or.inr e⟩
theorem gv_go {a b c s : Int32} (h : a ≤ b) (q : b < c) : GV a c s := by
  have x1 := Int32.le_iff_toInt_le.mp h
  have x2 := Int32.lt_iff_toInt_lt.mp q
  exact ⟨by rw [Int32.le_iff_toInt_le]; omega, Or.inl (by rw [Int32.lt_iff_toInt_lt]; omega)⟩
def VI (n v : Int32) : Prop := (n.toInt = 0 ∧ Bd 0 0 v) ∨ (n.toInt = 1 ∧ Bd 0 9 v) ∨ (n.toInt = 2 ∧ Bd 0 99 v) ∨ (3 ≤ n.toInt ∧ Bd 0 999 v)
theorem vi_b {n v : Int32} (h : VI n v) : Bd 0 999 v := by
  rcases h with ⟨_, h⟩ | ⟨_, h⟩ | ⟨_, h⟩ | ⟨_, h⟩
  · exact bd_w h (by decide)
  · exact bd_w h (by decide)
  · exact bd_w h (by decide)
  · exact h
theorem vi_s {n v d : Int32} (h : VI n v) (bn : Bd 0 600 n) (hn : n < 3) (bd : Bd 48 57 d) : VI (n + 1) (10 * v + d - 48) := by
  have e1 : (1 : Int32).toInt = 1 := rfl
  have h0 := Int32.lt_iff_toInt_lt.mp hn
  have e3 : (3 : Int32).toInt = 3 := rfl
  have h1 : (n + 1).toInt = n.toInt + 1 := by rw [ti_add (by have := bn.1; have := bn.2; omega) (by have := bn.1; have := bn.2; omega), e1]
  have t10 : Bd 10 10 (10 : Int32) := by decide
  have t48 : Bd 48 48 (48 : Int32) := by decide
  unfold VI at h ⊢
  rw [h1]
  rcases h with ⟨h2, h3⟩ | ⟨h2, h3⟩ | ⟨h2, h3⟩ | ⟨h2, h3⟩
  · exact Or.inr (Or.inl ⟨by omega, bd_sub (l := 0) (h := 9) (bd_add (l := 48) (h := 57) (bd_mul (l := 0) (h := 0) t10 h3 (by decide)) bd (by decide)) t48 (by decide)⟩)
  · exact Or.inr (Or.inr (Or.inl ⟨by omega, bd_sub (l := 0) (h := 99) (bd_add (l := 48) (h := 147) (bd_mul (l := 0) (h := 90) t10 h3 (by decide)) bd (by decide)) t48 (by decide)⟩))
  · exact Or.inr (Or.inr (Or.inr ⟨by omega, bd_sub (l := 0) (h := 999) (bd_add (l := 48) (h := 1047) (bd_mul (l := 0) (h := 990) t10 h3 (by decide)) bd (by decide)) t48 (by decide)⟩))
  · omega
theorem vi_k {n v : Int32} (h : VI n v) (bn : Bd 0 600 n) (hn : 3 ≤ n) : VI (n + 1) v := by
  have e1 : (1 : Int32).toInt = 1 := rfl
  have e3 : (3 : Int32).toInt = 3 := rfl
  have h0 := Int32.le_iff_toInt_le.mp hn
  have h1 : (n + 1).toInt = n.toInt + 1 := by rw [ti_add (by have := bn.1; have := bn.2; omega) (by have := bn.1; have := bn.2; omega), e1]
  exact Or.inr (Or.inr (Or.inr ⟨by omega, vi_b h⟩))
theorem lt_s1 {a b : Int32} {lo hi : Int} (bb : Bd lo hi b) (r : hi ≤ 599 ∧ -1000 ≤ lo) (h : a ≤ b) : a < b + 1 := by
  have e1 : (1 : Int32).toInt = 1 := rfl
  have x := Int32.le_iff_toInt_le.mp h
  rw [Int32.lt_iff_toInt_lt, ti_add (by have := bb.1; have := bb.2; omega) (by have := bb.1; have := bb.2; omega), e1]
  omega
theorem vi_1 {d : Int32} (bd : Bd 48 57 d) : VI 1 (0 + d - 48) := by
  have t48 : Bd 48 48 (48 : Int32) := by decide
  have t0 : Bd 0 0 (0 : Int32) := by decide
  exact Or.inr (Or.inl ⟨by decide, bd_sub (l := 0) (h := 9) (bd_add (l := 48) (h := 57) t0 bd (by decide)) t48 (by decide)⟩)
theorem vi_r {n v w : Int32} (e : w = v) (h : VI n v) : VI n w := e ▸ h
theorem one_le {a : Int32} {lo hi : Int} (b : Bd lo hi a) (r : 0 ≤ lo ∧ hi ≤ 599) : 1 ≤ a + 1 := by
  have e1 : (1 : Int32).toInt = 1 := rfl
  obtain ⟨b1, b2⟩ := b
  rw [Int32.le_iff_toInt_le, ti_add (by omega) (by omega), e1]
  omega
theorem le_eq {a b c : Int32} (h : a ≤ b) (e : b = c) : a ≤ c := e ▸ h
theorem lt_eq {a b c : Int32} (h : a < b) (e : b = c) : a < c := e ▸ h
theorem vi_n {n v a : Int32} (h : VI n v) (hn : n ≤ a) (ba : Bd 0 600 a) : Bd 0 600 n := by
  have x := Int32.le_iff_toInt_le.mp hn
  have := ba.2
  unfold VI at h
  exact ⟨by omega, by omega⟩
theorem le_s1 {n a : Int32} {lo hi : Int} (bn : Bd 0 600 n) (ba : Bd lo hi a) (r : hi ≤ 600 ∧ 0 ≤ lo) (h : n ≤ a) : n + 1 ≤ a + 1 := by
  have e1 : (1 : Int32).toInt = 1 := rfl
  have x := Int32.le_iff_toInt_le.mp h
  obtain ⟨n1, n2⟩ := bn; obtain ⟨a1, a2⟩ := ba
  rw [Int32.le_iff_toInt_le, ti_add (by omega) (by omega), ti_add (by omega) (by omega)]
  omega
