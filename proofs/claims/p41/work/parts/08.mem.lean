/-! the world by its memory: u the ints, g the longs of all cells; ex: what was made behind the constructors -/
abbrev CF : Type := (Nat → Int32) → (Nat → Int64) → MC
def wl : List CF → Nat → (Nat → Nat → Int32) → (Nat → Nat → Int64) → List MC
  | [], _, _, _ => []
  | c :: cs, i, u, g => c (u i) (g i) :: wl cs (i + 1) u g
theorem wl_len : ∀ (cs : List CF) (n : Nat) (u : Nat → Nat → Int32) (g : Nat → Nat → Int64), (wl cs n u g).length = cs.length
  | [], _, _, _ => rfl
  | _ :: cs, n, u, g => congrArg (· + 1) (wl_len cs (n + 1) u g)
theorem wl_get : ∀ (cs : List CF) (n a : Nat) (u : Nat → Nat → Int32) (g : Nat → Nat → Int64) (c : CF), cs[a]? = some c → (wl cs n u g)[a]? = some (c (u (n + a)) (g (n + a)))
  | [], _, _, _, _, _, h => by cases h
  | c :: cs, n, 0, u, g, c2, h => by cases h; rfl
  | c :: cs, n, a + 1, u, g, c2, h => by
    have h2 := wl_get cs (n + 1) a u g c2 h
    rw [show n + 1 + a = n + (a + 1) from by omega] at h2
    exact h2
theorem wl_same : ∀ (cs : List CF) (n : Nat) (u u2 : Nat → Nat → Int32) (g g2 : Nat → Nat → Int64), (∀ b, n ≤ b → u2 b = u b) → (∀ b, n ≤ b → g2 b = g b) → wl cs n u g = wl cs n u2 g2
  | [], _, _, _, _, _, _, _ => rfl
  | c :: cs, n, u, u2, g, g2, h1, h2 => by
    show c (u n) (g n) :: wl cs (n + 1) u g = c (u2 n) (g2 n) :: wl cs (n + 1) u2 g2
    rw [h1 n (Nat.le_refl _), h2 n (Nat.le_refl _), wl_same cs (n + 1) u u2 g g2 (fun b hb => h1 b (by omega)) (fun b hb => h2 b (by omega))]
theorem wl_set : ∀ (cs : List CF) (n a : Nat) (u u2 : Nat → Nat → Int32) (g g2 : Nat → Nat → Int64) (c : CF), cs[a]? = some c → (∀ b, b ≠ n + a → u2 b = u b) → (∀ b, b ≠ n + a → g2 b = g b) → (wl cs n u g).set a (c (u2 (n + a)) (g2 (n + a))) = wl cs n u2 g2
  | [], _, _, _, _, _, _, _, h, _, _ => by cases h
  | c :: cs, n, 0, u, u2, g, g2, c2, h, h1, h2 => by
    cases h
    show c (u2 n) (g2 n) :: wl cs (n + 1) u g = c (u2 n) (g2 n) :: wl cs (n + 1) u2 g2
    rw [wl_same cs (n + 1) u u2 g g2 (fun b hb => h1 b (by omega)) (fun b hb => h2 b (by omega))]
  | c :: cs, n, a + 1, u, u2, g, g2, c2, h, h1, h2 => by
    have h3 := wl_set cs (n + 1) a u u2 g g2 c2 h (fun b hb => h1 b (by omega)) (fun b hb => h2 b (by omega))
    rw [show n + 1 + a = n + (a + 1) from by omega] at h3
    show c (u n) (g n) :: (wl cs (n + 1) u g).set a _ = c (u2 n) (g2 n) :: wl cs (n + 1) u2 g2
    rw [h3, h1 n (by omega), h2 n (by omega)]
def cells : List CF := [
  fun f g => .inr (10, [.ref 1, .ref 27, .ref 28, .ref 29, .ref 43, .ref 49, .ref 53, .ref 56, .ref 57, .ref 79]),
  fun f g => .inr (7, [.ref 2, .int (f 1), .int (f 2), .int (f 3), .ref 3, .int (f 5), .ref 4, .int (f 7)]),
  fun f g => .inl (0, 600, .inl f),
  fun f g => .inl (4, 2, .inr (.inr (va_up (va_up (fun _ => none) ((0 : Int32).toNatClampNeg) (some (5))) ((1 : Int32).toNatClampNeg) (some (10))))),
  fun f g => .inl (6, 3, .inr (.inr (va_up (va_up (va_up (fun _ => none) ((0 : Int32).toNatClampNeg) (some (15))) ((1 : Int32).toNatClampNeg) (some (19))) ((2 : Int32).toNatClampNeg) (some (23))))),
  fun f g => .inr (1, [.int (f 0), .ref 6, .int (f 2), .ref 7, .ref 8, .ref 9]),
  fun f g => .inl (1, 144, .inl f),
  fun f g => .inl (1, 4, .inl f),
  fun f g => .inl (1, 4, .inl f),
  fun f g => .inl (1, 3, .inl f),
  fun f g => .inr (1, [.int (f 0), .ref 11, .int (f 2), .ref 12, .ref 13, .ref 14]),
  fun f g => .inl (1, 144, .inl f),
  fun f g => .inl (1, 4, .inl f),
  fun f g => .inl (1, 4, .inl f),
  fun f g => .inl (1, 3, .inl f),
  fun f g => .inr (8, [.int (f 0), .ref 16, .ref 17, .ref 18]),
  fun f g => .inl (1, 12, .inl f),
  fun f g => .inl (1, 12, .inl f),
  fun f g => .inl (1, 12, .inl f),
  fun f g => .inr (8, [.int (f 0), .ref 20, .ref 21, .ref 22]),
  fun f g => .inl (1, 12, .inl f),
  fun f g => .inl (1, 12, .inl f),
  fun f g => .inl (1, 12, .inl f),
  fun f g => .inr (8, [.int (f 0), .ref 24, .ref 25, .ref 26]),
  fun f g => .inl (1, 12, .inl f),
  fun f g => .inl (1, 12, .inl f),
  fun f g => .inl (1, 12, .inl f),
  fun f g => .inl (5, 3, .inr (.inr (va_up (va_up (va_up (fun _ => none) ((0 : Int32).toNatClampNeg) (some (84))) ((1 : Int32).toNatClampNeg) (some (110))) ((2 : Int32).toNatClampNeg) (some (136))))),
  fun f g => .inl (3, 3, .inl f),
  fun f g => .inr (3, [.ref 30, .ref 32, .ref 37, .ref 41, .ref 42, .int (f 5), .int (f 6)]),
  fun f g => .inr (6, [.ref (if f 0 = 0 then 31 else 2), .int (f 1), .int (f 2), .int (f 3), .int (f 4), .int (f 5)]),
  fun f g => .inl (0, 0, .inl f),
  fun f g => .inr (1, [.int (f 0), .ref 33, .int (f 2), .ref 34, .ref 35, .ref 36]),
  fun f g => .inl (1, 144, .inl f),
  fun f g => .inl (1, 4, .inl f),
  fun f g => .inl (1, 4, .inl f),
  fun f g => .inl (1, 3, .inl f),
  fun f g => .inr (8, [.int (f 0), .ref 38, .ref 39, .ref 40]),
  fun f g => .inl (1, 12, .inl f),
  fun f g => .inl (1, 12, .inl f),
  fun f g => .inl (1, 12, .inl f),
  fun f g => .inl (1, 3, .inl f),
  fun f g => .inl (1, 3, .inl f),
  fun f g => .inr (4, [.ref 44, .int (f 1), .int (f 2), .int (f 3)]),
  fun f g => .inr (1, [.int (f 0), .ref 45, .int (f 2), .ref 46, .ref 47, .ref 48]),
  fun f g => .inl (1, 144, .inl f),
  fun f g => .inl (1, 4, .inl f),
  fun f g => .inl (1, 4, .inl f),
  fun f g => .inl (1, 3, .inl f),
  fun f g => .inr (8, [.int (f 0), .ref 50, .ref 51, .ref 52]),
  fun f g => .inl (1, 12, .inl f),
  fun f g => .inl (1, 12, .inl f),
  fun f g => .inl (1, 12, .inl f),
  fun f g => .inr (5, [.int (f 0), .int (f 1), .int (f 2), .int (f 3), .int (f 4), .ref 54, .ref 55]),
  fun f g => .inl (1, 9, .inl f),
  fun f g => .inl (1, 9, .inl f),
  fun f g => .inr (0, [.ref 57, .ref 70, .int (f 2), .int (f 3), .long (g 4), .int (f 5), .ref 75, .ref 76, .ref 77, .ref 78]),
  fun f g => .inr (2, [.ref 58, .ref 61, .ref 66, .ref 67, .ref 68, .ref 69]),
  fun f g => .inr (5, [.int (f 0), .int (f 1), .int (f 2), .int (f 3), .int (f 4), .ref 59, .ref 60]),
  fun f g => .inl (1, 9, .inl f),
  fun f g => .inl (1, 9, .inl f),
  fun f g => .inr (1, [.int (f 0), .ref 62, .int (f 2), .ref 63, .ref 64, .ref 65]),
  fun f g => .inl (1, 144, .inl f),
  fun f g => .inl (1, 4, .inl f),
  fun f g => .inl (1, 4, .inl f),
  fun f g => .inl (1, 3, .inl f),
  fun f g => .inl (1, 2048, .inl f),
  fun f g => .inl (1, 512, .inl f),
  fun f g => .inl (2, 512, .inr (.inl g)),
  fun f g => .inl (2, 512, .inr (.inl g)),
  fun f g => .inr (1, [.int (f 0), .ref 71, .int (f 2), .ref 72, .ref 73, .ref 74]),
  fun f g => .inl (1, 144, .inl f),
  fun f g => .inl (1, 4, .inl f),
  fun f g => .inl (1, 4, .inl f),
  fun f g => .inl (1, 3, .inl f),
  fun f g => .inl (1, 4, .inl f),
  fun f g => .inl (1, 4, .inl f),
  fun f g => .inl (1, 4, .inl f),
  fun f g => .inl (2, 16, .inr (.inl g)),
  fun f g => .inr (1, [.int (f 0), .ref 80, .int (f 2), .ref 81, .ref 82, .ref 83]),
  fun f g => .inl (1, 144, .inl f),
  fun f g => .inl (1, 4, .inl f),
  fun f g => .inl (1, 4, .inl f),
  fun f g => .inl (1, 3, .inl f),
  fun f g => .inr (7, [.ref 85, .int (f 1), .int (f 2), .int (f 3), .ref 86, .int (f 5), .ref 87, .int (f 7)]),
  fun f g => .inl (0, 600, .inl f),
  fun f g => .inl (4, 2, .inr (.inr (va_up (va_up (fun _ => none) ((0 : Int32).toNatClampNeg) (some (88))) ((1 : Int32).toNatClampNeg) (some (93))))),
  fun f g => .inl (6, 3, .inr (.inr (va_up (va_up (va_up (fun _ => none) ((0 : Int32).toNatClampNeg) (some (98))) ((1 : Int32).toNatClampNeg) (some (102))) ((2 : Int32).toNatClampNeg) (some (106))))),
  fun f g => .inr (1, [.int (f 0), .ref 89, .int (f 2), .ref 90, .ref 91, .ref 92]),
  fun f g => .inl (1, 144, .inl f),
  fun f g => .inl (1, 4, .inl f),
  fun f g => .inl (1, 4, .inl f),
  fun f g => .inl (1, 3, .inl f),
  fun f g => .inr (1, [.int (f 0), .ref 94, .int (f 2), .ref 95, .ref 96, .ref 97]),
  fun f g => .inl (1, 144, .inl f),
  fun f g => .inl (1, 4, .inl f),
  fun f g => .inl (1, 4, .inl f),
  fun f g => .inl (1, 3, .inl f),
  fun f g => .inr (8, [.int (f 0), .ref 99, .ref 100, .ref 101]),
  fun f g => .inl (1, 12, .inl f),
  fun f g => .inl (1, 12, .inl f),
  fun f g => .inl (1, 12, .inl f),
  fun f g => .inr (8, [.int (f 0), .ref 103, .ref 104, .ref 105]),
  fun f g => .inl (1, 12, .inl f),
  fun f g => .inl (1, 12, .inl f),
  fun f g => .inl (1, 12, .inl f),
  fun f g => .inr (8, [.int (f 0), .ref 107, .ref 108, .ref 109]),
  fun f g => .inl (1, 12, .inl f),
  fun f g => .inl (1, 12, .inl f),
  fun f g => .inl (1, 12, .inl f),
  fun f g => .inr (7, [.ref 111, .int (f 1), .int (f 2), .int (f 3), .ref 112, .int (f 5), .ref 113, .int (f 7)]),
  fun f g => .inl (0, 600, .inl f),
  fun f g => .inl (4, 2, .inr (.inr (va_up (va_up (fun _ => none) ((0 : Int32).toNatClampNeg) (some (114))) ((1 : Int32).toNatClampNeg) (some (119))))),
  fun f g => .inl (6, 3, .inr (.inr (va_up (va_up (va_up (fun _ => none) ((0 : Int32).toNatClampNeg) (some (124))) ((1 : Int32).toNatClampNeg) (some (128))) ((2 : Int32).toNatClampNeg) (some (132))))),
  fun f g => .inr (1, [.int (f 0), .ref 115, .int (f 2), .ref 116, .ref 117, .ref 118]),
  fun f g => .inl (1, 144, .inl f),
  fun f g => .inl (1, 4, .inl f),
  fun f g => .inl (1, 4, .inl f),
  fun f g => .inl (1, 3, .inl f),
  fun f g => .inr (1, [.int (f 0), .ref 120, .int (f 2), .ref 121, .ref 122, .ref 123]),
  fun f g => .inl (1, 144, .inl f),
  fun f g => .inl (1, 4, .inl f),
  fun f g => .inl (1, 4, .inl f),
  fun f g => .inl (1, 3, .inl f),
  fun f g => .inr (8, [.int (f 0), .ref 125, .ref 126, .ref 127]),
  fun f g => .inl (1, 12, .inl f),
  fun f g => .inl (1, 12, .inl f),
  fun f g => .inl (1, 12, .inl f),
  fun f g => .inr (8, [.int (f 0), .ref 129, .ref 130, .ref 131]),
  fun f g => .inl (1, 12, .inl f),
  fun f g => .inl (1, 12, .inl f),
  fun f g => .inl (1, 12, .inl f),
  fun f g => .inr (8, [.int (f 0), .ref 133, .ref 134, .ref 135]),
  fun f g => .inl (1, 12, .inl f),
  fun f g => .inl (1, 12, .inl f),
  fun f g => .inl (1, 12, .inl f),
  fun f g => .inr (7, [.ref 137, .int (f 1), .int (f 2), .int (f 3), .ref 138, .int (f 5), .ref 139, .int (f 7)]),
  fun f g => .inl (0, 600, .inl f),
  fun f g => .inl (4, 2, .inr (.inr (va_up (va_up (fun _ => none) ((0 : Int32).toNatClampNeg) (some (140))) ((1 : Int32).toNatClampNeg) (some (145))))),
  fun f g => .inl (6, 3, .inr (.inr (va_up (va_up (va_up (fun _ => none) ((0 : Int32).toNatClampNeg) (some (150))) ((1 : Int32).toNatClampNeg) (some (154))) ((2 : Int32).toNatClampNeg) (some (158))))),
  fun f g => .inr (1, [.int (f 0), .ref 141, .int (f 2), .ref 142, .ref 143, .ref 144]),
  fun f g => .inl (1, 144, .inl f),
  fun f g => .inl (1, 4, .inl f),
  fun f g => .inl (1, 4, .inl f),
  fun f g => .inl (1, 3, .inl f),
  fun f g => .inr (1, [.int (f 0), .ref 146, .int (f 2), .ref 147, .ref 148, .ref 149]),
  fun f g => .inl (1, 144, .inl f),
  fun f g => .inl (1, 4, .inl f),
  fun f g => .inl (1, 4, .inl f),
  fun f g => .inl (1, 3, .inl f),
  fun f g => .inr (8, [.int (f 0), .ref 151, .ref 152, .ref 153]),
  fun f g => .inl (1, 12, .inl f),
  fun f g => .inl (1, 12, .inl f),
  fun f g => .inl (1, 12, .inl f),
  fun f g => .inr (8, [.int (f 0), .ref 155, .ref 156, .ref 157]),
  fun f g => .inl (1, 12, .inl f),
  fun f g => .inl (1, 12, .inl f),
  fun f g => .inl (1, 12, .inl f),
  fun f g => .inr (8, [.int (f 0), .ref 159, .ref 160, .ref 161]),
  fun f g => .inl (1, 12, .inl f),
  fun f g => .inl (1, 12, .inl f),
  fun f g => .inl (1, 12, .inl f),
  fun f g => .inr (11, [.int (f 0), .ref 163, .ref 164, .ref 165, .ref 166, .ref 167, .ref 168, .ref 169, .int (f 8), .int (f 9), .int (f 10), .int (f 11), .int (f 12), .long (g 13), .int (f 14), .int (f 15), .int (f 16), .int (f 17), .int (f 18), .ref 170, .ref 171, .ref 172, .int (f 22), .int (f 23), .int (f 24), .int (f 25), .int (f 26), .int (f 27), .ref 173, .ref 174, .ref 175, .int (f 31), .int (f 32), .int (f 33), .ref 176, .ref 177, .ref 178, .ref 179, .ref 180, .int (f 39), .long (g 40), .int (f 41), .ref 181]),
  fun f g => .inl (0, 2400, .inl f),
  fun f g => .inl (1, 4, .inl f),
  fun f g => .inl (1, 4, .inl f),
  fun f g => .inl (1, 4, .inl f),
  fun f g => .inl (1, 8, .inl f),
  fun f g => .inl (1, 1256, .inl f),
  fun f g => .inl (1, 444, .inl f),
  fun f g => .inl (1, 157, .inl f),
  fun f g => .inl (1, 3, .inl f),
  fun f g => .inl (1, 157, .inl f),
  fun f g => .inl (1, 9, .inl f),
  fun f g => .inl (1, 9, .inl f),
  fun f g => .inl (1, 9, .inl f),
  fun f g => .inl (2, 512, .inr (.inl g)),
  fun f g => .inl (1, 9, .inl f),
  fun f g => .inl (1, 9, .inl f),
  fun f g => .inl (1, 4, .inl f),
  fun f g => .inl (1, 4, .inl f),
  fun f g => .inl (3, 3, .inl f)]
def Wd (u : Nat → Nat → Int32) (g : Nat → Nat → Int64) (ex : List MC) : List MC := wl cells 0 u g ++ ex
def ms (u : Nat → Nat → Int32) (a i : Nat) (v : Int32) : Nat → Nat → Int32 := fun b => if b = a then upd (u a) i v else u b
def ml (g : Nat → Nat → Int64) (a i : Nat) (v : Int64) : Nat → Nat → Int64 := fun b => if b = a then vp_updL (g a) i v else g b
def mr (u : Nat → Nat → Int32) (a : Nat) (f : Nat → Int32) : Nat → Nat → Int32 := fun b => if b = a then f else u b
set_option maxRecDepth 100000 in
theorem cells_len : cells.length = 182 := rfl
theorem Wd_len {u : Nat → Nat → Int32} {g : Nat → Nat → Int64} {ex : List MC} : (Wd u g ex).length = 182 + ex.length := by
  rw [Wd, List.length_append, wl_len, cells_len]
theorem wlen {u u2 : Nat → Nat → Int32} {g g2 : Nat → Nat → Int64} {ex : List MC} : 0 + (Wd u g ex).length = (Wd u2 g2 ex).length := by rw [Wd_len, Wd_len]; omega
theorem Wd_get {u : Nat → Nat → Int32} {g : Nat → Nat → Int64} {ex : List MC} {a : Nat} {c : CF} (h : cells[a]? = some c) : (Wd u g ex)[a]? = some (c (u a) (g a)) := by
  have h1 := wl_get cells 0 a u g c h
  rw [Nat.zero_add] at h1
  rw [Wd, List.getElem?_append_left (by rw [wl_len]; exact (List.getElem?_eq_some_iff.mp h).1)]
  exact h1
theorem Wd_set {u u2 : Nat → Nat → Int32} {g g2 : Nat → Nat → Int64} {ex : List MC} {a : Nat} {c : CF} (h : cells[a]? = some c) (h1 : ∀ b, b ≠ a → u2 b = u b) (h2 : ∀ b, b ≠ a → g2 b = g b) : (Wd u g ex).set a (c (u2 a) (g2 a)) = Wd u2 g2 ex := by
  have h3 := wl_set cells 0 a u u2 g g2 c h (fun b hb => h1 b (by omega)) (fun b hb => h2 b (by omega))
  rw [Nat.zero_add] at h3
  rw [Wd, List.set_append_left _ _ (by rw [wl_len]; exact (List.getElem?_eq_some_iff.mp h).1), h3]
  rfl
section
variable {u u2 : Nat → Nat → Int32} {g g2 : Nat → Nat → Int64} {ex : List MC} {a b i j : Nat} {v : Int32} {vl : Int64} {f : Nat → Int32} {cf : CF} {c : MC}
theorem ms_c (e : u2 = ms u a i v) (h : b ≠ a) : u2 b = u b := by rw [e]; exact if_neg h
theorem ms_a (e : u2 = ms u a i v) : u2 a = upd (u a) i v := by rw [e]; exact if_pos rfl
theorem ms_e (e : u2 = ms u a i v) : u2 a i = v := by rw [ms_a e]; exact if_pos rfl
theorem ms_i (e : u2 = ms u a i v) (h : j ≠ i) : u2 a j = u a j := by rw [ms_a e]; exact if_neg h
theorem mr_c (e : u2 = mr u a f) (h : b ≠ a) : u2 b = u b := by rw [e]; exact if_neg h
theorem mr_a (e : u2 = mr u a f) : u2 a = f := by rw [e]; exact if_pos rfl
theorem ws (e : u2 = ms u a i v) (h : cells[a]? = some cf) (hc : cf (upd (u a) i v) (g a) = c) : (Wd u g ex).set a c = Wd u2 g ex := by
  rw [← hc, ← ms_a e]
  exact Wd_set h (fun b hb => ms_c e hb) (fun _ _ => rfl)
theorem wsr (e : u2 = mr u a f) (h : cells[a]? = some cf) (hc : cf f (g a) = c) : (Wd u g ex).set a c = Wd u2 g ex := by
  rw [← hc, ← mr_a e]
  exact Wd_set h (fun b hb => mr_c e hb) (fun _ _ => rfl)
theorem wsl (e : g2 = ml g a i vl) (h : cells[a]? = some cf) (hc : cf (u a) (vp_updL (g a) i vl) = c) : (Wd u g ex).set a c = Wd u g2 ex := by
  have h1 : g2 a = vp_updL (g a) i vl := by rw [e]; exact if_pos rfl
  rw [← hc, ← h1]
  exact Wd_set h (fun _ _ => rfl) (fun b hb => by rw [e]; exact if_neg hb)
end
/-! bounds -/
abbrev Bd (lo hi : Int) (v : Int32) : Prop := lo ≤ v.toInt ∧ v.toInt ≤ hi
def AB (u : Nat → Nat → Int32) (a : Nat) (lo hi : Int) : Prop := ∀ j, Bd lo hi (u a j)
def BF (u : Nat → Nat → Int32) (a : Nat) : Prop := ∀ j, fits .byte (.int (u a j)) = true
theorem bd_any (v : Int32) : Bd (-2147483648) 2147483647 v := ⟨by have := Int32.le_toInt v; omega, by have := Int32.toInt_lt v; omega⟩
theorem bd_c {lo hi : Int} {v : Int32} (h : decide (lo ≤ v.toInt ∧ v.toInt ≤ hi) = true) : Bd lo hi v := of_decide_eq_true h
theorem bd_w {a b l h : Int} {v : Int32} (p : Bd a b v) (q : l ≤ a ∧ b ≤ h) : Bd l h v := ⟨by have := p.1; omega, by have := p.2; omega⟩
theorem bd_in {a b c e l h : Int} {v : Int32} (p : Bd a b v) (q : Bd c e v) (r : (l ≤ a ∨ l ≤ c) ∧ (b ≤ h ∨ e ≤ h)) : Bd l h v := ⟨by have := p.1; have := q.1; omega, by have := p.2; have := q.2; omega⟩
theorem bd_r {l h : Int} {v w : Int32} (e : v = w) (p : Bd l h w) : Bd l h v := e ▸ p
theorem bmod {x : Int} (h1 : -2147483648 ≤ x) (h2 : x ≤ 2147483647) : x.bmod (2 ^ 32) = x := by
  rw [Int.bmod_eq_of_le] <;> omega
theorem ti_add {u v : Int32} (h1 : -2147483648 ≤ u.toInt + v.toInt) (h2 : u.toInt + v.toInt ≤ 2147483647) : (u + v).toInt = u.toInt + v.toInt := by rw [Int32.toInt_add, bmod h1 h2]
theorem ti_sub {u v : Int32} (h1 : -2147483648 ≤ u.toInt - v.toInt) (h2 : u.toInt - v.toInt ≤ 2147483647) : (u - v).toInt = u.toInt - v.toInt := by rw [Int32.toInt_sub, bmod h1 h2]
theorem bd_add {a b c e l h : Int} {u v : Int32} (p : Bd a b u) (q : Bd c e v) (r : l ≤ a + c ∧ b + e ≤ h ∧ -2147483648 ≤ l ∧ h ≤ 2147483647) : Bd l h (u + v) := by
  obtain ⟨p1, p2⟩ := p; obtain ⟨q1, q2⟩ := q; obtain ⟨r1, r2, r3, r4⟩ := r
  have := ti_add (u := u) (v := v) (by omega) (by omega)
  exact ⟨by omega, by omega⟩
theorem bd_sub {a b c e l h : Int} {u v : Int32} (p : Bd a b u) (q : Bd c e v) (r : l ≤ a - e ∧ b - c ≤ h ∧ -2147483648 ≤ l ∧ h ≤ 2147483647) : Bd l h (u - v) := by
  obtain ⟨p1, p2⟩ := p; obtain ⟨q1, q2⟩ := q; obtain ⟨r1, r2, r3, r4⟩ := r
  have := ti_sub (u := u) (v := v) (by omega) (by omega)
  exact ⟨by omega, by omega⟩
theorem bd_mul {a b c e l h : Int} {u v : Int32} (p : Bd a b u) (q : Bd c e v) (r : 0 ≤ a ∧ 0 ≤ c ∧ l ≤ a * c ∧ b * e ≤ h ∧ 0 ≤ l ∧ h ≤ 2147483647) : Bd l h (u * v) := by
  obtain ⟨p1, p2⟩ := p; obtain ⟨q1, q2⟩ := q; obtain ⟨r1, r2, r3, r4, r5, r6⟩ := r
  have h1 : a * c ≤ u.toInt * v.toInt := Int.mul_le_mul p1 q1 r2 (by omega)
  have h2 : u.toInt * v.toInt ≤ b * e := Int.mul_le_mul p2 q2 (by omega) (by omega)
  have h3 : (u * v).toInt = u.toInt * v.toInt := by rw [Int32.toInt_mul, bmod (by omega) (by omega)]
  rw [Bd, h3]
  exact ⟨by omega, by omega⟩
theorem bd_bI (b : Bool) : Bd 0 1 (bI b) := by cases b <;> decide
theorem bd_lt_hi {a b c e : Int} {u v : Int32} (p : Bd a b u) (h : u < v) (q : Bd c e v) : Bd a (e - 1) u := by
  have h1 := Int32.lt_iff_toInt_lt.mp h
  exact ⟨p.1, by have := q.2; omega⟩
theorem bd_lt_lo {a b c e : Int} {u v : Int32} (p : Bd a b v) (h : u < v) (q : Bd c e u) : Bd (c + 1) b v := by
  have h1 := Int32.lt_iff_toInt_lt.mp h
  exact ⟨by have := q.1; omega, p.2⟩
theorem bd_le_hi {a b c e : Int} {u v : Int32} (p : Bd a b u) (h : u ≤ v) (q : Bd c e v) : Bd a e u := by
  have h1 := Int32.le_iff_toInt_le.mp h
  exact ⟨p.1, by have := q.2; omega⟩
theorem bd_le_lo {a b c e : Int} {u v : Int32} (p : Bd a b v) (h : u ≤ v) (q : Bd c e u) : Bd c b v := by
  have h1 := Int32.le_iff_toInt_le.mp h
  exact ⟨by have := q.1; omega, p.2⟩
theorem bd_ne_lo {a b : Int} {u : Int32} {v : Int32} (p : Bd a b u) (h : ¬ u = v) (q : v.toInt = a) : Bd (a + 1) b u := by
  refine ⟨?_, p.2⟩
  have h1 : u.toInt ≠ a := fun e => h (Int32.toInt_inj.mp (by rw [e, q]))
  have := p.1
  omega
theorem bd_ne_hi {a b : Int} {u : Int32} {v : Int32} (p : Bd a b u) (h : ¬ u = v) (q : v.toInt = b) : Bd a (b - 1) u := by
  refine ⟨p.1, ?_⟩
  have h1 : u.toInt ≠ b := fun e => h (Int32.toInt_inj.mp (by rw [e, q]))
  have := p.2
  omega
theorem vin {i : Int32} {n : Nat} {lo hi : Int} (b : Bd lo hi i) (h : 0 ≤ lo ∧ hi < n) : vp_in i n := by
  obtain ⟨b1, b2⟩ := b
  intro q
  rcases q with q | q
  · have h1 := Int32.lt_iff_toInt_lt.mp q
    have h2 : (0 : Int32).toInt = 0 := rfl
    omega
  · have h1 : i.toNatClampNeg = i.toInt.toNat := rfl
    omega
theorem i_nlt {a b : Int32} (h : ¬ a < b) : b ≤ a := by rw [Int32.lt_iff_toInt_lt] at h; rw [Int32.le_iff_toInt_le]; omega
theorem i_nle {a b : Int32} (h : ¬ a ≤ b) : b < a := by rw [Int32.le_iff_toInt_le] at h; rw [Int32.lt_iff_toInt_lt]; omega
theorem bd_max {a b c e l h : Int} {u v : Int32} (p : Bd a b u) (q : Bd c e v) (r : (l ≤ a ∨ l ≤ c) ∧ b ≤ h ∧ e ≤ h) : Bd l h (if u < v then v else u) := by
  obtain ⟨p1, p2⟩ := p; obtain ⟨q1, q2⟩ := q; obtain ⟨r1, r2, r3⟩ := r
  by_cases z : u < v
  · rw [if_pos z]
    have h1 := Int32.lt_iff_toInt_lt.mp z
    exact ⟨by omega, by omega⟩
  · rw [if_neg z]
    have h1 := Int32.le_iff_toInt_le.mp (i_nlt z)
    exact ⟨by omega, by omega⟩
theorem bd_min {a b c e l h : Int} {u v : Int32} (p : Bd a b u) (q : Bd c e v) (r : l ≤ a ∧ l ≤ c ∧ (b ≤ h ∨ e ≤ h)) : Bd l h (if v < u then v else u) := by
  obtain ⟨p1, p2⟩ := p; obtain ⟨q1, q2⟩ := q; obtain ⟨r1, r2, r3⟩ := r
  by_cases z : v < u
  · rw [if_pos z]
    have h1 := Int32.lt_iff_toInt_lt.mp z
    exact ⟨by omega, by omega⟩
  · rw [if_neg z]
    have h1 := Int32.le_iff_toInt_le.mp (i_nlt z)
    exact ⟨by omega, by omega⟩
theorem ab_s {u u2 : Nat → Nat → Int32} {a i : Nat} {v : Int32} {lo hi : Int} (e : u2 = ms u a i v) (h : AB u a lo hi) (b : Bd lo hi v) : AB u2 a lo hi := by
  intro j
  rw [ms_a e, upd]
  by_cases q : j = i
  · rw [if_pos q]; exact b
  · rw [if_neg q]; exact h j
theorem ab_c {u u2 : Nat → Nat → Int32} {a : Nat} {lo hi : Int} (e : u2 a = u a) (h : AB u a lo hi) : AB u2 a lo hi := by intro j; rw [e]; exact h j
theorem bf_c {u u2 : Nat → Nat → Int32} {a : Nat} (e : u2 a = u a) (h : BF u a) : BF u2 a := by intro j; rw [e]; exact h j
theorem mu_up {lo hi l : Int} {i w : Int32} {n : Nat} (c : Int32) (p : Bd lo hi i) (e : w = i + c) (q : 0 < c.toInt ∧ hi + c.toInt ≤ 2147483647) (pw : Bd l hi w) (m : (hi - i.toInt).toNat < n + 1) : (hi - w.toInt).toNat < n := by
  obtain ⟨p1, p2⟩ := p
  have h0 := (bd_any i).1
  have h1 := ti_add (u := i) (v := c) (by omega) (by omega)
  have h2 := pw.2
  subst e
  omega
theorem mu_dn {lo hi h : Int} {i w : Int32} {n : Nat} (c : Int32) (p : Bd lo hi i) (e : w = i + c) (q : c.toInt < 0 ∧ -2147483648 ≤ lo + c.toInt) (pw : Bd lo h w) (m : (i.toInt - lo).toNat < n + 1) : (w.toInt - lo).toNat < n := by
  obtain ⟨p1, p2⟩ := p
  have h0 := (bd_any i).2
  have h1 := ti_add (u := i) (v := c) (by omega) (by omega)
  have h2 := pw.1
  subst e
  omega
theorem wk_0 : cells[(0 : Nat)]? = some (fun f g => .inr (10, [.ref 1, .ref 27, .ref 28, .ref 29, .ref 43, .ref 49, .ref 53, .ref 56, .ref 57, .ref 79])) := rfl
theorem wc_0 {u : Nat → Nat → Int32} {g : Nat → Nat → Int64} {ex : List MC} : (Wd u g ex)[(0 : Nat)]? = some (.inr (10, [.ref 1, .ref 27, .ref 28, .ref 29, .ref 43, .ref 49, .ref 53, .ref 56, .ref 57, .ref 79])) := Wd_get wk_0
theorem wk_1 : cells[(1 : Nat)]? = some (fun f g => .inr (7, [.ref 2, .int (f 1), .int (f 2), .int (f 3), .ref 3, .int (f 5), .ref 4, .int (f 7)])) := rfl
theorem wc_1 {u : Nat → Nat → Int32} {g : Nat → Nat → Int64} {ex : List MC} : (Wd u g ex)[(1 : Nat)]? = some (.inr (7, [.ref 2, .int (u 1 1), .int (u 1 2), .int (u 1 3), .ref 3, .int (u 1 5), .ref 4, .int (u 1 7)])) := Wd_get wk_1
theorem wk_2 : cells[(2 : Nat)]? = some (fun f g => .inl (0, 600, .inl f)) := rfl
theorem wc_2 {u : Nat → Nat → Int32} {g : Nat → Nat → Int64} {ex : List MC} : (Wd u g ex)[(2 : Nat)]? = some (.inl (0, 600, .inl (u 2))) := Wd_get wk_2
theorem wk_3 : cells[(3 : Nat)]? = some (fun f g => .inl (4, 2, .inr (.inr (va_up (va_up (fun _ => none) ((0 : Int32).toNatClampNeg) (some (5))) ((1 : Int32).toNatClampNeg) (some (10)))))) := rfl
theorem wc_3 {u : Nat → Nat → Int32} {g : Nat → Nat → Int64} {ex : List MC} : (Wd u g ex)[(3 : Nat)]? = some (.inl (4, 2, .inr (.inr (va_up (va_up (fun _ => none) ((0 : Int32).toNatClampNeg) (some (5))) ((1 : Int32).toNatClampNeg) (some (10)))))) := Wd_get wk_3
theorem wk_4 : cells[(4 : Nat)]? = some (fun f g => .inl (6, 3, .inr (.inr (va_up (va_up (va_up (fun _ => none) ((0 : Int32).toNatClampNeg) (some (15))) ((1 : Int32).toNatClampNeg) (some (19))) ((2 : Int32).toNatClampNeg) (some (23)))))) := rfl
theorem wc_4 {u : Nat → Nat → Int32} {g : Nat → Nat → Int64} {ex : List MC} : (Wd u g ex)[(4 : Nat)]? = some (.inl (6, 3, .inr (.inr (va_up (va_up (va_up (fun _ => none) ((0 : Int32).toNatClampNeg) (some (15))) ((1 : Int32).toNatClampNeg) (some (19))) ((2 : Int32).toNatClampNeg) (some (23)))))) := Wd_get wk_4
theorem wk_5 : cells[(5 : Nat)]? = some (fun f g => .inr (1, [.int (f 0), .ref 6, .int (f 2), .ref 7, .ref 8, .ref 9])) := rfl
theorem wc_5 {u : Nat → Nat → Int32} {g : Nat → Nat → Int64} {ex : List MC} : (Wd u g ex)[(5 : Nat)]? = some (.inr (1, [.int (u 5 0), .ref 6, .int (u 5 2), .ref 7, .ref 8, .ref 9])) := Wd_get wk_5
theorem wk_6 : cells[(6 : Nat)]? = some (fun f g => .inl (1, 144, .inl f)) := rfl
theorem wc_6 {u : Nat → Nat → Int32} {g : Nat → Nat → Int64} {ex : List MC} : (Wd u g ex)[(6 : Nat)]? = some (.inl (1, 144, .inl (u 6))) := Wd_get wk_6
theorem wk_7 : cells[(7 : Nat)]? = some (fun f g => .inl (1, 4, .inl f)) := rfl
theorem wc_7 {u : Nat → Nat → Int32} {g : Nat → Nat → Int64} {ex : List MC} : (Wd u g ex)[(7 : Nat)]? = some (.inl (1, 4, .inl (u 7))) := Wd_get wk_7
theorem wk_8 : cells[(8 : Nat)]? = some (fun f g => .inl (1, 4, .inl f)) := rfl
theorem wc_8 {u : Nat → Nat → Int32} {g : Nat → Nat → Int64} {ex : List MC} : (Wd u g ex)[(8 : Nat)]? = some (.inl (1, 4, .inl (u 8))) := Wd_get wk_8
theorem wk_9 : cells[(9 : Nat)]? = some (fun f g => .inl (1, 3, .inl f)) := rfl
theorem wc_9 {u : Nat → Nat → Int32} {g : Nat → Nat → Int64} {ex : List MC} : (Wd u g ex)[(9 : Nat)]? = some (.inl (1, 3, .inl (u 9))) := Wd_get wk_9
theorem wk_10 : cells[(10 : Nat)]? = some (fun f g => .inr (1, [.int (f 0), .ref 11, .int (f 2), .ref 12, .ref 13, .ref 14])) := rfl
theorem wc_10 {u : Nat → Nat → Int32} {g : Nat → Nat → Int64} {ex : List MC} : (Wd u g ex)[(10 : Nat)]? = some (.inr (1, [.int (u 10 0), .ref 11, .int (u 10 2), .ref 12, .ref 13, .ref 14])) := Wd_get wk_10
theorem wk_11 : cells[(11 : Nat)]? = some (fun f g => .inl (1, 144, .inl f)) := rfl
theorem wc_11 {u : Nat → Nat → Int32} {g : Nat → Nat → Int64} {ex : List MC} : (Wd u g ex)[(11 : Nat)]? = some (.inl (1, 144, .inl (u 11))) := Wd_get wk_11
theorem wk_12 : cells[(12 : Nat)]? = some (fun f g => .inl (1, 4, .inl f)) := rfl
theorem wc_12 {u : Nat → Nat → Int32} {g : Nat → Nat → Int64} {ex : List MC} : (Wd u g ex)[(12 : Nat)]? = some (.inl (1, 4, .inl (u 12))) := Wd_get wk_12
theorem wk_13 : cells[(13 : Nat)]? = some (fun f g => .inl (1, 4, .inl f)) := rfl
theorem wc_13 {u : Nat → Nat → Int32} {g : Nat → Nat → Int64} {ex : List MC} : (Wd u g ex)[(13 : Nat)]? = some (.inl (1, 4, .inl (u 13))) := Wd_get wk_13
theorem wk_14 : cells[(14 : Nat)]? = some (fun f g => .inl (1, 3, .inl f)) := rfl
theorem wc_14 {u : Nat → Nat → Int32} {g : Nat → Nat → Int64} {ex : List MC} : (Wd u g ex)[(14 : Nat)]? = some (.inl (1, 3, .inl (u 14))) := Wd_get wk_14
theorem wk_15 : cells[(15 : Nat)]? = some (fun f g => .inr (8, [.int (f 0), .ref 16, .ref 17, .ref 18])) := rfl
theorem wc_15 {u : Nat → Nat → Int32} {g : Nat → Nat → Int64} {ex : List MC} : (Wd u g ex)[(15 : Nat)]? = some (.inr (8, [.int (u 15 0), .ref 16, .ref 17, .ref 18])) := Wd_get wk_15
theorem wk_16 : cells[(16 : Nat)]? = some (fun f g => .inl (1, 12, .inl f)) := rfl
theorem wc_16 {u : Nat → Nat → Int32} {g : Nat → Nat → Int64} {ex : List MC} : (Wd u g ex)[(16 : Nat)]? = some (.inl (1, 12, .inl (u 16))) := Wd_get wk_16
theorem wk_17 : cells[(17 : Nat)]? = some (fun f g => .inl (1, 12, .inl f)) := rfl
theorem wc_17 {u : Nat → Nat → Int32} {g : Nat → Nat → Int64} {ex : List MC} : (Wd u g ex)[(17 : Nat)]? = some (.inl (1, 12, .inl (u 17))) := Wd_get wk_17
theorem wk_18 : cells[(18 : Nat)]? = some (fun f g => .inl (1, 12, .inl f)) := rfl
theorem wc_18 {u : Nat → Nat → Int32} {g : Nat → Nat → Int64} {ex : List MC} : (Wd u g ex)[(18 : Nat)]? = some (.inl (1, 12, .inl (u 18))) := Wd_get wk_18
theorem wk_19 : cells[(19 : Nat)]? = some (fun f g => .inr (8, [.int (f 0), .ref 20, .ref 21, .ref 22])) := rfl
theorem wc_19 {u : Nat → Nat → Int32} {g : Nat → Nat → Int64} {ex : List MC} : (Wd u g ex)[(19 : Nat)]? = some (.inr (8, [.int (u 19 0), .ref 20, .ref 21, .ref 22])) := Wd_get wk_19
theorem wk_20 : cells[(20 : Nat)]? = some (fun f g => .inl (1, 12, .inl f)) := rfl
theorem wc_20 {u : Nat → Nat → Int32} {g : Nat → Nat → Int64} {ex : List MC} : (Wd u g ex)[(20 : Nat)]? = some (.inl (1, 12, .inl (u 20))) := Wd_get wk_20
theorem wk_21 : cells[(21 : Nat)]? = some (fun f g => .inl (1, 12, .inl f)) := rfl
theorem wc_21 {u : Nat → Nat → Int32} {g : Nat → Nat → Int64} {ex : List MC} : (Wd u g ex)[(21 : Nat)]? = some (.inl (1, 12, .inl (u 21))) := Wd_get wk_21
theorem wk_22 : cells[(22 : Nat)]? = some (fun f g => .inl (1, 12, .inl f)) := rfl
theorem wc_22 {u : Nat → Nat → Int32} {g : Nat → Nat → Int64} {ex : List MC} : (Wd u g ex)[(22 : Nat)]? = some (.inl (1, 12, .inl (u 22))) := Wd_get wk_22
theorem wk_23 : cells[(23 : Nat)]? = some (fun f g => .inr (8, [.int (f 0), .ref 24, .ref 25, .ref 26])) := rfl
theorem wc_23 {u : Nat → Nat → Int32} {g : Nat → Nat → Int64} {ex : List MC} : (Wd u g ex)[(23 : Nat)]? = some (.inr (8, [.int (u 23 0), .ref 24, .ref 25, .ref 26])) := Wd_get wk_23
theorem wk_24 : cells[(24 : Nat)]? = some (fun f g => .inl (1, 12, .inl f)) := rfl
theorem wc_24 {u : Nat → Nat → Int32} {g : Nat → Nat → Int64} {ex : List MC} : (Wd u g ex)[(24 : Nat)]? = some (.inl (1, 12, .inl (u 24))) := Wd_get wk_24
theorem wk_25 : cells[(25 : Nat)]? = some (fun f g => .inl (1, 12, .inl f)) := rfl
theorem wc_25 {u : Nat → Nat → Int32} {g : Nat → Nat → Int64} {ex : List MC} : (Wd u g ex)[(25 : Nat)]? = some (.inl (1, 12, .inl (u 25))) := Wd_get wk_25
theorem wk_26 : cells[(26 : Nat)]? = some (fun f g => .inl (1, 12, .inl f)) := rfl
theorem wc_26 {u : Nat → Nat → Int32} {g : Nat → Nat → Int64} {ex : List MC} : (Wd u g ex)[(26 : Nat)]? = some (.inl (1, 12, .inl (u 26))) := Wd_get wk_26
theorem wk_27 : cells[(27 : Nat)]? = some (fun f g => .inl (5, 3, .inr (.inr (va_up (va_up (va_up (fun _ => none) ((0 : Int32).toNatClampNeg) (some (84))) ((1 : Int32).toNatClampNeg) (some (110))) ((2 : Int32).toNatClampNeg) (some (136)))))) := rfl
theorem wc_27 {u : Nat → Nat → Int32} {g : Nat → Nat → Int64} {ex : List MC} : (Wd u g ex)[(27 : Nat)]? = some (.inl (5, 3, .inr (.inr (va_up (va_up (va_up (fun _ => none) ((0 : Int32).toNatClampNeg) (some (84))) ((1 : Int32).toNatClampNeg) (some (110))) ((2 : Int32).toNatClampNeg) (some (136)))))) := Wd_get wk_27
theorem wk_28 : cells[(28 : Nat)]? = some (fun f g => .inl (3, 3, .inl f)) := rfl
theorem wc_28 {u : Nat → Nat → Int32} {g : Nat → Nat → Int64} {ex : List MC} : (Wd u g ex)[(28 : Nat)]? = some (.inl (3, 3, .inl (u 28))) := Wd_get wk_28
theorem wk_29 : cells[(29 : Nat)]? = some (fun f g => .inr (3, [.ref 30, .ref 32, .ref 37, .ref 41, .ref 42, .int (f 5), .int (f 6)])) := rfl
theorem wc_29 {u : Nat → Nat → Int32} {g : Nat → Nat → Int64} {ex : List MC} : (Wd u g ex)[(29 : Nat)]? = some (.inr (3, [.ref 30, .ref 32, .ref 37, .ref 41, .ref 42, .int (u 29 5), .int (u 29 6)])) := Wd_get wk_29
theorem wk_30 : cells[(30 : Nat)]? = some (fun f g => .inr (6, [.ref (if f 0 = 0 then 31 else 2), .int (f 1), .int (f 2), .int (f 3), .int (f 4), .int (f 5)])) := rfl
theorem wc_30 {u : Nat → Nat → Int32} {g : Nat → Nat → Int64} {ex : List MC} : (Wd u g ex)[(30 : Nat)]? = some (.inr (6, [.ref (if u 30 0 = 0 then 31 else 2), .int (u 30 1), .int (u 30 2), .int (u 30 3), .int (u 30 4), .int (u 30 5)])) := Wd_get wk_30
theorem wk_31 : cells[(31 : Nat)]? = some (fun f g => .inl (0, 0, .inl f)) := rfl
theorem wc_31 {u : Nat → Nat → Int32} {g : Nat → Nat → Int64} {ex : List MC} : (Wd u g ex)[(31 : Nat)]? = some (.inl (0, 0, .inl (u 31))) := Wd_get wk_31
theorem wk_32 : cells[(32 : Nat)]? = some (fun f g => .inr (1, [.int (f 0), .ref 33, .int (f 2), .ref 34, .ref 35, .ref 36])) := rfl
theorem wc_32 {u : Nat → Nat → Int32} {g : Nat → Nat → Int64} {ex : List MC} : (Wd u g ex)[(32 : Nat)]? = some (.inr (1, [.int (u 32 0), .ref 33, .int (u 32 2), .ref 34, .ref 35, .ref 36])) := Wd_get wk_32
theorem wk_33 : cells[(33 : Nat)]? = some (fun f g => .inl (1, 144, .inl f)) := rfl
theorem wc_33 {u : Nat → Nat → Int32} {g : Nat → Nat → Int64} {ex : List MC} : (Wd u g ex)[(33 : Nat)]? = some (.inl (1, 144, .inl (u 33))) := Wd_get wk_33
theorem wk_34 : cells[(34 : Nat)]? = some (fun f g => .inl (1, 4, .inl f)) := rfl
theorem wc_34 {u : Nat → Nat → Int32} {g : Nat → Nat → Int64} {ex : List MC} : (Wd u g ex)[(34 : Nat)]? = some (.inl (1, 4, .inl (u 34))) := Wd_get wk_34
theorem wk_35 : cells[(35 : Nat)]? = some (fun f g => .inl (1, 4, .inl f)) := rfl
theorem wc_35 {u : Nat → Nat → Int32} {g : Nat → Nat → Int64} {ex : List MC} : (Wd u g ex)[(35 : Nat)]? = some (.inl (1, 4, .inl (u 35))) := Wd_get wk_35
theorem wk_36 : cells[(36 : Nat)]? = some (fun f g => .inl (1, 3, .inl f)) := rfl
theorem wc_36 {u : Nat → Nat → Int32} {g : Nat → Nat → Int64} {ex : List MC} : (Wd u g ex)[(36 : Nat)]? = some (.inl (1, 3, .inl (u 36))) := Wd_get wk_36
theorem wk_37 : cells[(37 : Nat)]? = some (fun f g => .inr (8, [.int (f 0), .ref 38, .ref 39, .ref 40])) := rfl
theorem wc_37 {u : Nat → Nat → Int32} {g : Nat → Nat → Int64} {ex : List MC} : (Wd u g ex)[(37 : Nat)]? = some (.inr (8, [.int (u 37 0), .ref 38, .ref 39, .ref 40])) := Wd_get wk_37
theorem wk_38 : cells[(38 : Nat)]? = some (fun f g => .inl (1, 12, .inl f)) := rfl
theorem wc_38 {u : Nat → Nat → Int32} {g : Nat → Nat → Int64} {ex : List MC} : (Wd u g ex)[(38 : Nat)]? = some (.inl (1, 12, .inl (u 38))) := Wd_get wk_38
theorem wk_39 : cells[(39 : Nat)]? = some (fun f g => .inl (1, 12, .inl f)) := rfl
theorem wc_39 {u : Nat → Nat → Int32} {g : Nat → Nat → Int64} {ex : List MC} : (Wd u g ex)[(39 : Nat)]? = some (.inl (1, 12, .inl (u 39))) := Wd_get wk_39
theorem wk_40 : cells[(40 : Nat)]? = some (fun f g => .inl (1, 12, .inl f)) := rfl
theorem wc_40 {u : Nat → Nat → Int32} {g : Nat → Nat → Int64} {ex : List MC} : (Wd u g ex)[(40 : Nat)]? = some (.inl (1, 12, .inl (u 40))) := Wd_get wk_40
theorem wk_41 : cells[(41 : Nat)]? = some (fun f g => .inl (1, 3, .inl f)) := rfl
theorem wc_41 {u : Nat → Nat → Int32} {g : Nat → Nat → Int64} {ex : List MC} : (Wd u g ex)[(41 : Nat)]? = some (.inl (1, 3, .inl (u 41))) := Wd_get wk_41
theorem wk_42 : cells[(42 : Nat)]? = some (fun f g => .inl (1, 3, .inl f)) := rfl
theorem wc_42 {u : Nat → Nat → Int32} {g : Nat → Nat → Int64} {ex : List MC} : (Wd u g ex)[(42 : Nat)]? = some (.inl (1, 3, .inl (u 42))) := Wd_get wk_42
theorem wk_43 : cells[(43 : Nat)]? = some (fun f g => .inr (4, [.ref 44, .int (f 1), .int (f 2), .int (f 3)])) := rfl
theorem wc_43 {u : Nat → Nat → Int32} {g : Nat → Nat → Int64} {ex : List MC} : (Wd u g ex)[(43 : Nat)]? = some (.inr (4, [.ref 44, .int (u 43 1), .int (u 43 2), .int (u 43 3)])) := Wd_get wk_43
theorem wk_44 : cells[(44 : Nat)]? = some (fun f g => .inr (1, [.int (f 0), .ref 45, .int (f 2), .ref 46, .ref 47, .ref 48])) := rfl
theorem wc_44 {u : Nat → Nat → Int32} {g : Nat → Nat → Int64} {ex : List MC} : (Wd u g ex)[(44 : Nat)]? = some (.inr (1, [.int (u 44 0), .ref 45, .int (u 44 2), .ref 46, .ref 47, .ref 48])) := Wd_get wk_44
theorem wk_45 : cells[(45 : Nat)]? = some (fun f g => .inl (1, 144, .inl f)) := rfl
theorem wc_45 {u : Nat → Nat → Int32} {g : Nat → Nat → Int64} {ex : List MC} : (Wd u g ex)[(45 : Nat)]? = some (.inl (1, 144, .inl (u 45))) := Wd_get wk_45
theorem wk_46 : cells[(46 : Nat)]? = some (fun f g => .inl (1, 4, .inl f)) := rfl
theorem wc_46 {u : Nat → Nat → Int32} {g : Nat → Nat → Int64} {ex : List MC} : (Wd u g ex)[(46 : Nat)]? = some (.inl (1, 4, .inl (u 46))) := Wd_get wk_46
theorem wk_47 : cells[(47 : Nat)]? = some (fun f g => .inl (1, 4, .inl f)) := rfl
theorem wc_47 {u : Nat → Nat → Int32} {g : Nat → Nat → Int64} {ex : List MC} : (Wd u g ex)[(47 : Nat)]? = some (.inl (1, 4, .inl (u 47))) := Wd_get wk_47
theorem wk_48 : cells[(48 : Nat)]? = some (fun f g => .inl (1, 3, .inl f)) := rfl
theorem wc_48 {u : Nat → Nat → Int32} {g : Nat → Nat → Int64} {ex : List MC} : (Wd u g ex)[(48 : Nat)]? = some (.inl (1, 3, .inl (u 48))) := Wd_get wk_48
theorem wk_49 : cells[(49 : Nat)]? = some (fun f g => .inr (8, [.int (f 0), .ref 50, .ref 51, .ref 52])) := rfl
theorem wc_49 {u : Nat → Nat → Int32} {g : Nat → Nat → Int64} {ex : List MC} : (Wd u g ex)[(49 : Nat)]? = some (.inr (8, [.int (u 49 0), .ref 50, .ref 51, .ref 52])) := Wd_get wk_49
theorem wk_50 : cells[(50 : Nat)]? = some (fun f g => .inl (1, 12, .inl f)) := rfl
theorem wc_50 {u : Nat → Nat → Int32} {g : Nat → Nat → Int64} {ex : List MC} : (Wd u g ex)[(50 : Nat)]? = some (.inl (1, 12, .inl (u 50))) := Wd_get wk_50
theorem wk_51 : cells[(51 : Nat)]? = some (fun f g => .inl (1, 12, .inl f)) := rfl
theorem wc_51 {u : Nat → Nat → Int32} {g : Nat → Nat → Int64} {ex : List MC} : (Wd u g ex)[(51 : Nat)]? = some (.inl (1, 12, .inl (u 51))) := Wd_get wk_51
theorem wk_52 : cells[(52 : Nat)]? = some (fun f g => .inl (1, 12, .inl f)) := rfl
theorem wc_52 {u : Nat → Nat → Int32} {g : Nat → Nat → Int64} {ex : List MC} : (Wd u g ex)[(52 : Nat)]? = some (.inl (1, 12, .inl (u 52))) := Wd_get wk_52
theorem wk_53 : cells[(53 : Nat)]? = some (fun f g => .inr (5, [.int (f 0), .int (f 1), .int (f 2), .int (f 3), .int (f 4), .ref 54, .ref 55])) := rfl
theorem wc_53 {u : Nat → Nat → Int32} {g : Nat → Nat → Int64} {ex : List MC} : (Wd u g ex)[(53 : Nat)]? = some (.inr (5, [.int (u 53 0), .int (u 53 1), .int (u 53 2), .int (u 53 3), .int (u 53 4), .ref 54, .ref 55])) := Wd_get wk_53
theorem wk_54 : cells[(54 : Nat)]? = some (fun f g => .inl (1, 9, .inl f)) := rfl
theorem wc_54 {u : Nat → Nat → Int32} {g : Nat → Nat → Int64} {ex : List MC} : (Wd u g ex)[(54 : Nat)]? = some (.inl (1, 9, .inl (u 54))) := Wd_get wk_54
theorem wk_55 : cells[(55 : Nat)]? = some (fun f g => .inl (1, 9, .inl f)) := rfl
theorem wc_55 {u : Nat → Nat → Int32} {g : Nat → Nat → Int64} {ex : List MC} : (Wd u g ex)[(55 : Nat)]? = some (.inl (1, 9, .inl (u 55))) := Wd_get wk_55
theorem wk_56 : cells[(56 : Nat)]? = some (fun f g => .inr (0, [.ref 57, .ref 70, .int (f 2), .int (f 3), .long (g 4), .int (f 5), .ref 75, .ref 76, .ref 77, .ref 78])) := rfl
theorem wc_56 {u : Nat → Nat → Int32} {g : Nat → Nat → Int64} {ex : List MC} : (Wd u g ex)[(56 : Nat)]? = some (.inr (0, [.ref 57, .ref 70, .int (u 56 2), .int (u 56 3), .long (g 56 4), .int (u 56 5), .ref 75, .ref 76, .ref 77, .ref 78])) := Wd_get wk_56
theorem wk_57 : cells[(57 : Nat)]? = some (fun f g => .inr (2, [.ref 58, .ref 61, .ref 66, .ref 67, .ref 68, .ref 69])) := rfl
theorem wc_57 {u : Nat → Nat → Int32} {g : Nat → Nat → Int64} {ex : List MC} : (Wd u g ex)[(57 : Nat)]? = some (.inr (2, [.ref 58, .ref 61, .ref 66, .ref 67, .ref 68, .ref 69])) := Wd_get wk_57
theorem wk_58 : cells[(58 : Nat)]? = some (fun f g => .inr (5, [.int (f 0), .int (f 1), .int (f 2), .int (f 3), .int (f 4), .ref 59, .ref 60])) := rfl
theorem wc_58 {u : Nat → Nat → Int32} {g : Nat → Nat → Int64} {ex : List MC} : (Wd u g ex)[(58 : Nat)]? = some (.inr (5, [.int (u 58 0), .int (u 58 1), .int (u 58 2), .int (u 58 3), .int (u 58 4), .ref 59, .ref 60])) := Wd_get wk_58
theorem wk_59 : cells[(59 : Nat)]? = some (fun f g => .inl (1, 9, .inl f)) := rfl
theorem wc_59 {u : Nat → Nat → Int32} {g : Nat → Nat → Int64} {ex : List MC} : (Wd u g ex)[(59 : Nat)]? = some (.inl (1, 9, .inl (u 59))) := Wd_get wk_59
theorem wk_60 : cells[(60 : Nat)]? = some (fun f g => .inl (1, 9, .inl f)) := rfl
theorem wc_60 {u : Nat → Nat → Int32} {g : Nat → Nat → Int64} {ex : List MC} : (Wd u g ex)[(60 : Nat)]? = some (.inl (1, 9, .inl (u 60))) := Wd_get wk_60
theorem wk_61 : cells[(61 : Nat)]? = some (fun f g => .inr (1, [.int (f 0), .ref 62, .int (f 2), .ref 63, .ref 64, .ref 65])) := rfl
theorem wc_61 {u : Nat → Nat → Int32} {g : Nat → Nat → Int64} {ex : List MC} : (Wd u g ex)[(61 : Nat)]? = some (.inr (1, [.int (u 61 0), .ref 62, .int (u 61 2), .ref 63, .ref 64, .ref 65])) := Wd_get wk_61
theorem wk_62 : cells[(62 : Nat)]? = some (fun f g => .inl (1, 144, .inl f)) := rfl
theorem wc_62 {u : Nat → Nat → Int32} {g : Nat → Nat → Int64} {ex : List MC} : (Wd u g ex)[(62 : Nat)]? = some (.inl (1, 144, .inl (u 62))) := Wd_get wk_62
theorem wk_63 : cells[(63 : Nat)]? = some (fun f g => .inl (1, 4, .inl f)) := rfl
theorem wc_63 {u : Nat → Nat → Int32} {g : Nat → Nat → Int64} {ex : List MC} : (Wd u g ex)[(63 : Nat)]? = some (.inl (1, 4, .inl (u 63))) := Wd_get wk_63
theorem wk_64 : cells[(64 : Nat)]? = some (fun f g => .inl (1, 4, .inl f)) := rfl
theorem wc_64 {u : Nat → Nat → Int32} {g : Nat → Nat → Int64} {ex : List MC} : (Wd u g ex)[(64 : Nat)]? = some (.inl (1, 4, .inl (u 64))) := Wd_get wk_64
theorem wk_65 : cells[(65 : Nat)]? = some (fun f g => .inl (1, 3, .inl f)) := rfl
theorem wc_65 {u : Nat → Nat → Int32} {g : Nat → Nat → Int64} {ex : List MC} : (Wd u g ex)[(65 : Nat)]? = some (.inl (1, 3, .inl (u 65))) := Wd_get wk_65
theorem wk_66 : cells[(66 : Nat)]? = some (fun f g => .inl (1, 2048, .inl f)) := rfl
theorem wc_66 {u : Nat → Nat → Int32} {g : Nat → Nat → Int64} {ex : List MC} : (Wd u g ex)[(66 : Nat)]? = some (.inl (1, 2048, .inl (u 66))) := Wd_get wk_66
theorem wk_67 : cells[(67 : Nat)]? = some (fun f g => .inl (1, 512, .inl f)) := rfl
theorem wc_67 {u : Nat → Nat → Int32} {g : Nat → Nat → Int64} {ex : List MC} : (Wd u g ex)[(67 : Nat)]? = some (.inl (1, 512, .inl (u 67))) := Wd_get wk_67
theorem wk_68 : cells[(68 : Nat)]? = some (fun f g => .inl (2, 512, .inr (.inl g))) := rfl
theorem wc_68 {u : Nat → Nat → Int32} {g : Nat → Nat → Int64} {ex : List MC} : (Wd u g ex)[(68 : Nat)]? = some (.inl (2, 512, .inr (.inl (g 68)))) := Wd_get wk_68
theorem wk_69 : cells[(69 : Nat)]? = some (fun f g => .inl (2, 512, .inr (.inl g))) := rfl
theorem wc_69 {u : Nat → Nat → Int32} {g : Nat → Nat → Int64} {ex : List MC} : (Wd u g ex)[(69 : Nat)]? = some (.inl (2, 512, .inr (.inl (g 69)))) := Wd_get wk_69
theorem wk_70 : cells[(70 : Nat)]? = some (fun f g => .inr (1, [.int (f 0), .ref 71, .int (f 2), .ref 72, .ref 73, .ref 74])) := rfl
theorem wc_70 {u : Nat → Nat → Int32} {g : Nat → Nat → Int64} {ex : List MC} : (Wd u g ex)[(70 : Nat)]? = some (.inr (1, [.int (u 70 0), .ref 71, .int (u 70 2), .ref 72, .ref 73, .ref 74])) := Wd_get wk_70
theorem wk_71 : cells[(71 : Nat)]? = some (fun f g => .inl (1, 144, .inl f)) := rfl
theorem wc_71 {u : Nat → Nat → Int32} {g : Nat → Nat → Int64} {ex : List MC} : (Wd u g ex)[(71 : Nat)]? = some (.inl (1, 144, .inl (u 71))) := Wd_get wk_71
theorem wk_72 : cells[(72 : Nat)]? = some (fun f g => .inl (1, 4, .inl f)) := rfl
theorem wc_72 {u : Nat → Nat → Int32} {g : Nat → Nat → Int64} {ex : List MC} : (Wd u g ex)[(72 : Nat)]? = some (.inl (1, 4, .inl (u 72))) := Wd_get wk_72
theorem wk_73 : cells[(73 : Nat)]? = some (fun f g => .inl (1, 4, .inl f)) := rfl
theorem wc_73 {u : Nat → Nat → Int32} {g : Nat → Nat → Int64} {ex : List MC} : (Wd u g ex)[(73 : Nat)]? = some (.inl (1, 4, .inl (u 73))) := Wd_get wk_73
theorem wk_74 : cells[(74 : Nat)]? = some (fun f g => .inl (1, 3, .inl f)) := rfl
theorem wc_74 {u : Nat → Nat → Int32} {g : Nat → Nat → Int64} {ex : List MC} : (Wd u g ex)[(74 : Nat)]? = some (.inl (1, 3, .inl (u 74))) := Wd_get wk_74
theorem wk_75 : cells[(75 : Nat)]? = some (fun f g => .inl (1, 4, .inl f)) := rfl
theorem wc_75 {u : Nat → Nat → Int32} {g : Nat → Nat → Int64} {ex : List MC} : (Wd u g ex)[(75 : Nat)]? = some (.inl (1, 4, .inl (u 75))) := Wd_get wk_75
theorem wk_76 : cells[(76 : Nat)]? = some (fun f g => .inl (1, 4, .inl f)) := rfl
theorem wc_76 {u : Nat → Nat → Int32} {g : Nat → Nat → Int64} {ex : List MC} : (Wd u g ex)[(76 : Nat)]? = some (.inl (1, 4, .inl (u 76))) := Wd_get wk_76
theorem wk_77 : cells[(77 : Nat)]? = some (fun f g => .inl (1, 4, .inl f)) := rfl
theorem wc_77 {u : Nat → Nat → Int32} {g : Nat → Nat → Int64} {ex : List MC} : (Wd u g ex)[(77 : Nat)]? = some (.inl (1, 4, .inl (u 77))) := Wd_get wk_77
theorem wk_78 : cells[(78 : Nat)]? = some (fun f g => .inl (2, 16, .inr (.inl g))) := rfl
theorem wc_78 {u : Nat → Nat → Int32} {g : Nat → Nat → Int64} {ex : List MC} : (Wd u g ex)[(78 : Nat)]? = some (.inl (2, 16, .inr (.inl (g 78)))) := Wd_get wk_78
theorem wk_79 : cells[(79 : Nat)]? = some (fun f g => .inr (1, [.int (f 0), .ref 80, .int (f 2), .ref 81, .ref 82, .ref 83])) := rfl
theorem wc_79 {u : Nat → Nat → Int32} {g : Nat → Nat → Int64} {ex : List MC} : (Wd u g ex)[(79 : Nat)]? = some (.inr (1, [.int (u 79 0), .ref 80, .int (u 79 2), .ref 81, .ref 82, .ref 83])) := Wd_get wk_79
theorem wk_80 : cells[(80 : Nat)]? = some (fun f g => .inl (1, 144, .inl f)) := rfl
theorem wc_80 {u : Nat → Nat → Int32} {g : Nat → Nat → Int64} {ex : List MC} : (Wd u g ex)[(80 : Nat)]? = some (.inl (1, 144, .inl (u 80))) := Wd_get wk_80
theorem wk_81 : cells[(81 : Nat)]? = some (fun f g => .inl (1, 4, .inl f)) := rfl
theorem wc_81 {u : Nat → Nat → Int32} {g : Nat → Nat → Int64} {ex : List MC} : (Wd u g ex)[(81 : Nat)]? = some (.inl (1, 4, .inl (u 81))) := Wd_get wk_81
theorem wk_82 : cells[(82 : Nat)]? = some (fun f g => .inl (1, 4, .inl f)) := rfl
theorem wc_82 {u : Nat → Nat → Int32} {g : Nat → Nat → Int64} {ex : List MC} : (Wd u g ex)[(82 : Nat)]? = some (.inl (1, 4, .inl (u 82))) := Wd_get wk_82
theorem wk_83 : cells[(83 : Nat)]? = some (fun f g => .inl (1, 3, .inl f)) := rfl
theorem wc_83 {u : Nat → Nat → Int32} {g : Nat → Nat → Int64} {ex : List MC} : (Wd u g ex)[(83 : Nat)]? = some (.inl (1, 3, .inl (u 83))) := Wd_get wk_83
theorem wk_84 : cells[(84 : Nat)]? = some (fun f g => .inr (7, [.ref 85, .int (f 1), .int (f 2), .int (f 3), .ref 86, .int (f 5), .ref 87, .int (f 7)])) := rfl
theorem wc_84 {u : Nat → Nat → Int32} {g : Nat → Nat → Int64} {ex : List MC} : (Wd u g ex)[(84 : Nat)]? = some (.inr (7, [.ref 85, .int (u 84 1), .int (u 84 2), .int (u 84 3), .ref 86, .int (u 84 5), .ref 87, .int (u 84 7)])) := Wd_get wk_84
theorem wk_85 : cells[(85 : Nat)]? = some (fun f g => .inl (0, 600, .inl f)) := rfl
theorem wc_85 {u : Nat → Nat → Int32} {g : Nat → Nat → Int64} {ex : List MC} : (Wd u g ex)[(85 : Nat)]? = some (.inl (0, 600, .inl (u 85))) := Wd_get wk_85
theorem wk_86 : cells[(86 : Nat)]? = some (fun f g => .inl (4, 2, .inr (.inr (va_up (va_up (fun _ => none) ((0 : Int32).toNatClampNeg) (some (88))) ((1 : Int32).toNatClampNeg) (some (93)))))) := rfl
theorem wc_86 {u : Nat → Nat → Int32} {g : Nat → Nat → Int64} {ex : List MC} : (Wd u g ex)[(86 : Nat)]? = some (.inl (4, 2, .inr (.inr (va_up (va_up (fun _ => none) ((0 : Int32).toNatClampNeg) (some (88))) ((1 : Int32).toNatClampNeg) (some (93)))))) := Wd_get wk_86
theorem wk_87 : cells[(87 : Nat)]? = some (fun f g => .inl (6, 3, .inr (.inr (va_up (va_up (va_up (fun _ => none) ((0 : Int32).toNatClampNeg) (some (98))) ((1 : Int32).toNatClampNeg) (some (102))) ((2 : Int32).toNatClampNeg) (some (106)))))) := rfl
theorem wc_87 {u : Nat → Nat → Int32} {g : Nat → Nat → Int64} {ex : List MC} : (Wd u g ex)[(87 : Nat)]? = some (.inl (6, 3, .inr (.inr (va_up (va_up (va_up (fun _ => none) ((0 : Int32).toNatClampNeg) (some (98))) ((1 : Int32).toNatClampNeg) (some (102))) ((2 : Int32).toNatClampNeg) (some (106)))))) := Wd_get wk_87
theorem wk_88 : cells[(88 : Nat)]? = some (fun f g => .inr (1, [.int (f 0), .ref 89, .int (f 2), .ref 90, .ref 91, .ref 92])) := rfl
theorem wc_88 {u : Nat → Nat → Int32} {g : Nat → Nat → Int64} {ex : List MC} : (Wd u g ex)[(88 : Nat)]? = some (.inr (1, [.int (u 88 0), .ref 89, .int (u 88 2), .ref 90, .ref 91, .ref 92])) := Wd_get wk_88
theorem wk_89 : cells[(89 : Nat)]? = some (fun f g => .inl (1, 144, .inl f)) := rfl
theorem wc_89 {u : Nat → Nat → Int32} {g : Nat → Nat → Int64} {ex : List MC} : (Wd u g ex)[(89 : Nat)]? = some (.inl (1, 144, .inl (u 89))) := Wd_get wk_89
theorem wk_90 : cells[(90 : Nat)]? = some (fun f g => .inl (1, 4, .inl f)) := rfl
theorem wc_90 {u : Nat → Nat → Int32} {g : Nat → Nat → Int64} {ex : List MC} : (Wd u g ex)[(90 : Nat)]? = some (.inl (1, 4, .inl (u 90))) := Wd_get wk_90
theorem wk_91 : cells[(91 : Nat)]? = some (fun f g => .inl (1, 4, .inl f)) := rfl
theorem wc_91 {u : Nat → Nat → Int32} {g : Nat → Nat → Int64} {ex : List MC} : (Wd u g ex)[(91 : Nat)]? = some (.inl (1, 4, .inl (u 91))) := Wd_get wk_91
theorem wk_92 : cells[(92 : Nat)]? = some (fun f g => .inl (1, 3, .inl f)) := rfl
theorem wc_92 {u : Nat → Nat → Int32} {g : Nat → Nat → Int64} {ex : List MC} : (Wd u g ex)[(92 : Nat)]? = some (.inl (1, 3, .inl (u 92))) := Wd_get wk_92
theorem wk_93 : cells[(93 : Nat)]? = some (fun f g => .inr (1, [.int (f 0), .ref 94, .int (f 2), .ref 95, .ref 96, .ref 97])) := rfl
theorem wc_93 {u : Nat → Nat → Int32} {g : Nat → Nat → Int64} {ex : List MC} : (Wd u g ex)[(93 : Nat)]? = some (.inr (1, [.int (u 93 0), .ref 94, .int (u 93 2), .ref 95, .ref 96, .ref 97])) := Wd_get wk_93
theorem wk_94 : cells[(94 : Nat)]? = some (fun f g => .inl (1, 144, .inl f)) := rfl
theorem wc_94 {u : Nat → Nat → Int32} {g : Nat → Nat → Int64} {ex : List MC} : (Wd u g ex)[(94 : Nat)]? = some (.inl (1, 144, .inl (u 94))) := Wd_get wk_94
theorem wk_95 : cells[(95 : Nat)]? = some (fun f g => .inl (1, 4, .inl f)) := rfl
theorem wc_95 {u : Nat → Nat → Int32} {g : Nat → Nat → Int64} {ex : List MC} : (Wd u g ex)[(95 : Nat)]? = some (.inl (1, 4, .inl (u 95))) := Wd_get wk_95
theorem wk_96 : cells[(96 : Nat)]? = some (fun f g => .inl (1, 4, .inl f)) := rfl
theorem wc_96 {u : Nat → Nat → Int32} {g : Nat → Nat → Int64} {ex : List MC} : (Wd u g ex)[(96 : Nat)]? = some (.inl (1, 4, .inl (u 96))) := Wd_get wk_96
theorem wk_97 : cells[(97 : Nat)]? = some (fun f g => .inl (1, 3, .inl f)) := rfl
theorem wc_97 {u : Nat → Nat → Int32} {g : Nat → Nat → Int64} {ex : List MC} : (Wd u g ex)[(97 : Nat)]? = some (.inl (1, 3, .inl (u 97))) := Wd_get wk_97
theorem wk_98 : cells[(98 : Nat)]? = some (fun f g => .inr (8, [.int (f 0), .ref 99, .ref 100, .ref 101])) := rfl
theorem wc_98 {u : Nat → Nat → Int32} {g : Nat → Nat → Int64} {ex : List MC} : (Wd u g ex)[(98 : Nat)]? = some (.inr (8, [.int (u 98 0), .ref 99, .ref 100, .ref 101])) := Wd_get wk_98
theorem wk_99 : cells[(99 : Nat)]? = some (fun f g => .inl (1, 12, .inl f)) := rfl
theorem wc_99 {u : Nat → Nat → Int32} {g : Nat → Nat → Int64} {ex : List MC} : (Wd u g ex)[(99 : Nat)]? = some (.inl (1, 12, .inl (u 99))) := Wd_get wk_99
theorem wk_100 : cells[(100 : Nat)]? = some (fun f g => .inl (1, 12, .inl f)) := rfl
theorem wc_100 {u : Nat → Nat → Int32} {g : Nat → Nat → Int64} {ex : List MC} : (Wd u g ex)[(100 : Nat)]? = some (.inl (1, 12, .inl (u 100))) := Wd_get wk_100
theorem wk_101 : cells[(101 : Nat)]? = some (fun f g => .inl (1, 12, .inl f)) := rfl
theorem wc_101 {u : Nat → Nat → Int32} {g : Nat → Nat → Int64} {ex : List MC} : (Wd u g ex)[(101 : Nat)]? = some (.inl (1, 12, .inl (u 101))) := Wd_get wk_101
theorem wk_102 : cells[(102 : Nat)]? = some (fun f g => .inr (8, [.int (f 0), .ref 103, .ref 104, .ref 105])) := rfl
theorem wc_102 {u : Nat → Nat → Int32} {g : Nat → Nat → Int64} {ex : List MC} : (Wd u g ex)[(102 : Nat)]? = some (.inr (8, [.int (u 102 0), .ref 103, .ref 104, .ref 105])) := Wd_get wk_102
theorem wk_103 : cells[(103 : Nat)]? = some (fun f g => .inl (1, 12, .inl f)) := rfl
theorem wc_103 {u : Nat → Nat → Int32} {g : Nat → Nat → Int64} {ex : List MC} : (Wd u g ex)[(103 : Nat)]? = some (.inl (1, 12, .inl (u 103))) := Wd_get wk_103
theorem wk_104 : cells[(104 : Nat)]? = some (fun f g => .inl (1, 12, .inl f)) := rfl
theorem wc_104 {u : Nat → Nat → Int32} {g : Nat → Nat → Int64} {ex : List MC} : (Wd u g ex)[(104 : Nat)]? = some (.inl (1, 12, .inl (u 104))) := Wd_get wk_104
theorem wk_105 : cells[(105 : Nat)]? = some (fun f g => .inl (1, 12, .inl f)) := rfl
theorem wc_105 {u : Nat → Nat → Int32} {g : Nat → Nat → Int64} {ex : List MC} : (Wd u g ex)[(105 : Nat)]? = some (.inl (1, 12, .inl (u 105))) := Wd_get wk_105
theorem wk_106 : cells[(106 : Nat)]? = some (fun f g => .inr (8, [.int (f 0), .ref 107, .ref 108, .ref 109])) := rfl
theorem wc_106 {u : Nat → Nat → Int32} {g : Nat → Nat → Int64} {ex : List MC} : (Wd u g ex)[(106 : Nat)]? = some (.inr (8, [.int (u 106 0), .ref 107, .ref 108, .ref 109])) := Wd_get wk_106
theorem wk_107 : cells[(107 : Nat)]? = some (fun f g => .inl (1, 12, .inl f)) := rfl
theorem wc_107 {u : Nat → Nat → Int32} {g : Nat → Nat → Int64} {ex : List MC} : (Wd u g ex)[(107 : Nat)]? = some (.inl (1, 12, .inl (u 107))) := Wd_get wk_107
theorem wk_108 : cells[(108 : Nat)]? = some (fun f g => .inl (1, 12, .inl f)) := rfl
theorem wc_108 {u : Nat → Nat → Int32} {g : Nat → Nat → Int64} {ex : List MC} : (Wd u g ex)[(108 : Nat)]? = some (.inl (1, 12, .inl (u 108))) := Wd_get wk_108
theorem wk_109 : cells[(109 : Nat)]? = some (fun f g => .inl (1, 12, .inl f)) := rfl
theorem wc_109 {u : Nat → Nat → Int32} {g : Nat → Nat → Int64} {ex : List MC} : (Wd u g ex)[(109 : Nat)]? = some (.inl (1, 12, .inl (u 109))) := Wd_get wk_109
theorem wk_110 : cells[(110 : Nat)]? = some (fun f g => .inr (7, [.ref 111, .int (f 1), .int (f 2), .int (f 3), .ref 112, .int (f 5), .ref 113, .int (f 7)])) := rfl
theorem wc_110 {u : Nat → Nat → Int32} {g : Nat → Nat → Int64} {ex : List MC} : (Wd u g ex)[(110 : Nat)]? = some (.inr (7, [.ref 111, .int (u 110 1), .int (u 110 2), .int (u 110 3), .ref 112, .int (u 110 5), .ref 113, .int (u 110 7)])) := Wd_get wk_110
theorem wk_111 : cells[(111 : Nat)]? = some (fun f g => .inl (0, 600, .inl f)) := rfl
theorem wc_111 {u : Nat → Nat → Int32} {g : Nat → Nat → Int64} {ex : List MC} : (Wd u g ex)[(111 : Nat)]? = some (.inl (0, 600, .inl (u 111))) := Wd_get wk_111
theorem wk_112 : cells[(112 : Nat)]? = some (fun f g => .inl (4, 2, .inr (.inr (va_up (va_up (fun _ => none) ((0 : Int32).toNatClampNeg) (some (114))) ((1 : Int32).toNatClampNeg) (some (119)))))) := rfl
theorem wc_112 {u : Nat → Nat → Int32} {g : Nat → Nat → Int64} {ex : List MC} : (Wd u g ex)[(112 : Nat)]? = some (.inl (4, 2, .inr (.inr (va_up (va_up (fun _ => none) ((0 : Int32).toNatClampNeg) (some (114))) ((1 : Int32).toNatClampNeg) (some (119)))))) := Wd_get wk_112
theorem wk_113 : cells[(113 : Nat)]? = some (fun f g => .inl (6, 3, .inr (.inr (va_up (va_up (va_up (fun _ => none) ((0 : Int32).toNatClampNeg) (some (124))) ((1 : Int32).toNatClampNeg) (some (128))) ((2 : Int32).toNatClampNeg) (some (132)))))) := rfl
theorem wc_113 {u : Nat → Nat → Int32} {g : Nat → Nat → Int64} {ex : List MC} : (Wd u g ex)[(113 : Nat)]? = some (.inl (6, 3, .inr (.inr (va_up (va_up (va_up (fun _ => none) ((0 : Int32).toNatClampNeg) (some (124))) ((1 : Int32).toNatClampNeg) (some (128))) ((2 : Int32).toNatClampNeg) (some (132)))))) := Wd_get wk_113
theorem wk_114 : cells[(114 : Nat)]? = some (fun f g => .inr (1, [.int (f 0), .ref 115, .int (f 2), .ref 116, .ref 117, .ref 118])) := rfl
theorem wc_114 {u : Nat → Nat → Int32} {g : Nat → Nat → Int64} {ex : List MC} : (Wd u g ex)[(114 : Nat)]? = some (.inr (1, [.int (u 114 0), .ref 115, .int (u 114 2), .ref 116, .ref 117, .ref 118])) := Wd_get wk_114
theorem wk_115 : cells[(115 : Nat)]? = some (fun f g => .inl (1, 144, .inl f)) := rfl
theorem wc_115 {u : Nat → Nat → Int32} {g : Nat → Nat → Int64} {ex : List MC} : (Wd u g ex)[(115 : Nat)]? = some (.inl (1, 144, .inl (u 115))) := Wd_get wk_115
theorem wk_116 : cells[(116 : Nat)]? = some (fun f g => .inl (1, 4, .inl f)) := rfl
theorem wc_116 {u : Nat → Nat → Int32} {g : Nat → Nat → Int64} {ex : List MC} : (Wd u g ex)[(116 : Nat)]? = some (.inl (1, 4, .inl (u 116))) := Wd_get wk_116
theorem wk_117 : cells[(117 : Nat)]? = some (fun f g => .inl (1, 4, .inl f)) := rfl
theorem wc_117 {u : Nat → Nat → Int32} {g : Nat → Nat → Int64} {ex : List MC} : (Wd u g ex)[(117 : Nat)]? = some (.inl (1, 4, .inl (u 117))) := Wd_get wk_117
theorem wk_118 : cells[(118 : Nat)]? = some (fun f g => .inl (1, 3, .inl f)) := rfl
theorem wc_118 {u : Nat → Nat → Int32} {g : Nat → Nat → Int64} {ex : List MC} : (Wd u g ex)[(118 : Nat)]? = some (.inl (1, 3, .inl (u 118))) := Wd_get wk_118
theorem wk_119 : cells[(119 : Nat)]? = some (fun f g => .inr (1, [.int (f 0), .ref 120, .int (f 2), .ref 121, .ref 122, .ref 123])) := rfl
theorem wc_119 {u : Nat → Nat → Int32} {g : Nat → Nat → Int64} {ex : List MC} : (Wd u g ex)[(119 : Nat)]? = some (.inr (1, [.int (u 119 0), .ref 120, .int (u 119 2), .ref 121, .ref 122, .ref 123])) := Wd_get wk_119
theorem wk_120 : cells[(120 : Nat)]? = some (fun f g => .inl (1, 144, .inl f)) := rfl
theorem wc_120 {u : Nat → Nat → Int32} {g : Nat → Nat → Int64} {ex : List MC} : (Wd u g ex)[(120 : Nat)]? = some (.inl (1, 144, .inl (u 120))) := Wd_get wk_120
theorem wk_121 : cells[(121 : Nat)]? = some (fun f g => .inl (1, 4, .inl f)) := rfl
theorem wc_121 {u : Nat → Nat → Int32} {g : Nat → Nat → Int64} {ex : List MC} : (Wd u g ex)[(121 : Nat)]? = some (.inl (1, 4, .inl (u 121))) := Wd_get wk_121
theorem wk_122 : cells[(122 : Nat)]? = some (fun f g => .inl (1, 4, .inl f)) := rfl
theorem wc_122 {u : Nat → Nat → Int32} {g : Nat → Nat → Int64} {ex : List MC} : (Wd u g ex)[(122 : Nat)]? = some (.inl (1, 4, .inl (u 122))) := Wd_get wk_122
theorem wk_123 : cells[(123 : Nat)]? = some (fun f g => .inl (1, 3, .inl f)) := rfl
theorem wc_123 {u : Nat → Nat → Int32} {g : Nat → Nat → Int64} {ex : List MC} : (Wd u g ex)[(123 : Nat)]? = some (.inl (1, 3, .inl (u 123))) := Wd_get wk_123
theorem wk_124 : cells[(124 : Nat)]? = some (fun f g => .inr (8, [.int (f 0), .ref 125, .ref 126, .ref 127])) := rfl
theorem wc_124 {u : Nat → Nat → Int32} {g : Nat → Nat → Int64} {ex : List MC} : (Wd u g ex)[(124 : Nat)]? = some (.inr (8, [.int (u 124 0), .ref 125, .ref 126, .ref 127])) := Wd_get wk_124
theorem wk_125 : cells[(125 : Nat)]? = some (fun f g => .inl (1, 12, .inl f)) := rfl
theorem wc_125 {u : Nat → Nat → Int32} {g : Nat → Nat → Int64} {ex : List MC} : (Wd u g ex)[(125 : Nat)]? = some (.inl (1, 12, .inl (u 125))) := Wd_get wk_125
theorem wk_126 : cells[(126 : Nat)]? = some (fun f g => .inl (1, 12, .inl f)) := rfl
theorem wc_126 {u : Nat → Nat → Int32} {g : Nat → Nat → Int64} {ex : List MC} : (Wd u g ex)[(126 : Nat)]? = some (.inl (1, 12, .inl (u 126))) := Wd_get wk_126
theorem wk_127 : cells[(127 : Nat)]? = some (fun f g => .inl (1, 12, .inl f)) := rfl
theorem wc_127 {u : Nat → Nat → Int32} {g : Nat → Nat → Int64} {ex : List MC} : (Wd u g ex)[(127 : Nat)]? = some (.inl (1, 12, .inl (u 127))) := Wd_get wk_127
theorem wk_128 : cells[(128 : Nat)]? = some (fun f g => .inr (8, [.int (f 0), .ref 129, .ref 130, .ref 131])) := rfl
theorem wc_128 {u : Nat → Nat → Int32} {g : Nat → Nat → Int64} {ex : List MC} : (Wd u g ex)[(128 : Nat)]? = some (.inr (8, [.int (u 128 0), .ref 129, .ref 130, .ref 131])) := Wd_get wk_128
theorem wk_129 : cells[(129 : Nat)]? = some (fun f g => .inl (1, 12, .inl f)) := rfl
theorem wc_129 {u : Nat → Nat → Int32} {g : Nat → Nat → Int64} {ex : List MC} : (Wd u g ex)[(129 : Nat)]? = some (.inl (1, 12, .inl (u 129))) := Wd_get wk_129
theorem wk_130 : cells[(130 : Nat)]? = some (fun f g => .inl (1, 12, .inl f)) := rfl
theorem wc_130 {u : Nat → Nat → Int32} {g : Nat → Nat → Int64} {ex : List MC} : (Wd u g ex)[(130 : Nat)]? = some (.inl (1, 12, .inl (u 130))) := Wd_get wk_130
theorem wk_131 : cells[(131 : Nat)]? = some (fun f g => .inl (1, 12, .inl f)) := rfl
theorem wc_131 {u : Nat → Nat → Int32} {g : Nat → Nat → Int64} {ex : List MC} : (Wd u g ex)[(131 : Nat)]? = some (.inl (1, 12, .inl (u 131))) := Wd_get wk_131
theorem wk_132 : cells[(132 : Nat)]? = some (fun f g => .inr (8, [.int (f 0), .ref 133, .ref 134, .ref 135])) := rfl
theorem wc_132 {u : Nat → Nat → Int32} {g : Nat → Nat → Int64} {ex : List MC} : (Wd u g ex)[(132 : Nat)]? = some (.inr (8, [.int (u 132 0), .ref 133, .ref 134, .ref 135])) := Wd_get wk_132
theorem wk_133 : cells[(133 : Nat)]? = some (fun f g => .inl (1, 12, .inl f)) := rfl
theorem wc_133 {u : Nat → Nat → Int32} {g : Nat → Nat → Int64} {ex : List MC} : (Wd u g ex)[(133 : Nat)]? = some (.inl (1, 12, .inl (u 133))) := Wd_get wk_133
theorem wk_134 : cells[(134 : Nat)]? = some (fun f g => .inl (1, 12, .inl f)) := rfl
theorem wc_134 {u : Nat → Nat → Int32} {g : Nat → Nat → Int64} {ex : List MC} : (Wd u g ex)[(134 : Nat)]? = some (.inl (1, 12, .inl (u 134))) := Wd_get wk_134
theorem wk_135 : cells[(135 : Nat)]? = some (fun f g => .inl (1, 12, .inl f)) := rfl
theorem wc_135 {u : Nat → Nat → Int32} {g : Nat → Nat → Int64} {ex : List MC} : (Wd u g ex)[(135 : Nat)]? = some (.inl (1, 12, .inl (u 135))) := Wd_get wk_135
theorem wk_136 : cells[(136 : Nat)]? = some (fun f g => .inr (7, [.ref 137, .int (f 1), .int (f 2), .int (f 3), .ref 138, .int (f 5), .ref 139, .int (f 7)])) := rfl
theorem wc_136 {u : Nat → Nat → Int32} {g : Nat → Nat → Int64} {ex : List MC} : (Wd u g ex)[(136 : Nat)]? = some (.inr (7, [.ref 137, .int (u 136 1), .int (u 136 2), .int (u 136 3), .ref 138, .int (u 136 5), .ref 139, .int (u 136 7)])) := Wd_get wk_136
theorem wk_137 : cells[(137 : Nat)]? = some (fun f g => .inl (0, 600, .inl f)) := rfl
theorem wc_137 {u : Nat → Nat → Int32} {g : Nat → Nat → Int64} {ex : List MC} : (Wd u g ex)[(137 : Nat)]? = some (.inl (0, 600, .inl (u 137))) := Wd_get wk_137
theorem wk_138 : cells[(138 : Nat)]? = some (fun f g => .inl (4, 2, .inr (.inr (va_up (va_up (fun _ => none) ((0 : Int32).toNatClampNeg) (some (140))) ((1 : Int32).toNatClampNeg) (some (145)))))) := rfl
theorem wc_138 {u : Nat → Nat → Int32} {g : Nat → Nat → Int64} {ex : List MC} : (Wd u g ex)[(138 : Nat)]? = some (.inl (4, 2, .inr (.inr (va_up (va_up (fun _ => none) ((0 : Int32).toNatClampNeg) (some (140))) ((1 : Int32).toNatClampNeg) (some (145)))))) := Wd_get wk_138
theorem wk_139 : cells[(139 : Nat)]? = some (fun f g => .inl (6, 3, .inr (.inr (va_up (va_up (va_up (fun _ => none) ((0 : Int32).toNatClampNeg) (some (150))) ((1 : Int32).toNatClampNeg) (some (154))) ((2 : Int32).toNatClampNeg) (some (158)))))) := rfl
theorem wc_139 {u : Nat → Nat → Int32} {g : Nat → Nat → Int64} {ex : List MC} : (Wd u g ex)[(139 : Nat)]? = some (.inl (6, 3, .inr (.inr (va_up (va_up (va_up (fun _ => none) ((0 : Int32).toNatClampNeg) (some (150))) ((1 : Int32).toNatClampNeg) (some (154))) ((2 : Int32).toNatClampNeg) (some (158)))))) := Wd_get wk_139
theorem wk_140 : cells[(140 : Nat)]? = some (fun f g => .inr (1, [.int (f 0), .ref 141, .int (f 2), .ref 142, .ref 143, .ref 144])) := rfl
theorem wc_140 {u : Nat → Nat → Int32} {g : Nat → Nat → Int64} {ex : List MC} : (Wd u g ex)[(140 : Nat)]? = some (.inr (1, [.int (u 140 0), .ref 141, .int (u 140 2), .ref 142, .ref 143, .ref 144])) := Wd_get wk_140
theorem wk_141 : cells[(141 : Nat)]? = some (fun f g => .inl (1, 144, .inl f)) := rfl
theorem wc_141 {u : Nat → Nat → Int32} {g : Nat → Nat → Int64} {ex : List MC} : (Wd u g ex)[(141 : Nat)]? = some (.inl (1, 144, .inl (u 141))) := Wd_get wk_141
theorem wk_142 : cells[(142 : Nat)]? = some (fun f g => .inl (1, 4, .inl f)) := rfl
theorem wc_142 {u : Nat → Nat → Int32} {g : Nat → Nat → Int64} {ex : List MC} : (Wd u g ex)[(142 : Nat)]? = some (.inl (1, 4, .inl (u 142))) := Wd_get wk_142
theorem wk_143 : cells[(143 : Nat)]? = some (fun f g => .inl (1, 4, .inl f)) := rfl
theorem wc_143 {u : Nat → Nat → Int32} {g : Nat → Nat → Int64} {ex : List MC} : (Wd u g ex)[(143 : Nat)]? = some (.inl (1, 4, .inl (u 143))) := Wd_get wk_143
theorem wk_144 : cells[(144 : Nat)]? = some (fun f g => .inl (1, 3, .inl f)) := rfl
theorem wc_144 {u : Nat → Nat → Int32} {g : Nat → Nat → Int64} {ex : List MC} : (Wd u g ex)[(144 : Nat)]? = some (.inl (1, 3, .inl (u 144))) := Wd_get wk_144
theorem wk_145 : cells[(145 : Nat)]? = some (fun f g => .inr (1, [.int (f 0), .ref 146, .int (f 2), .ref 147, .ref 148, .ref 149])) := rfl
theorem wc_145 {u : Nat → Nat → Int32} {g : Nat → Nat → Int64} {ex : List MC} : (Wd u g ex)[(145 : Nat)]? = some (.inr (1, [.int (u 145 0), .ref 146, .int (u 145 2), .ref 147, .ref 148, .ref 149])) := Wd_get wk_145
theorem wk_146 : cells[(146 : Nat)]? = some (fun f g => .inl (1, 144, .inl f)) := rfl
theorem wc_146 {u : Nat → Nat → Int32} {g : Nat → Nat → Int64} {ex : List MC} : (Wd u g ex)[(146 : Nat)]? = some (.inl (1, 144, .inl (u 146))) := Wd_get wk_146
theorem wk_147 : cells[(147 : Nat)]? = some (fun f g => .inl (1, 4, .inl f)) := rfl
theorem wc_147 {u : Nat → Nat → Int32} {g : Nat → Nat → Int64} {ex : List MC} : (Wd u g ex)[(147 : Nat)]? = some (.inl (1, 4, .inl (u 147))) := Wd_get wk_147
theorem wk_148 : cells[(148 : Nat)]? = some (fun f g => .inl (1, 4, .inl f)) := rfl
theorem wc_148 {u : Nat → Nat → Int32} {g : Nat → Nat → Int64} {ex : List MC} : (Wd u g ex)[(148 : Nat)]? = some (.inl (1, 4, .inl (u 148))) := Wd_get wk_148
theorem wk_149 : cells[(149 : Nat)]? = some (fun f g => .inl (1, 3, .inl f)) := rfl
theorem wc_149 {u : Nat → Nat → Int32} {g : Nat → Nat → Int64} {ex : List MC} : (Wd u g ex)[(149 : Nat)]? = some (.inl (1, 3, .inl (u 149))) := Wd_get wk_149
theorem wk_150 : cells[(150 : Nat)]? = some (fun f g => .inr (8, [.int (f 0), .ref 151, .ref 152, .ref 153])) := rfl
theorem wc_150 {u : Nat → Nat → Int32} {g : Nat → Nat → Int64} {ex : List MC} : (Wd u g ex)[(150 : Nat)]? = some (.inr (8, [.int (u 150 0), .ref 151, .ref 152, .ref 153])) := Wd_get wk_150
theorem wk_151 : cells[(151 : Nat)]? = some (fun f g => .inl (1, 12, .inl f)) := rfl
theorem wc_151 {u : Nat → Nat → Int32} {g : Nat → Nat → Int64} {ex : List MC} : (Wd u g ex)[(151 : Nat)]? = some (.inl (1, 12, .inl (u 151))) := Wd_get wk_151
theorem wk_152 : cells[(152 : Nat)]? = some (fun f g => .inl (1, 12, .inl f)) := rfl
theorem wc_152 {u : Nat → Nat → Int32} {g : Nat → Nat → Int64} {ex : List MC} : (Wd u g ex)[(152 : Nat)]? = some (.inl (1, 12, .inl (u 152))) := Wd_get wk_152
theorem wk_153 : cells[(153 : Nat)]? = some (fun f g => .inl (1, 12, .inl f)) := rfl
theorem wc_153 {u : Nat → Nat → Int32} {g : Nat → Nat → Int64} {ex : List MC} : (Wd u g ex)[(153 : Nat)]? = some (.inl (1, 12, .inl (u 153))) := Wd_get wk_153
theorem wk_154 : cells[(154 : Nat)]? = some (fun f g => .inr (8, [.int (f 0), .ref 155, .ref 156, .ref 157])) := rfl
theorem wc_154 {u : Nat → Nat → Int32} {g : Nat → Nat → Int64} {ex : List MC} : (Wd u g ex)[(154 : Nat)]? = some (.inr (8, [.int (u 154 0), .ref 155, .ref 156, .ref 157])) := Wd_get wk_154
theorem wk_155 : cells[(155 : Nat)]? = some (fun f g => .inl (1, 12, .inl f)) := rfl
theorem wc_155 {u : Nat → Nat → Int32} {g : Nat → Nat → Int64} {ex : List MC} : (Wd u g ex)[(155 : Nat)]? = some (.inl (1, 12, .inl (u 155))) := Wd_get wk_155
theorem wk_156 : cells[(156 : Nat)]? = some (fun f g => .inl (1, 12, .inl f)) := rfl
theorem wc_156 {u : Nat → Nat → Int32} {g : Nat → Nat → Int64} {ex : List MC} : (Wd u g ex)[(156 : Nat)]? = some (.inl (1, 12, .inl (u 156))) := Wd_get wk_156
theorem wk_157 : cells[(157 : Nat)]? = some (fun f g => .inl (1, 12, .inl f)) := rfl
theorem wc_157 {u : Nat → Nat → Int32} {g : Nat → Nat → Int64} {ex : List MC} : (Wd u g ex)[(157 : Nat)]? = some (.inl (1, 12, .inl (u 157))) := Wd_get wk_157
theorem wk_158 : cells[(158 : Nat)]? = some (fun f g => .inr (8, [.int (f 0), .ref 159, .ref 160, .ref 161])) := rfl
theorem wc_158 {u : Nat → Nat → Int32} {g : Nat → Nat → Int64} {ex : List MC} : (Wd u g ex)[(158 : Nat)]? = some (.inr (8, [.int (u 158 0), .ref 159, .ref 160, .ref 161])) := Wd_get wk_158
theorem wk_159 : cells[(159 : Nat)]? = some (fun f g => .inl (1, 12, .inl f)) := rfl
theorem wc_159 {u : Nat → Nat → Int32} {g : Nat → Nat → Int64} {ex : List MC} : (Wd u g ex)[(159 : Nat)]? = some (.inl (1, 12, .inl (u 159))) := Wd_get wk_159
theorem wk_160 : cells[(160 : Nat)]? = some (fun f g => .inl (1, 12, .inl f)) := rfl
theorem wc_160 {u : Nat → Nat → Int32} {g : Nat → Nat → Int64} {ex : List MC} : (Wd u g ex)[(160 : Nat)]? = some (.inl (1, 12, .inl (u 160))) := Wd_get wk_160
theorem wk_161 : cells[(161 : Nat)]? = some (fun f g => .inl (1, 12, .inl f)) := rfl
theorem wc_161 {u : Nat → Nat → Int32} {g : Nat → Nat → Int64} {ex : List MC} : (Wd u g ex)[(161 : Nat)]? = some (.inl (1, 12, .inl (u 161))) := Wd_get wk_161
theorem wk_162 : cells[(162 : Nat)]? = some (fun f g => .inr (11, [.int (f 0), .ref 163, .ref 164, .ref 165, .ref 166, .ref 167, .ref 168, .ref 169, .int (f 8), .int (f 9), .int (f 10), .int (f 11), .int (f 12), .long (g 13), .int (f 14), .int (f 15), .int (f 16), .int (f 17), .int (f 18), .ref 170, .ref 171, .ref 172, .int (f 22), .int (f 23), .int (f 24), .int (f 25), .int (f 26), .int (f 27), .ref 173, .ref 174, .ref 175, .int (f 31), .int (f 32), .int (f 33), .ref 176, .ref 177, .ref 178, .ref 179, .ref 180, .int (f 39), .long (g 40), .int (f 41), .ref 181])) := rfl
theorem wc_162 {u : Nat → Nat → Int32} {g : Nat → Nat → Int64} {ex : List MC} : (Wd u g ex)[(162 : Nat)]? = some (.inr (11, [.int (u 162 0), .ref 163, .ref 164, .ref 165, .ref 166, .ref 167, .ref 168, .ref 169, .int (u 162 8), .int (u 162 9), .int (u 162 10), .int (u 162 11), .int (u 162 12), .long (g 162 13), .int (u 162 14), .int (u 162 15), .int (u 162 16), .int (u 162 17), .int (u 162 18), .ref 170, .ref 171, .ref 172, .int (u 162 22), .int (u 162 23), .int (u 162 24), .int (u 162 25), .int (u 162 26), .int (u 162 27), .ref 173, .ref 174, .ref 175, .int (u 162 31), .int (u 162 32), .int (u 162 33), .ref 176, .ref 177, .ref 178, .ref 179, .ref 180, .int (u 162 39), .long (g 162 40), .int (u 162 41), .ref 181])) := Wd_get wk_162
theorem wk_163 : cells[(163 : Nat)]? = some (fun f g => .inl (0, 2400, .inl f)) := rfl
theorem wc_163 {u : Nat → Nat → Int32} {g : Nat → Nat → Int64} {ex : List MC} : (Wd u g ex)[(163 : Nat)]? = some (.inl (0, 2400, .inl (u 163))) := Wd_get wk_163
theorem wk_164 : cells[(164 : Nat)]? = some (fun f g => .inl (1, 4, .inl f)) := rfl
theorem wc_164 {u : Nat → Nat → Int32} {g : Nat → Nat → Int64} {ex : List MC} : (Wd u g ex)[(164 : Nat)]? = some (.inl (1, 4, .inl (u 164))) := Wd_get wk_164
theorem wk_165 : cells[(165 : Nat)]? = some (fun f g => .inl (1, 4, .inl f)) := rfl
theorem wc_165 {u : Nat → Nat → Int32} {g : Nat → Nat → Int64} {ex : List MC} : (Wd u g ex)[(165 : Nat)]? = some (.inl (1, 4, .inl (u 165))) := Wd_get wk_165
theorem wk_166 : cells[(166 : Nat)]? = some (fun f g => .inl (1, 4, .inl f)) := rfl
theorem wc_166 {u : Nat → Nat → Int32} {g : Nat → Nat → Int64} {ex : List MC} : (Wd u g ex)[(166 : Nat)]? = some (.inl (1, 4, .inl (u 166))) := Wd_get wk_166
theorem wk_167 : cells[(167 : Nat)]? = some (fun f g => .inl (1, 8, .inl f)) := rfl
theorem wc_167 {u : Nat → Nat → Int32} {g : Nat → Nat → Int64} {ex : List MC} : (Wd u g ex)[(167 : Nat)]? = some (.inl (1, 8, .inl (u 167))) := Wd_get wk_167
theorem wk_168 : cells[(168 : Nat)]? = some (fun f g => .inl (1, 1256, .inl f)) := rfl
theorem wc_168 {u : Nat → Nat → Int32} {g : Nat → Nat → Int64} {ex : List MC} : (Wd u g ex)[(168 : Nat)]? = some (.inl (1, 1256, .inl (u 168))) := Wd_get wk_168
theorem wk_169 : cells[(169 : Nat)]? = some (fun f g => .inl (1, 444, .inl f)) := rfl
theorem wc_169 {u : Nat → Nat → Int32} {g : Nat → Nat → Int64} {ex : List MC} : (Wd u g ex)[(169 : Nat)]? = some (.inl (1, 444, .inl (u 169))) := Wd_get wk_169
theorem wk_170 : cells[(170 : Nat)]? = some (fun f g => .inl (1, 157, .inl f)) := rfl
theorem wc_170 {u : Nat → Nat → Int32} {g : Nat → Nat → Int64} {ex : List MC} : (Wd u g ex)[(170 : Nat)]? = some (.inl (1, 157, .inl (u 170))) := Wd_get wk_170
theorem wk_171 : cells[(171 : Nat)]? = some (fun f g => .inl (1, 3, .inl f)) := rfl
theorem wc_171 {u : Nat → Nat → Int32} {g : Nat → Nat → Int64} {ex : List MC} : (Wd u g ex)[(171 : Nat)]? = some (.inl (1, 3, .inl (u 171))) := Wd_get wk_171
theorem wk_172 : cells[(172 : Nat)]? = some (fun f g => .inl (1, 157, .inl f)) := rfl
theorem wc_172 {u : Nat → Nat → Int32} {g : Nat → Nat → Int64} {ex : List MC} : (Wd u g ex)[(172 : Nat)]? = some (.inl (1, 157, .inl (u 172))) := Wd_get wk_172
theorem wk_173 : cells[(173 : Nat)]? = some (fun f g => .inl (1, 9, .inl f)) := rfl
theorem wc_173 {u : Nat → Nat → Int32} {g : Nat → Nat → Int64} {ex : List MC} : (Wd u g ex)[(173 : Nat)]? = some (.inl (1, 9, .inl (u 173))) := Wd_get wk_173
theorem wk_174 : cells[(174 : Nat)]? = some (fun f g => .inl (1, 9, .inl f)) := rfl
theorem wc_174 {u : Nat → Nat → Int32} {g : Nat → Nat → Int64} {ex : List MC} : (Wd u g ex)[(174 : Nat)]? = some (.inl (1, 9, .inl (u 174))) := Wd_get wk_174
theorem wk_175 : cells[(175 : Nat)]? = some (fun f g => .inl (1, 9, .inl f)) := rfl
theorem wc_175 {u : Nat → Nat → Int32} {g : Nat → Nat → Int64} {ex : List MC} : (Wd u g ex)[(175 : Nat)]? = some (.inl (1, 9, .inl (u 175))) := Wd_get wk_175
theorem wk_176 : cells[(176 : Nat)]? = some (fun f g => .inl (2, 512, .inr (.inl g))) := rfl
theorem wc_176 {u : Nat → Nat → Int32} {g : Nat → Nat → Int64} {ex : List MC} : (Wd u g ex)[(176 : Nat)]? = some (.inl (2, 512, .inr (.inl (g 176)))) := Wd_get wk_176
theorem wk_177 : cells[(177 : Nat)]? = some (fun f g => .inl (1, 9, .inl f)) := rfl
theorem wc_177 {u : Nat → Nat → Int32} {g : Nat → Nat → Int64} {ex : List MC} : (Wd u g ex)[(177 : Nat)]? = some (.inl (1, 9, .inl (u 177))) := Wd_get wk_177
theorem wk_178 : cells[(178 : Nat)]? = some (fun f g => .inl (1, 9, .inl f)) := rfl
theorem wc_178 {u : Nat → Nat → Int32} {g : Nat → Nat → Int64} {ex : List MC} : (Wd u g ex)[(178 : Nat)]? = some (.inl (1, 9, .inl (u 178))) := Wd_get wk_178
theorem wk_179 : cells[(179 : Nat)]? = some (fun f g => .inl (1, 4, .inl f)) := rfl
theorem wc_179 {u : Nat → Nat → Int32} {g : Nat → Nat → Int64} {ex : List MC} : (Wd u g ex)[(179 : Nat)]? = some (.inl (1, 4, .inl (u 179))) := Wd_get wk_179
theorem wk_180 : cells[(180 : Nat)]? = some (fun f g => .inl (1, 4, .inl f)) := rfl
theorem wc_180 {u : Nat → Nat → Int32} {g : Nat → Nat → Int64} {ex : List MC} : (Wd u g ex)[(180 : Nat)]? = some (.inl (1, 4, .inl (u 180))) := Wd_get wk_180
theorem wk_181 : cells[(181 : Nat)]? = some (fun f g => .inl (3, 3, .inl f)) := rfl
theorem wc_181 {u : Nat → Nat → Int32} {g : Nat → Nat → Int64} {ex : List MC} : (Wd u g ex)[(181 : Nat)]? = some (.inl (3, 3, .inl (u 181))) := Wd_get wk_181
abbrev hl : List Nat := [5, 10, 32, 44, 61, 70, 79, 88, 93, 114, 119, 140, 145]
abbrev wkl : List Nat := [15, 19, 23, 37, 49, 98, 102, 106, 124, 128, 132, 150, 154, 158]
theorem zh0 {t : Nat} (ht : t ∈ hl) : cells[t]? = some (fun f g => .inr (1, [.int (f 0), .ref (t + 1), .int (f 2), .ref (t + 2), .ref (t + 3), .ref (t + 4)])) := by
  simp only [hl, List.mem_cons, List.not_mem_nil, or_false] at ht
  rcases ht with rfl | rfl | rfl | rfl | rfl | rfl | rfl | rfl | rfl | rfl | rfl | rfl | rfl <;> rfl
theorem zh0c {u : Nat → Nat → Int32} {g : Nat → Nat → Int64} {ex : List MC} {t : Nat} (ht : t ∈ hl) : (Wd u g ex)[t]? = some (.inr (1, [.int (u t 0), .ref (t + 1), .int (u t 2), .ref (t + 2), .ref (t + 3), .ref (t + 4)])) := Wd_get (zh0 ht)
theorem zh1 {t : Nat} (ht : t ∈ hl) : cells[t + 1]? = some (fun f g => .inl (1, 144, .inl f)) := by
  simp only [hl, List.mem_cons, List.not_mem_nil, or_false] at ht
  rcases ht with rfl | rfl | rfl | rfl | rfl | rfl | rfl | rfl | rfl | rfl | rfl | rfl | rfl <;> rfl
theorem zh1c {u : Nat → Nat → Int32} {g : Nat → Nat → Int64} {ex : List MC} {t : Nat} (ht : t ∈ hl) : (Wd u g ex)[t + 1]? = some (.inl (1, 144, .inl (u (t + 1)))) := Wd_get (zh1 ht)
theorem zh2 {t : Nat} (ht : t ∈ hl) : cells[t + 2]? = some (fun f g => .inl (1, 4, .inl f)) := by
  simp only [hl, List.mem_cons, List.not_mem_nil, or_false] at ht
  rcases ht with rfl | rfl | rfl | rfl | rfl | rfl | rfl | rfl | rfl | rfl | rfl | rfl | rfl <;> rfl
theorem zh2c {u : Nat → Nat → Int32} {g : Nat → Nat → Int64} {ex : List MC} {t : Nat} (ht : t ∈ hl) : (Wd u g ex)[t + 2]? = some (.inl (1, 4, .inl (u (t + 2)))) := Wd_get (zh2 ht)
theorem zh3 {t : Nat} (ht : t ∈ hl) : cells[t + 3]? = some (fun f g => .inl (1, 4, .inl f)) := by
  simp only [hl, List.mem_cons, List.not_mem_nil, or_false] at ht
  rcases ht with rfl | rfl | rfl | rfl | rfl | rfl | rfl | rfl | rfl | rfl | rfl | rfl | rfl <;> rfl
theorem zh3c {u : Nat → Nat → Int32} {g : Nat → Nat → Int64} {ex : List MC} {t : Nat} (ht : t ∈ hl) : (Wd u g ex)[t + 3]? = some (.inl (1, 4, .inl (u (t + 3)))) := Wd_get (zh3 ht)
theorem zh4 {t : Nat} (ht : t ∈ hl) : cells[t + 4]? = some (fun f g => .inl (1, 3, .inl f)) := by
  simp only [hl, List.mem_cons, List.not_mem_nil, or_false] at ht
  rcases ht with rfl | rfl | rfl | rfl | rfl | rfl | rfl | rfl | rfl | rfl | rfl | rfl | rfl <;> rfl
theorem zh4c {u : Nat → Nat → Int32} {g : Nat → Nat → Int64} {ex : List MC} {t : Nat} (ht : t ∈ hl) : (Wd u g ex)[t + 4]? = some (.inl (1, 3, .inl (u (t + 4)))) := Wd_get (zh4 ht)
theorem zw0 {t : Nat} (ht : t ∈ wkl) : cells[t]? = some (fun f g => .inr (8, [.int (f 0), .ref (t + 1), .ref (t + 2), .ref (t + 3)])) := by
  simp only [wkl, List.mem_cons, List.not_mem_nil, or_false] at ht
  rcases ht with rfl | rfl | rfl | rfl | rfl | rfl | rfl | rfl | rfl | rfl | rfl | rfl | rfl | rfl <;> rfl
theorem zw0c {u : Nat → Nat → Int32} {g : Nat → Nat → Int64} {ex : List MC} {t : Nat} (ht : t ∈ wkl) : (Wd u g ex)[t]? = some (.inr (8, [.int (u t 0), .ref (t + 1), .ref (t + 2), .ref (t + 3)])) := Wd_get (zw0 ht)
theorem zw1 {t : Nat} (ht : t ∈ wkl) : cells[t + 1]? = some (fun f g => .inl (1, 12, .inl f)) := by
  simp only [wkl, List.mem_cons, List.not_mem_nil, or_false] at ht
  rcases ht with rfl | rfl | rfl | rfl | rfl | rfl | rfl | rfl | rfl | rfl | rfl | rfl | rfl | rfl <;> rfl
theorem zw1c {u : Nat → Nat → Int32} {g : Nat → Nat → Int64} {ex : List MC} {t : Nat} (ht : t ∈ wkl) : (Wd u g ex)[t + 1]? = some (.inl (1, 12, .inl (u (t + 1)))) := Wd_get (zw1 ht)
theorem zw2 {t : Nat} (ht : t ∈ wkl) : cells[t + 2]? = some (fun f g => .inl (1, 12, .inl f)) := by
  simp only [wkl, List.mem_cons, List.not_mem_nil, or_false] at ht
  rcases ht with rfl | rfl | rfl | rfl | rfl | rfl | rfl | rfl | rfl | rfl | rfl | rfl | rfl | rfl <;> rfl
theorem zw2c {u : Nat → Nat → Int32} {g : Nat → Nat → Int64} {ex : List MC} {t : Nat} (ht : t ∈ wkl) : (Wd u g ex)[t + 2]? = some (.inl (1, 12, .inl (u (t + 2)))) := Wd_get (zw2 ht)
theorem zw3 {t : Nat} (ht : t ∈ wkl) : cells[t + 3]? = some (fun f g => .inl (1, 12, .inl f)) := by
  simp only [wkl, List.mem_cons, List.not_mem_nil, or_false] at ht
  rcases ht with rfl | rfl | rfl | rfl | rfl | rfl | rfl | rfl | rfl | rfl | rfl | rfl | rfl | rfl <;> rfl
theorem zw3c {u : Nat → Nat → Int32} {g : Nat → Nat → Int64} {ex : List MC} {t : Nat} (ht : t ∈ wkl) : (Wd u g ex)[t + 3]? = some (.inl (1, 12, .inl (u (t + 3)))) := Wd_get (zw3 ht)
theorem sne {l : List Nat} {t i c : Nat} (ht : t ∈ l) (h : l.all (fun q => decide (q + i ≠ c)) = true) : t + i ≠ c := of_decide_eq_true (List.all_eq_true.mp h t ht)
theorem sne2 {l : List Nat} {t i f j : Nat} (ht : t ∈ l) (hf : f ∈ l) (hn : t ≠ f) (h : l.all (fun q => l.all (fun z => q == z || decide (q + i ≠ z + j))) = true) : t + i ≠ f + j := by
  have h1 := List.all_eq_true.mp (List.all_eq_true.mp h t ht) f hf
  rcases (Bool.or_eq_true _ _).mp h1 with h2 | h2
  · exact absurd (eq_of_beq h2) hn
  · exact of_decide_eq_true h2
section
variable {x : JX} {y : MethodName} {cc : ByteArray} {nL : Nat} {rt : Option FieldType} {d M N L0 : Nat} {pc : Nat} {lv : List (Nat × Value)} {st : List Value} {h : List MC} {k n : Nat}
theorem J_lv {lw : List (Nat × Value)} (is : List Nat) (hs : is.filterMap (fun i => lv[i]?) = lw) (K : J x y cc nL rt d M N L0 pc lw st h k n) : J x y cc nL rt d M N L0 pc lv st h k n := by
  obtain ⟨p, l, e, R, s, m, args, below, meth, c, b, ca, cA, D, con, Q⟩ := x
  intro O H locs ls hl hP hS
  refine K O H locs ls ?_ hP hS
  refine lv_sub hl is ?_
  subst hs
  simp only [lv_pick, rl, List.map_filterMap, List.getElem?_map]
end

