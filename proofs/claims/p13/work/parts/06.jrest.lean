/-! the J layer: small helpers, arraycopy, max, min -/
def bI (b : Bool) : Int32 := if b then 1 else 0
theorem bI_n (b : Bool) : narrow .boolean (.int (bI b)) = .int (bI b) := by cases b <;> rfl
theorem bI_0 {b : Bool} (h : bI b = 0) : b = false := by cases b; rfl; exact absurd h (by decide)
theorem bI_1 {b : Bool} (h : ¬ bI b = 0) : b = true := by cases b; exact absurd rfl h; rfl
theorem vp_c {i : Int32} {n : Nat} (h : decide (¬ (i < 0 ∨ n ≤ i.toNatClampNeg)) = true) : vp_in i n := of_decide_eq_true (p := ¬ (i < 0 ∨ n ≤ i.toNatClampNeg)) h
/-- the forms of a world: some cells set, some behind -/
theorem n1 {h L : List MC} {i : Nat} {c : MC} (hi : i < h.length) : (h.set i c ++ L)[i]? = some c := by
  rw [List.getElem?_append_left (by rw [List.length_set]; exact hi), List.getElem?_set_self hi]
theorem n2 {h L : List MC} {i j : Nat} {c x : MC} (hj : L[j]? = some x) : (h.set i c ++ L)[h.length + j]? = some x := by
  rw [List.getElem?_append_right (by rw [List.length_set]; exact Nat.le_add_right _ _), List.length_set, Nat.add_sub_cancel_left]; exact hj
section
variable {x : JX} {y : MethodName} {cc : ByteArray} {nL : Nat} {rt : Option FieldType} {d M N L0 : Nat} {pc : Nat} {lv : List (Nat × Value)} {st : List Value} {h : List MC} {k n : Nat}
theorem J_w {h2 : List MC} (e : h = h2) (K : J x y cc nL rt d M N L0 pc lv st h2 k n) : J x y cc nL rt d M N L0 pc lv st h k n := by subst e; exact K
theorem J_ci {u v : Int32} (e : u = v) (K : J x y cc nL rt d M N L0 pc lv (.int v :: st) h k n) : J x y cc nL rt d M N L0 pc lv (.int u :: st) h k n := by subst e; exact K
theorem J_cr {u v : Nat} (e : u = v) (K : J x y cc nL rt d M N L0 pc lv (.ref v :: st) h k n) : J x y cc nL rt d M N L0 pc lv (.ref u :: st) h k n := by subst e; exact K
theorem J_topi {u : Int32} (K : ∀ v : Int32, v = u → J x y cc nL rt d M N L0 pc lv (.int v :: st) h k n) : J x y cc nL rt d M N L0 pc lv (.int u :: st) h k n := K u rfl
theorem J_topl {u : Int64} (K : ∀ v : Int64, v = u → J x y cc nL rt d M N L0 pc lv (.long v :: st) h k n) : J x y cc nL rt d M N L0 pc lv (.long u :: st) h k n := K u rfl
theorem J_ifB_eq {u : Bool} {off : Int} {tgt : Nat} (hd : decode cc pc = .ok (.ifCond .eq off, 3)) (ht : (pc : Int) + off = (tgt : Int)) (K1 : u = false → J x y cc nL rt d M N L0 tgt lv st h k n) (K2 : u = true → J x y cc nL rt d M N L0 (pc + 3) lv st h k n) : J x y cc nL rt d M N L0 pc lv (.int (bI u) :: st) h k n := J_if_eq hd ht (fun q => K1 (bI_0 q)) (fun q => K2 (bI_1 q))
theorem J_ifB_ne {u : Bool} {off : Int} {tgt : Nat} (hd : decode cc pc = .ok (.ifCond .ne off, 3)) (ht : (pc : Int) + off = (tgt : Int)) (K1 : u = true → J x y cc nL rt d M N L0 tgt lv st h k n) (K2 : u = false → J x y cc nL rt d M N L0 (pc + 3) lv st h k n) : J x y cc nL rt d M N L0 pc lv (.int (bI u) :: st) h k n := J_if_ne hd ht (fun q => K1 (bI_1 q)) (fun q => K2 (bI_0 q))
theorem J_mmax {ix : Nat} {u v : Int32} (hd : decode cc pc = .ok (.invokestatic ix, 3)) (h1 : Cond.methodLink y.cls ix Lib.Math.max.name ∈ gt) (h2 : Cond.static Lib.Math.max.name ∈ gt) (h3 : Cond.initialized "java/lang/Math" ∈ gt) (h4 : Cond.code Lib.Math.max.name Lib.Math.max.code 2 (some .int) ∈ gt) (hdd : 1 ≤ d) (hw : (st.map fun v => v.category).sum ≤ 8) (hkM : k ≤ M) (hnN : n ≤ N) (K : J x y cc nL rt d M N L0 (pc + 3) lv (.int (if u < v then v else u) :: st) h k n) : J x y cc nL rt d M N L0 pc lv (.int v :: .int u :: st) h k n := by
  obtain ⟨p, l, e, R, s, m, args, below, meth, c, b, ca, cA, D, con, Q⟩ := x
  intro O H locs ls hl hP hS
  have hx := O.1
  have hb := O.2.1
  have hts := O.2.2.2.2.1
  have hown := O.2.2.2.1
  have hK : va_K D vwCl (tz cA) s := O.2.2.2.2.2.2.2.2.1
  refine va_mmax hx hb (by rw [O.2.2.1]; exact hl.1.symm) hown (hts _ h1) (hts _ h2) (hts _ h3) (hts _ h4) (Nat.le_trans hdd O.2.2.2.2.2.2.2.2.2.2.1) ?_ (Nat.le_trans hkM O.2.2.2.2.2.2.2.2.2.2.2.2.1) (Nat.le_trans hnN O.2.2.2.2.2.2.2.2.2.2.2.2.2.1) hd (K O H locs ls hl hP hS)
  rw [rv_sum]
  have h5 := O.2.2.2.2.2.2.2.2.2.2.2.1
  omega
theorem J_mmin {ix : Nat} {u v : Int32} (hd : decode cc pc = .ok (.invokestatic ix, 3)) (h1 : Cond.methodLink y.cls ix Lib.Math.min.name ∈ gt) (h2 : Cond.static Lib.Math.min.name ∈ gt) (h3 : Cond.initialized "java/lang/Math" ∈ gt) (h4 : Cond.code Lib.Math.min.name Lib.Math.min.code 2 (some .int) ∈ gt) (hdd : 1 ≤ d) (hw : (st.map fun v => v.category).sum ≤ 8) (hkM : k ≤ M) (hnN : n ≤ N) (K : J x y cc nL rt d M N L0 (pc + 3) lv (.int (if v < u then v else u) :: st) h k n) : J x y cc nL rt d M N L0 pc lv (.int v :: .int u :: st) h k n := by
  obtain ⟨p, l, e, R, s, m, args, below, meth, c, b, ca, cA, D, con, Q⟩ := x
  intro O H locs ls hl hP hS
  have hx := O.1
  have hb := O.2.1
  have hts := O.2.2.2.2.1
  have hown := O.2.2.2.1
  have hK : va_K D vwCl (tz cA) s := O.2.2.2.2.2.2.2.2.1
  refine va_mmin hx hb (by rw [O.2.2.1]; exact hl.1.symm) hown (hts _ h1) (hts _ h2) (hts _ h3) (hts _ h4) (Nat.le_trans hdd O.2.2.2.2.2.2.2.2.2.2.1) ?_ (Nat.le_trans hkM O.2.2.2.2.2.2.2.2.2.2.2.2.1) (Nat.le_trans hnN O.2.2.2.2.2.2.2.2.2.2.2.2.2.1) hd (K O H locs ls hl hP hS)
  rw [rv_sum]
  have h5 := O.2.2.2.2.2.2.2.2.2.2.2.1
  omega
theorem J_copyi {ix a0 a1 n0 n1 : Nat} {f g : Nat → Int32} {sp dp nn : Int32} {h2 : List MC} (hd : decode cc pc = .ok (.invokestatic ix, 3)) (w1 : Cond.methodLink y.cls ix arraycopyName ∈ gt) (w2 : Cond.native arraycopyName ∈ gt) (w3 : Cond.static arraycopyName ∈ gt) (w4 : Cond.initialized "java/lang/System" ∈ gt) (ha0 : h[a0]? = some (.inl (1, n0, .inl f))) (ha1 : h[a1]? = some (.inl (1, n1, .inl g))) (h1 : ¬ sp < 0) (h3 : ¬ dp < 0) (h4 : ¬ nn < 0) (h5 : sp.toNatClampNeg + nn.toNatClampNeg ≤ n0) (h6 : dp.toNatClampNeg + nn.toNatClampNeg ≤ n1) (hdd : 1 ≤ d) (hw : (st.map fun v => v.category).sum ≤ 8) (h2e : h.set a1 (.inl (1, n1, .inl (va_cpy f g sp.toNatClampNeg dp.toNatClampNeg nn.toNatClampNeg))) = h2) (K : J x y cc nL rt d M N L0 (pc + 3) lv st h2 k n) : J x y cc nL rt d M N L0 pc lv (.int nn :: .int dp :: .ref a1 :: .int sp :: .ref a0 :: st) h k n := by
  obtain ⟨p, l, e, R, s, m, args, below, meth, c, b, ca, cA, D, con, Q⟩ := x
  intro O H locs ls hl hP hS
  have hx := O.1
  have hb := O.2.1
  have hts := O.2.2.2.2.1
  have hown := O.2.2.2.1
  have hK : va_K D vwCl (tz cA) s := O.2.2.2.2.2.2.2.2.1
  refine va_copyi (ty := .int) (A := fun q => b ≤ q) hx hb (by rw [O.2.2.1]; exact hl.1.symm) hown (hts _ w1) (hts _ w2) (hts _ w3) (hts _ w4) hK hP wz_D hS a0 a1 1 1 (wz_get ha0) (wz_get ha1) rfl rfl rfl h1 h3 h4 h5 h6 (fun _ _ => rfl) (Nat.le_trans hdd O.2.2.2.2.2.2.2.2.2.2.1) ?_ hd ?_
  · rw [rv_sum]
    have h7 := O.2.2.2.2.2.2.2.2.2.2.2.1
    have h8 : nativeFrameWords "java/lang/System" "arraycopy" 5 + 11 ≤ 30 := by decide
    omega
  · intro H1 locs1 hP1 _ hS1
    subst h2e
    refine K O H1 locs1 ls hl ?_ hS1
    rw [← wz_set]
    exact hP1
theorem J_copyb {ix a0 a1 n0 n1 : Nat} {f g : Nat → Int32} {sp dp nn : Int32} {h2 : List MC} (hd : decode cc pc = .ok (.invokestatic ix, 3)) (w1 : Cond.methodLink y.cls ix arraycopyName ∈ gt) (w2 : Cond.native arraycopyName ∈ gt) (w3 : Cond.static arraycopyName ∈ gt) (w4 : Cond.initialized "java/lang/System" ∈ gt) (ha0 : h[a0]? = some (.inl (0, n0, .inl f))) (ha1 : h[a1]? = some (.inl (0, n1, .inl g))) (h1 : ¬ sp < 0) (h3 : ¬ dp < 0) (h4 : ¬ nn < 0) (h5 : sp.toNatClampNeg + nn.toNatClampNeg ≤ n0) (h6 : dp.toNatClampNeg + nn.toNatClampNeg ≤ n1) (hfit : ∀ i, i < nn.toNatClampNeg → fits .byte (.int (f (sp.toNatClampNeg + i))) = true) (hdd : 1 ≤ d) (hw : (st.map fun v => v.category).sum ≤ 8) (h2e : h.set a1 (.inl (0, n1, .inl (va_cpy f g sp.toNatClampNeg dp.toNatClampNeg nn.toNatClampNeg))) = h2) (K : J x y cc nL rt d M N L0 (pc + 3) lv st h2 k n) : J x y cc nL rt d M N L0 pc lv (.int nn :: .int dp :: .ref a1 :: .int sp :: .ref a0 :: st) h k n := by
  obtain ⟨p, l, e, R, s, m, args, below, meth, c, b, ca, cA, D, con, Q⟩ := x
  intro O H locs ls hl hP hS
  have hx := O.1
  have hb := O.2.1
  have hts := O.2.2.2.2.1
  have hown := O.2.2.2.1
  have hK : va_K D vwCl (tz cA) s := O.2.2.2.2.2.2.2.2.1
  refine va_copyi (ty := .byte) (A := fun q => b ≤ q) hx hb (by rw [O.2.2.1]; exact hl.1.symm) hown (hts _ w1) (hts _ w2) (hts _ w3) (hts _ w4) hK hP wz_D hS a0 a1 0 0 (wz_get ha0) (wz_get ha1) rfl rfl rfl h1 h3 h4 h5 h6 hfit (Nat.le_trans hdd O.2.2.2.2.2.2.2.2.2.2.1) ?_ hd ?_
  · rw [rv_sum]
    have h7 := O.2.2.2.2.2.2.2.2.2.2.2.1
    have h8 : nativeFrameWords "java/lang/System" "arraycopy" 5 + 11 ≤ 30 := by decide
    omega
  · intro H1 locs1 hP1 _ hS1
    subst h2e
    refine K O H1 locs1 ls hl ?_ hS1
    rw [← wz_set]
    exact hP1
end

