/-! the J layer: static arrays, String constants, chars, references returned -/
section
variable {x : JX} {y : MethodName} {cc : ByteArray} {nL : Nat} {rt : Option FieldType} {d M N L0 : Nat} {pc : Nat} {lv : List (Nat × Value)} {st : List Value} {h : List MC} {k n : Nat}
theorem J_ldcw {i : Nat} {v : Int32} (hd : decode cc pc = .ok (.ldc_w i, 3)) (hc : Cond.constant y.cls i v ∈ gt) (K : J x y cc nL rt d M N L0 (pc + 3) lv (.int v :: st) h k n) : J x y cc nL rt d M N L0 pc lv st h k n := by
  obtain ⟨p, l, e, R, s, m, args, below, meth, c, b, ca, cA, D, con, Q⟩ := x
  intro O H locs ls hl hP hS
  have hx := O.1
  have hb := O.2.1
  have hts := O.2.2.2.2.1
  have hown := O.2.2.2.1
  have hK : va_K D vwCl (tz cA) s := O.2.2.2.2.2.2.2.2.1
  exact lv_ldcw hx hb hown (hts _ hc) hd (K O H locs ls hl hP hS)
theorem J_i2c {u z : Int32} (hd : decode cc pc = .ok (.i2c, 1)) (hv : (u.toUInt32 % 65536).toInt32 = z) (K : J x y cc nL rt d M N L0 (pc + 1) lv (.int z :: st) h k n) : J x y cc nL rt d M N L0 pc lv (.int u :: st) h k n := by
  obtain ⟨p, l, e, R, s, m, args, below, meth, c, b, ca, cA, D, con, Q⟩ := x
  intro O H locs ls hl hP hS
  have hx := O.1
  have hb := O.2.1
  have hts := O.2.2.2.2.1
  have hown := O.2.2.2.1
  have hK : va_K D vwCl (tz cA) s := O.2.2.2.2.2.2.2.2.1
  exact lv_i2c hx hb hd hv (K O H locs ls hl hP hS)
theorem J_gets {i ix : Nat} {nm : String} (hd : decode cc pc = .ok (.getstatic ix, 3)) (hi : i < 6) (hnm : sNm i = nm) (hlk : Cond.fieldLink y.cls ix RX3 nm "[I" ∈ gt) (K : J x y cc nL rt d M N L0 (pc + 3) lv (.retAddr (1 + i) :: st) h k n) : J x y cc nL rt d M N L0 pc lv st h k n := by
  subst hnm
  obtain ⟨p, l, e, R, s, m, args, below, meth, c, b, ca, cA, D, con, Q⟩ := x
  intro O H locs ls hl hP hS
  have hx := O.1
  have hb := O.2.1
  have hts := O.2.2.2.2.1
  have hown := O.2.2.2.1
  have hK : va_K D vwCl (tz cA) s := O.2.2.2.2.2.2.2.2.1
  exact va_gets hx hb ((O.2.2.2.2.2.2.2.2.2.2.2.2.2.2.2.2.1 i hi).1) hS hown (hts _ hlk) (fun _ q => q) hd (K O H locs ls hl hP hS)
theorem J_getsC {ix : Nat} (hd : decode cc pc = .ok (.getstatic ix, 3)) (hlk : Cond.fieldLink y.cls ix "java/lang/String" "COMPACT_STRINGS" "Z" ∈ gt) (K : J x y cc nL rt d M N L0 (pc + 3) lv (.int 1 :: st) h k n) : J x y cc nL rt d M N L0 pc lv st h k n := by
  obtain ⟨p, l, e, R, s, m, args, below, meth, c, b, ca, cA, D, con, Q⟩ := x
  intro O H locs ls hl hP hS
  have hx := O.1
  have hb := O.2.1
  have hts := O.2.2.2.2.1
  have hown := O.2.2.2.1
  have hK : va_K D vwCl (tz cA) s := O.2.2.2.2.2.2.2.2.1
  exact va_gets hx hb (O.2.2.2.2.2.2.2.2.2.2.2.2.2.2.2.2.2.1) hS hown (hts _ hlk) (fun _ q => q) hd (K O H locs ls hl hP hS)
theorem J_getsQ {ix : Nat} (hd : decode cc pc = .ok (.getstatic ix, 3)) (hlk : Cond.fieldLink y.cls ix "jdk/internal/util/Preconditions" "SIOOBE_FORMATTER" "Ljava/util/function/BiFunction;" ∈ gt) (K1 : J x y cc nL rt d M N L0 (pc + 3) lv (.null :: st) h k n) (K2 : J x y cc nL rt d M N L0 (pc + 3) lv (.retAddr 60 :: st) h k n) : J x y cc nL rt d M N L0 pc lv st h k n := by
  obtain ⟨p, l, e, R, s, m, args, below, meth, c, b, ca, cA, D, con, Q⟩ := x
  intro O H locs ls hl hP hS
  have hx := O.1
  have hb := O.2.1
  have hts := O.2.2.2.2.1
  have hown := O.2.2.2.1
  have hK : va_K D vwCl (tz cA) s := O.2.2.2.2.2.2.2.2.1
  rcases O.2.2.2.2.2.2.2.2.2.2.2.2.2.2.2.2.2.2.2.2 with hz | hz
  · exact va_gets hx hb hz hS hown (hts _ hlk) (fun _ q => q) hd (K1 O H locs ls hl hP hS)
  · exact va_gets hx hb hz hS hown (hts _ hlk) (fun _ q => q) hd (K2 O H locs ls hl hP hS)
theorem J_sald {i : Nat} {j : Int32} (hd : decode cc pc = .ok (.iaload, 1)) (hi : i < 6) (hj : vp_in j (sAr i).length) (K : J x y cc nL rt d M N L0 (pc + 1) lv (.int ((sAr i).getD j.toNatClampNeg 0) :: st) h k n) : J x y cc nL rt d M N L0 pc lv (.int j :: .retAddr (1 + i) :: st) h k n := by
  obtain ⟨p, l, e, R, s, m, args, below, meth, c, b, ca, cA, D, con, Q⟩ := x
  intro O H locs ls hl hP hS
  have hx := O.1
  have hb := O.2.1
  have hts := O.2.2.2.2.1
  have hown := O.2.2.2.1
  have hK : va_K D vwCl (tz cA) s := O.2.2.2.2.2.2.2.2.1
  exact va_ti hx hb ((O.2.2.2.2.2.2.2.2.2.2.2.2.2.2.2.2.1 i hi).2) hS hj rfl hd (K O H locs ls hl hP hS)
theorem J_ldcS {i ix : Nat} (hd : decode cc pc = .ok (.ldc ix, 2)) (hi : i < 18) (hix : ix = 120 + 2 * i) (hy : y.cls = RX3) (K : J x y cc nL rt d M N L0 (pc + 2) lv (.retAddr (10 + i) :: st) h k n) : J x y cc nL rt d M N L0 pc lv st h k n := by
  subst hix
  obtain ⟨p, l, e, R, s, m, args, below, meth, c, b, ca, cA, D, con, Q⟩ := x
  intro O H locs ls hl hP hS
  have hx := O.1
  have hb := O.2.1
  have hts := O.2.2.2.2.1
  have hown := O.2.2.2.1
  have hK : va_K D vwCl (tz cA) s := O.2.2.2.2.2.2.2.2.1
  exact va_ldcS hx hb (own := RX3) (tx := sTx i) (by rw [← hy]; exact hown) (O.2.2.2.2.2.2.2.2.2.2.2.2.2.2.2.2.2.2.2.1 i hi) hd (K O H locs ls hl hP hS)
theorem J_sval {i ix : Nat} (hd : decode cc pc = .ok (.getfield ix, 3)) (hi : i < 18) (hlk : Cond.fieldLink y.cls ix "java/lang/String" "value" "[B" ∈ gt) (K : J x y cc nL rt d M N L0 (pc + 3) lv (.retAddr (40 + i) :: st) h k n) : J x y cc nL rt d M N L0 pc lv (.retAddr (10 + i) :: st) h k n := by
  obtain ⟨p, l, e, R, s, m, args, below, meth, c, b, ca, cA, D, con, Q⟩ := x
  intro O H locs ls hl hP hS
  have hx := O.1
  have hb := O.2.1
  have hts := O.2.2.2.2.1
  have hown := O.2.2.2.1
  have hK : va_K D vwCl (tz cA) s := O.2.2.2.2.2.2.2.2.1
  exact vk_getf hx hb ((O.2.2.2.2.2.2.2.2.2.2.2.2.2.2.2.2.2.2.1.1 i hi).2.2.1) hS hown (hts _ hlk) (fun _ q => q) hd (K O H locs ls hl hP hS)
theorem J_scod {i ix : Nat} (hd : decode cc pc = .ok (.getfield ix, 3)) (hi : i < 18) (hlk : Cond.fieldLink y.cls ix "java/lang/String" "coder" "B" ∈ gt) (K : J x y cc nL rt d M N L0 (pc + 3) lv (.int 0 :: st) h k n) : J x y cc nL rt d M N L0 pc lv (.retAddr (10 + i) :: st) h k n := by
  obtain ⟨p, l, e, R, s, m, args, below, meth, c, b, ca, cA, D, con, Q⟩ := x
  intro O H locs ls hl hP hS
  have hx := O.1
  have hb := O.2.1
  have hts := O.2.2.2.2.1
  have hown := O.2.2.2.1
  have hK : va_K D vwCl (tz cA) s := O.2.2.2.2.2.2.2.2.1
  exact vk_getf hx hb ((O.2.2.2.2.2.2.2.2.2.2.2.2.2.2.2.2.2.2.1.1 i hi).2.1) hS hown (hts _ hlk) (fun _ q => q) hd (K O H locs ls hl hP hS)
theorem J_sbld {i : Nat} {j : Int32} (hd : decode cc pc = .ok (.baload, 1)) (hi : i < 18) (hj : vp_in j (sLn.getD i 0)) (K : J x y cc nL rt d M N L0 (pc + 1) lv (.int ((sBy.getD i []).getD j.toNatClampNeg 0) :: st) h k n) : J x y cc nL rt d M N L0 pc lv (.int j :: .retAddr (40 + i) :: st) h k n := by
  obtain ⟨p, l, e, R, s, m, args, below, meth, c, b, ca, cA, D, con, Q⟩ := x
  intro O H locs ls hl hP hS
  have hx := O.1
  have hb := O.2.1
  have hts := O.2.2.2.2.1
  have hown := O.2.2.2.1
  have hK : va_K D vwCl (tz cA) s := O.2.2.2.2.2.2.2.2.1
  exact va_tb hx hb ((O.2.2.2.2.2.2.2.2.2.2.2.2.2.2.2.2.2.2.1.1 i hi).2.2.2) hS hj rfl hd (K O H locs ls hl hP hS)
theorem J_sbln {i : Nat} (hd : decode cc pc = .ok (.arraylength, 1)) (hi : i < 18) (K : J x y cc nL rt d M N L0 (pc + 1) lv (.int (Int32.ofNat (sLn.getD i 0)) :: st) h k n) : J x y cc nL rt d M N L0 pc lv (.retAddr (40 + i) :: st) h k n := by
  obtain ⟨p, l, e, R, s, m, args, below, meth, c, b, ca, cA, D, con, Q⟩ := x
  intro O H locs ls hl hP hS
  have hx := O.1
  have hb := O.2.1
  have hts := O.2.2.2.2.1
  have hown := O.2.2.2.1
  have hK : va_K D vwCl (tz cA) s := O.2.2.2.2.2.2.2.2.1
  exact va_tlen hx hb ((O.2.2.2.2.2.2.2.2.2.2.2.2.2.2.2.2.2.2.1.1 i hi).2.2.2) hS rfl hd (K O H locs ls hl hP hS)
theorem J_aretC {con0 : JK} {Post : Option Value → List MC → Prop} {q : Nat} {nm : String} (hq : JQ x con0 M N Post) (hd : decode cc pc = .ok (.areturn, 1)) (hr : rt = some (.object nm)) (hk : k + L0 = h.length) (hkM : k ≤ M) (hnN : n ≤ N) (hp : Post (some (.retAddr q)) h) : J x y cc nL rt d M N L0 pc lv [.retAddr q] h k n := by
  obtain ⟨p, l, e, R, s, m, args, below, meth, c, b, ca, cA, D, con, Q⟩ := x
  intro O H locs ls hl hP hS
  have hx := O.1
  have hb := O.2.1
  have hts := O.2.2.2.2.1
  have hown := O.2.2.2.1
  have hK : va_K D vwCl (tz cA) s := O.2.2.2.2.2.2.2.2.1
  have hlk : meth.locks = false := O.2.2.2.2.2.2.1
  refine J_fin hq O.2.2.2.2.2.2.2.2.2.1 hk hkM hnN hK hP hS hp (fun qq => ?_)
  exact W.aret hx hb (O.2.2.2.2.2.1.trans hr) (Or.inl ⟨nm, rfl⟩) (Or.inr ⟨_, rfl⟩) qq hS.2.2 hd hlk
theorem J_bret {con0 : JK} {Post : Option Value → List MC → Prop} {v : Int32} (hq : JQ x con0 M N Post) (hd : decode cc pc = .ok (.ireturn, 1)) (hr : rt = some .byte) (hn : narrow .byte (.int v) = .int v) (hk : k + L0 = h.length) (hkM : k ≤ M) (hnN : n ≤ N) (hp : Post (some (.int v)) h) : J x y cc nL rt d M N L0 pc lv [.int v] h k n := by
  obtain ⟨p, l, e, R, s, m, args, below, meth, c, b, ca, cA, D, con, Q⟩ := x
  intro O H locs ls hl hP hS
  have hx := O.1
  have hb := O.2.1
  have hts := O.2.2.2.2.1
  have hown := O.2.2.2.1
  have hK : va_K D vwCl (tz cA) s := O.2.2.2.2.2.2.2.2.1
  have hlk : meth.locks = false := O.2.2.2.2.2.2.1
  refine J_fin hq O.2.2.2.2.2.2.2.2.2.1 hk hkM hnN hK hP hS hp (fun qq => ?_)
  exact W.zret hx hb (O.2.2.2.2.2.1.trans hr) hn qq hS.2.2 hd hlk
theorem J_cret {con0 : JK} {Post : Option Value → List MC → Prop} {v : Int32} (hq : JQ x con0 M N Post) (hd : decode cc pc = .ok (.ireturn, 1)) (hr : rt = some .char) (hn : narrow .char (.int v) = .int v) (hk : k + L0 = h.length) (hkM : k ≤ M) (hnN : n ≤ N) (hp : Post (some (.int v)) h) : J x y cc nL rt d M N L0 pc lv [.int v] h k n := by
  obtain ⟨p, l, e, R, s, m, args, below, meth, c, b, ca, cA, D, con, Q⟩ := x
  intro O H locs ls hl hP hS
  have hx := O.1
  have hb := O.2.1
  have hts := O.2.2.2.2.1
  have hown := O.2.2.2.1
  have hK : va_K D vwCl (tz cA) s := O.2.2.2.2.2.2.2.2.1
  have hlk : meth.locks = false := O.2.2.2.2.2.2.1
  refine J_fin hq O.2.2.2.2.2.2.2.2.2.1 hk hkM hnN hK hP hS hp (fun qq => ?_)
  exact W.zret hx hb (O.2.2.2.2.2.1.trans hr) hn qq hS.2.2 hd hlk
end

