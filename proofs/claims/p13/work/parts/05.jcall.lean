/-! the J layer: new, calls -/
theorem J_addr {p : Program} {l : Launch} {e : Env} {R : Room} {s T : State} {m : MethodId} {args : Array Value} {below : List Frame} {meth : Method} {c : Code} {locs : List Loc} {k n b L0 q : Nat} {ca : Nat → Nat} {cA : Nat → ClassId} {D : va_G} {h : List MC} {H : Heap} {z : va_E} (X : Stand p l e R s m args below meth c T locs (k + 1) n) (hT : T.heap = H) (hL : s.heap.size = b + L0) (hk : k + L0 = h.length) (hP : va_P D vwCl (wz b ca cA h ++ [(q, z)]) H) (hD : va_D (fun q => b ≤ q) (wz b ca cA h ++ [(q, z)])) : q = b + h.length := by
  have h1 := X.heapSize
  rw [hT] at h1
  have e1 : (wz b ca cA h ++ [(q, z)])[h.length]? = some (q, z) := by
    rw [List.getElem?_append_right (by rw [wz_len]; exact Nat.le_refl _), wz_len, Nat.sub_self]
    rfl
  have h2 : q < H.size := (hP _ _ e1).lt
  have h3 : b ≤ q := hD.2 _ _ e1
  rcases Nat.lt_or_ge (q - b) h.length with h4 | h4
  · have e2 : (wz b ca cA h ++ [(q, z)])[q - b]? = some (b + (q - b), rE b ca cA h[q - b]) := by
      rw [List.getElem?_append_left (by rw [wz_len]; exact h4)]
      exact wz_get (List.getElem?_eq_getElem h4)
    have h5 := hD.1 _ _ _ _ e1 e2 (show q = b + (q - b) by omega)
    omega
  · omega
def JN (x : JX) (con0 : JK) : Prop := match x with
  | (_, _, _, _, _, _, _, _, _, _, _, _, _, _, con, _) => ∀ k v, con0 k = some v → con k = some v
theorem JQ.n {x : JX} {con0 : JK} {M N : Nat} {Post : Option Value → List MC → Prop} (h : JQ x con0 M N Post) : JN x con0 := by
  obtain ⟨p, l, e, R, s, m, args, below, meth, c, b, ca, cA, D, con, Q⟩ := x
  exact h.2
section
variable {x : JX} {y : MethodName} {cc : ByteArray} {nL : Nat} {rt : Option FieldType} {d M N L0 : Nat} {pc : Nat} {lv : List (Nat × Value)} {st : List Value} {h : List MC} {k n : Nat}
theorem J_new {C : String} {T : u_T} {Z ci ix : Nat} {fs : List Value} {ty0 : Nat → FieldType} (hd : decode cc pc = .ok (.new ix, 3)) (hin : ∀ w ∈ u_ws C T Z, w ∈ gt) (hc : vwCl[ci]? = some (C, T, Z)) (hty : ∀ k, k < Z → parseFieldDescriptor (T k).2.2.1 = some (ty0 k)) (hlk : Cond.classLink y.cls ix C ∈ gt) (hi1 : Cond.instantiable C Z ∈ gt) (hi2 : Cond.initialized C ∈ gt) (hfs : ∀ (b : Nat) (ca : Nat → Nat) (j : Nat), j < Z → defaultValue (ty0 j) = vp_V (fs.map (rv b ca)) j) (hk : k + L0 = h.length) (hM : k + 1 ≤ M) (hN : n + Z ≤ N) (K : J x y cc nL rt d M N L0 (pc + 3) lv (.ref h.length :: st) (h ++ [.inr (ci, fs)]) (k + 1) (n + Z)) : J x y cc nL rt d M N L0 pc lv st h k n := by
  obtain ⟨p, l, e, R, s, m, args, below, meth, c, b, ca, cA, D, con, Q⟩ := x
  intro O H locs ls hl hP hS
  have hx := O.1
  have hb := O.2.1
  have hts := O.2.2.2.2.1
  have hown := O.2.2.2.1
  have hK : va_K D vwCl (tz cA) s := O.2.2.2.2.2.2.2.2.1
  refine va_new (C := C) (T := T) (N := Z) (ci := ci) (fs := fs.map (rv b ca)) (A := fun q => b ≤ q) hx hb hts hin ty0 hty hown (hts _ hlk) (hts _ hi1) (hts _ hi2) hK hP wz_D hS (fun q hq => Nat.le_trans (by rw [O.2.2.2.2.2.2.2.2.2.1]; exact Nat.le_add_right _ _) hq) hc (hfs b ca) (Nat.le_trans hM O.2.2.2.2.2.2.2.2.2.2.2.2.1) (Nat.le_trans hN O.2.2.2.2.2.2.2.2.2.2.2.2.2.1) hd ?_
  intro q H1 hP1 hD1 hS1
  intro T hT X
  have q0 := J_addr X hT O.2.2.2.2.2.2.2.2.2.1 hk hP1 hD1
  subst q0
  have e1 : wz b ca cA h ++ [(b + h.length, Sum.inr (ci, fs.map (rv b ca)))] = wz b ca cA (h ++ [.inr (ci, fs)]) := wz_push (c := .inr (ci, fs))
  rw [e1] at hP1
  exact K O H1 locs ls hl hP1 hS1 T hT X
theorem J_newa0 {z : Int32} {Z : Nat} (hd : decode cc pc = .ok (.newarray .byte, 2)) (hw : Cond.arrayClass .byte ∈ gt) (hz : ¬ z < 0) (hZ : z.toNatClampNeg = Z) (hZb : Z * 8 ≤ 536870912) (hk : k + L0 = h.length) (hM : k + 1 ≤ M) (hN : n + Z ≤ N) (K : J x y cc nL rt d M N L0 (pc + 2) lv (.ref h.length :: st) (h ++ [.inl (0, Z, .inl (fun _ => 0))]) (k + 1) (n + Z)) : J x y cc nL rt d M N L0 pc lv (.int z :: st) h k n := by
  obtain ⟨p, l, e, R, s, m, args, below, meth, c, b, ca, cA, D, con, Q⟩ := x
  intro O H locs ls hl hP hS
  have hx := O.1
  have hb := O.2.1
  have hts := O.2.2.2.2.1
  have hown := O.2.2.2.1
  have hK : va_K D vwCl (tz cA) s := O.2.2.2.2.2.2.2.2.1
  refine va_newa (atype := .byte) (ty := .byte) (a0 := (Z, .inl (fun _ => 0))) (A := fun q => b ≤ q) hx hb (hts _ hw) rfl hK hP wz_D hS (fun q hq => Nat.le_trans (by rw [O.2.2.2.2.2.2.2.2.2.1]; exact Nat.le_add_right _ _) hq) (fun _ => rfl) hz hZ (Nat.le_trans (Nat.mul_le_mul_left Z (by decide)) hZb) (Nat.le_trans hM O.2.2.2.2.2.2.2.2.2.2.2.2.1) (Nat.le_trans hN O.2.2.2.2.2.2.2.2.2.2.2.2.2.1) hd ?_
  intro q cB H1 hK1 hP1 hD1 hS1
  intro T hT X
  have q0 := J_addr X hT O.2.2.2.2.2.2.2.2.2.1 hk hP1 hD1
  subst q0
  have hc1 := (hK1.2 7 (cB, .byte) rfl).2
  have hc2 := (hK.2 0 (cA 0, .byte) rfl).2
  have hc3 : cB = cA 0 := Option.some.inj (hc1.symm.trans hc2)
  subst hc3
  have e1 : wz b ca cA h ++ [(b + h.length, Sum.inl (cA 0, Z, .inl (fun _ => 0)))] = wz b ca cA (h ++ [.inl (0, Z, .inl (fun _ => 0))]) := wz_push (c := .inl (0, Z, .inl (fun _ => 0)))
  rw [e1] at hP1
  exact K O H1 locs ls hl hP1 hS1 T hT X
theorem J_newa1 {z : Int32} {Z : Nat} (hd : decode cc pc = .ok (.newarray .int, 2)) (hw : Cond.arrayClass .int ∈ gt) (hz : ¬ z < 0) (hZ : z.toNatClampNeg = Z) (hZb : Z * 8 ≤ 536870912) (hk : k + L0 = h.length) (hM : k + 1 ≤ M) (hN : n + Z ≤ N) (K : J x y cc nL rt d M N L0 (pc + 2) lv (.ref h.length :: st) (h ++ [.inl (1, Z, .inl (fun _ => 0))]) (k + 1) (n + Z)) : J x y cc nL rt d M N L0 pc lv (.int z :: st) h k n := by
  obtain ⟨p, l, e, R, s, m, args, below, meth, c, b, ca, cA, D, con, Q⟩ := x
  intro O H locs ls hl hP hS
  have hx := O.1
  have hb := O.2.1
  have hts := O.2.2.2.2.1
  have hown := O.2.2.2.1
  have hK : va_K D vwCl (tz cA) s := O.2.2.2.2.2.2.2.2.1
  refine va_newa (atype := .int) (ty := .int) (a0 := (Z, .inl (fun _ => 0))) (A := fun q => b ≤ q) hx hb (hts _ hw) rfl hK hP wz_D hS (fun q hq => Nat.le_trans (by rw [O.2.2.2.2.2.2.2.2.2.1]; exact Nat.le_add_right _ _) hq) (fun _ => rfl) hz hZ (Nat.le_trans (Nat.mul_le_mul_left Z (by decide)) hZb) (Nat.le_trans hM O.2.2.2.2.2.2.2.2.2.2.2.2.1) (Nat.le_trans hN O.2.2.2.2.2.2.2.2.2.2.2.2.2.1) hd ?_
  intro q cB H1 hK1 hP1 hD1 hS1
  intro T hT X
  have q0 := J_addr X hT O.2.2.2.2.2.2.2.2.2.1 hk hP1 hD1
  subst q0
  have hc1 := (hK1.2 7 (cB, .int) rfl).2
  have hc2 := (hK.2 1 (cA 1, .int) rfl).2
  have hc3 : cB = cA 1 := Option.some.inj (hc1.symm.trans hc2)
  subst hc3
  have e1 : wz b ca cA h ++ [(b + h.length, Sum.inl (cA 1, Z, .inl (fun _ => 0)))] = wz b ca cA (h ++ [.inl (1, Z, .inl (fun _ => 0))]) := wz_push (c := .inl (1, Z, .inl (fun _ => 0)))
  rw [e1] at hP1
  exact K O H1 locs ls hl hP1 hS1 T hT X
theorem J_newa2 {z : Int32} {Z : Nat} (hd : decode cc pc = .ok (.newarray .long, 2)) (hw : Cond.arrayClass .long ∈ gt) (hz : ¬ z < 0) (hZ : z.toNatClampNeg = Z) (hZb : Z * 8 ≤ 536870912) (hk : k + L0 = h.length) (hM : k + 1 ≤ M) (hN : n + Z ≤ N) (K : J x y cc nL rt d M N L0 (pc + 2) lv (.ref h.length :: st) (h ++ [.inl (2, Z, .inr (.inl (fun _ => 0)))]) (k + 1) (n + Z)) : J x y cc nL rt d M N L0 pc lv (.int z :: st) h k n := by
  obtain ⟨p, l, e, R, s, m, args, below, meth, c, b, ca, cA, D, con, Q⟩ := x
  intro O H locs ls hl hP hS
  have hx := O.1
  have hb := O.2.1
  have hts := O.2.2.2.2.1
  have hown := O.2.2.2.1
  have hK : va_K D vwCl (tz cA) s := O.2.2.2.2.2.2.2.2.1
  refine va_newa (atype := .long) (ty := .long) (a0 := (Z, .inr (.inl (fun _ => 0)))) (A := fun q => b ≤ q) hx hb (hts _ hw) rfl hK hP wz_D hS (fun q hq => Nat.le_trans (by rw [O.2.2.2.2.2.2.2.2.2.1]; exact Nat.le_add_right _ _) hq) (fun _ => rfl) hz hZ (Nat.le_trans (Nat.mul_le_mul_left Z (by decide)) hZb) (Nat.le_trans hM O.2.2.2.2.2.2.2.2.2.2.2.2.1) (Nat.le_trans hN O.2.2.2.2.2.2.2.2.2.2.2.2.2.1) hd ?_
  intro q cB H1 hK1 hP1 hD1 hS1
  intro T hT X
  have q0 := J_addr X hT O.2.2.2.2.2.2.2.2.2.1 hk hP1 hD1
  subst q0
  have hc1 := (hK1.2 7 (cB, .long) rfl).2
  have hc2 := (hK.2 2 (cA 2, .long) rfl).2
  have hc3 : cB = cA 2 := Option.some.inj (hc1.symm.trans hc2)
  subst hc3
  have e1 : wz b ca cA h ++ [(b + h.length, Sum.inl (cA 2, Z, .inr (.inl (fun _ => 0))))] = wz b ca cA (h ++ [.inl (2, Z, .inr (.inl (fun _ => 0)))]) := wz_push (c := .inl (2, Z, .inr (.inl (fun _ => 0))))
  rw [e1] at hP1
  exact K O H1 locs ls hl hP1 hS1 T hT X
theorem J_newa3 {z : Int32} {Z : Nat} (hd : decode cc pc = .ok (.newarray .boolean, 2)) (hw : Cond.arrayClass .boolean ∈ gt) (hz : ¬ z < 0) (hZ : z.toNatClampNeg = Z) (hZb : Z * 8 ≤ 536870912) (hk : k + L0 = h.length) (hM : k + 1 ≤ M) (hN : n + Z ≤ N) (K : J x y cc nL rt d M N L0 (pc + 2) lv (.ref h.length :: st) (h ++ [.inl (3, Z, .inl (fun _ => 0))]) (k + 1) (n + Z)) : J x y cc nL rt d M N L0 pc lv (.int z :: st) h k n := by
  obtain ⟨p, l, e, R, s, m, args, below, meth, c, b, ca, cA, D, con, Q⟩ := x
  intro O H locs ls hl hP hS
  have hx := O.1
  have hb := O.2.1
  have hts := O.2.2.2.2.1
  have hown := O.2.2.2.1
  have hK : va_K D vwCl (tz cA) s := O.2.2.2.2.2.2.2.2.1
  refine va_newa (atype := .boolean) (ty := .boolean) (a0 := (Z, .inl (fun _ => 0))) (A := fun q => b ≤ q) hx hb (hts _ hw) rfl hK hP wz_D hS (fun q hq => Nat.le_trans (by rw [O.2.2.2.2.2.2.2.2.2.1]; exact Nat.le_add_right _ _) hq) (fun _ => rfl) hz hZ (Nat.le_trans (Nat.mul_le_mul_left Z (by decide)) hZb) (Nat.le_trans hM O.2.2.2.2.2.2.2.2.2.2.2.2.1) (Nat.le_trans hN O.2.2.2.2.2.2.2.2.2.2.2.2.2.1) hd ?_
  intro q cB H1 hK1 hP1 hD1 hS1
  intro T hT X
  have q0 := J_addr X hT O.2.2.2.2.2.2.2.2.2.1 hk hP1 hD1
  subst q0
  have hc1 := (hK1.2 7 (cB, .boolean) rfl).2
  have hc2 := (hK.2 3 (cA 3, .boolean) rfl).2
  have hc3 : cB = cA 3 := Option.some.inj (hc1.symm.trans hc2)
  subst hc3
  have e1 : wz b ca cA h ++ [(b + h.length, Sum.inl (cA 3, Z, .inl (fun _ => 0)))] = wz b ca cA (h ++ [.inl (3, Z, .inl (fun _ => 0))]) := wz_push (c := .inl (3, Z, .inl (fun _ => 0)))
  rw [e1] at hP1
  exact K O H1 locs ls hl hP1 hS1 T hT X
theorem J_newq {C : String} {z : Int32} {Z ix t : Nat} (hd : decode cc pc = .ok (.anewarray ix, 3)) (hlk : Cond.classLink y.cls ix C ∈ gt) (hov : Cond.arrayOver (.object C) ∈ nt) (ht : ∀ cA : Nat → ClassId, (tz cA)[t]? = some (cA t, .object C)) (hz : ¬ z < 0) (hZ : z.toNatClampNeg = Z) (hZb : Z * 4 ≤ 536870912) (hk : k + L0 = h.length) (hM : k + 1 ≤ M) (hN : n + Z ≤ N) (K : J x y cc nL rt d M N L0 (pc + 3) lv (.ref h.length :: st) (h ++ [.inl (t, Z, .inr (.inr (fun _ => none)))]) (k + 1) (n + Z)) : J x y cc nL rt d M N L0 pc lv (.int z :: st) h k n := by
  obtain ⟨p, l, e, R, s, m, args, below, meth, c, b, ca, cA, D, con, Q⟩ := x
  intro O H locs ls hl hP hS
  have hx := O.1
  have hb := O.2.1
  have hts := O.2.2.2.2.1
  have hown := O.2.2.2.1
  have hK : va_K D vwCl (tz cA) s := O.2.2.2.2.2.2.2.2.1
  refine va_newq (A := fun q => b ≤ q) hx hb hown (hts _ hlk) (O.2.2.2.2.2.2.2.2.2.2.2.2.2.2.2.1 _ hov) hK hP wz_D hS (fun q hq => Nat.le_trans (by rw [O.2.2.2.2.2.2.2.2.2.1]; exact Nat.le_add_right _ _) hq) hz hZ hZb (Nat.le_trans hM O.2.2.2.2.2.2.2.2.2.2.2.2.1) (Nat.le_trans hN O.2.2.2.2.2.2.2.2.2.2.2.2.2.1) hd ?_
  intro q cB H1 hK1 hP1 hD1 hS1
  intro T hT X
  have q0 := J_addr X hT O.2.2.2.2.2.2.2.2.2.1 hk hP1 hD1
  subst q0
  obtain ⟨_, _, _, _, _, hc1⟩ := (hK1.2 7 (cB, .object C) rfl).2
  obtain ⟨_, _, _, _, _, hc2⟩ := (hK.2 t (cA t, .object C) (ht cA)).2
  have hc3 : cB = cA t := Option.some.inj (hc1.symm.trans hc2)
  subst hc3
  have e1 : wz b ca cA h ++ [(b + h.length, Sum.inl (cA t, Z, Sum.inr (Sum.inr (Sum.inr (Sum.inr (fun _ => none))))))] = wz b ca cA (h ++ [.inl (t, Z, .inr (.inr (fun _ => none)))]) := wz_push (c := .inl (t, Z, .inr (.inr (fun _ => none))))
  rw [e1] at hP1
  exact K O H1 locs ls hl hP1 hS1 T hT X
theorem J_obj {ix a : Nat} (hd : decode cc pc = .ok (.invokespecial ix, 3)) (hlk : Cond.methodLink y.cls ix objectInit ∈ gt) (hi : Cond.instanceMethod objectInit ∈ gt) (hco : Cond.code objectInit ⟨#[0xb1]⟩ 1 none ∈ gt) (hdd : 1 ≤ d) (hw : (st.map fun v => v.category).sum ≤ 8) (K : J x y cc nL rt d M N L0 (pc + 3) lv st h k n) : J x y cc nL rt d M N L0 pc lv (.ref a :: st) h k n := by
  obtain ⟨p, l, e, R, s, m, args, below, meth, c, b, ca, cA, D, con, Q⟩ := x
  intro O H locs ls hl hP hS
  have hx := O.1
  have hb := O.2.1
  have hts := O.2.2.2.2.1
  have hown := O.2.2.2.1
  have hK : va_K D vwCl (tz cA) s := O.2.2.2.2.2.2.2.2.1
  refine W.objInit hx hb hown (hts _ hlk) (hts _ hi) (hts _ hco) (g := F0 m pc ls ((Value.ref a :: st).map (rv b ca))) (rest := st.map (rv b ca)) rfl (by rw [O.2.2.1]; exact hl.1) rfl hd (Nat.le_trans hdd O.2.2.2.2.2.2.2.2.2.2.1) ?_ (K O H locs ls hl hP hS)
  have h1 : 2 * (F0 m pc ls ((Value.ref a :: st).map (rv b ca))).monitorRoom + ((st.map (rv b ca)).map fun v => v.category).sum ≤ 8 := lv_room (by rw [rv_sum]; exact hw)
  have h2 := O.2.2.2.2.2.2.2.2.2.2.2.1
  omega
theorem J_callV {con0 : JK} {d1 M1 N1 nL1 ix : Nat} {y1 : MethodName} {cc1 : ByteArray} {rt1 : Option FieldType} {Post1 : Option Value → List MC → Prop} {As rest : List Value} {a ci : Nat} {fs : List Value} {q : vw_C} (hd : decode cc pc = .ok (.invokevirtual ix, 3)) (hM : CT con0 d1 M1 N1 y1 cc1 nL1 rt1 (.ref a :: As) h Post1) (hN : JN x con0) (hi1 : Cond.methodLink y.cls ix y1 ∈ gt) (hi2 : Cond.instanceMethod y1 ∈ gt) (hi3 : Cond.selects y1.cls y1 y1 ∈ gt) (ha : h[a]? = some (.inr (ci, fs))) (hc : vwCl[ci]? = some q) (hq : q.1 = y1.cls) (hi4 : Cond.initialized y1.cls ∈ gt) (hi5 : Cond.code y1 cc1 nL1 rt1 ∈ gt) (hdn : y1.cls ≠ "java/lang/invoke/MethodHandle" ∧ y1.cls ≠ "java/lang/invoke/VarHandle" ∧ (parseMethodDescriptor y1.desc).map (fun d => d.parameters.length) = some As.length) (hdd : d1 + 1 ≤ d) (hmx : nL1 ≤ 19) (hMM : k + M1 ≤ M) (hNN : n + N1 ≤ N) (hk : k + L0 = h.length) (hst : st = As.reverse ++ .ref a :: rest) (hw : (rest.map fun v => v.category).sum ≤ 8) (K : ∀ (r : Option Value) (h1 : List MC), Post1 r h1 → J x y cc nL rt d M N L0 (pc + 3) lv (r.toList ++ rest) h1 (k + M1) (n + N1)) : J x y cc nL rt d M N L0 pc lv st h k n := by
  obtain ⟨p, l, e, R, s, m, args, below, meth, c, b, ca, cA, D, con, Q⟩ := x
  intro O H locs ls hl hP hS
  have hx := O.1
  have hb := O.2.1
  have hts := O.2.2.2.2.1
  have hown := O.2.2.2.1
  have hK : va_K D vwCl (tz cA) s := O.2.2.2.2.2.2.2.2.1
  intro T hT X
  have hz := J_size X hT O.2.2.2.2.2.2.2.2.2.1 hk hP hS
  have hMet := hM l b ca cA D con hN
  have hG : GoodIn gt (Cond.code y1 cc1 nL1 rt1 :: gt) := fun w hw => (List.mem_cons.mp hw).elim (fun q => by rw [q]; exact gt_gt _ hi5) (gt_gt w)
  have hR : (RM d1 M1 N1).frames + 1 ≤ R.frames ∧ 8 + (nL1 + 11) + (RM d1 M1 N1).locals ≤ R.locals := by
    have h1 := O.2.2.2.2.2.2.2.2.2.2.1
    have h2 := O.2.2.2.2.2.2.2.2.2.2.2.1
    show d1 + 1 ≤ R.frames ∧ 8 + (nL1 + 11) + 38 * d1 ≤ R.locals
    omega
  have hB := callB_of (R := R) (mc := M1) (ms := N1) As.length hts hG rfl rfl rfl (hts _ hi4) (hts _ hi1) hdn hR
  have hpc : ∀ U : State, U.heap = H → s.WarmedH U.vm → PC b ca cA D con (.ref a :: As) h (((.ref a :: As)).map (rv b ca)).toArray U := fun U hU hW => ⟨rfl, by rw [hU]; exact hz, by rw [hU]; exact hP, va_K.moved hW.alike hK, CN.moved O.2.2.2.2.2.2.2.2.2.2.2.2.2.2.1 hW.alike hU hS, NW.warm hW hU hS O.2.2.2.2.2.2.2.2.2.2.2.2.2.2.2⟩
  have hcs : k + M1 ≤ R.cells ∧ n + N1 ≤ R.slots := ⟨Nat.le_trans hMM O.2.2.2.2.2.2.2.2.2.2.2.2.1, Nat.le_trans hNN O.2.2.2.2.2.2.2.2.2.2.2.2.2.1⟩
  subst hst
  have hsk : (As.reverse ++ .ref a :: rest).map (rv b ca) = (As.map (rv b ca)).reverse ++ .ref (b + a) :: rest.map (rv b ca) := by simp [rv]
  have hrm : 2 * (F0 m pc ls ((As.reverse ++ .ref a :: rest).map (rv b ca))).monitorRoom + ((rest.map (rv b ca)).map fun v => v.category).sum ≤ 8 := lv_room (by rw [rv_sum]; exact hw)
  have hrc := va_recv hK hP hc (wz_get ha)
  rw [hq] at hrc
  obtain ⟨v, st₀, t, T1, L, h0, X1, hL, e1, e2, ⟨⟨r, h1, hv, hp, hz1, hP1, hK1⟩, hF⟩, go⟩ := va_runV (Ts := gt) (As := As.map (rv b ca)) (rest := rest.map (rv b ca)) (g := F0 m pc ls ((As.reverse ++ .ref a :: rest).map (rv b ca))) ⟨hx, hb, O.2.2.1, hown, hts⟩ hMet ⟨hB, hts _ hi2, hts _ hi3⟩ ⟨PC_blind _ _ _ _ _ _ _, hrc, hpc⟩ rfl (by rw [List.length_map]) hl.1 hsk hrm hd hcs T hT X
  cases hv
  have hS1 : va_S (fun q => b ≤ q) s.heap T1.heap (locs ++ L) := by
    have hF1 : H.size ≤ t.heap.size := by rw [← h0]; exact hF.1
    refine ⟨Nat.le_trans hS.1 (by rw [e1]; exact hF1), fun q h1 h2 => ?_, fun q hq => ?_⟩
    · rw [e1, hF.2 q (by rw [h0]; exact Nat.lt_of_lt_of_le h1 hS.1) h2, h0]
      exact hS.2.1 q h1 h2
    · rcases List.mem_append.mp hq with h | h
      · exact hS.2.2 q h
      · exact hL q h
  have kk := K r h1 hp O T1.heap (locs ++ L) ls hl (by rw [e1]; exact hP1) hS1 T1 rfl X1
  obtain ⟨t2, a1, b1⟩ := kk
  refine ⟨t2, go t2 ?_, b1⟩
  cases r <;> exact a1
theorem J_callS {con0 : JK} {d1 M1 N1 nL1 ix : Nat} {y1 : MethodName} {cc1 : ByteArray} {rt1 : Option FieldType} {Post1 : Option Value → List MC → Prop} {As rest : List Value} (hd : decode cc pc = .ok (.invokestatic ix, 3)) (hM : CT con0 d1 M1 N1 y1 cc1 nL1 rt1 As h Post1) (hN : JN x con0) (hi1 : Cond.methodLink y.cls ix y1 ∈ gt) (hi2 : Cond.static y1 ∈ gt) (hi4 : Cond.initialized y1.cls ∈ gt) (hi5 : Cond.code y1 cc1 nL1 rt1 ∈ gt) (hdn : y1.cls ≠ "java/lang/invoke/MethodHandle" ∧ y1.cls ≠ "java/lang/invoke/VarHandle" ∧ (parseMethodDescriptor y1.desc).map (fun d => d.parameters.length) = some As.length) (hdd : d1 + 1 ≤ d) (hmx : nL1 ≤ 19) (hMM : k + M1 ≤ M) (hNN : n + N1 ≤ N) (hk : k + L0 = h.length) (hst : st = As.reverse ++ rest) (hw : (rest.map fun v => v.category).sum ≤ 8) (K : ∀ (r : Option Value) (h1 : List MC), Post1 r h1 → J x y cc nL rt d M N L0 (pc + 3) lv (r.toList ++ rest) h1 (k + M1) (n + N1)) : J x y cc nL rt d M N L0 pc lv st h k n := by
  obtain ⟨p, l, e, R, s, m, args, below, meth, c, b, ca, cA, D, con, Q⟩ := x
  intro O H locs ls hl hP hS
  have hx := O.1
  have hb := O.2.1
  have hts := O.2.2.2.2.1
  have hown := O.2.2.2.1
  have hK : va_K D vwCl (tz cA) s := O.2.2.2.2.2.2.2.2.1
  intro T hT X
  have hz := J_size X hT O.2.2.2.2.2.2.2.2.2.1 hk hP hS
  have hMet := hM l b ca cA D con hN
  have hG : GoodIn gt (Cond.code y1 cc1 nL1 rt1 :: gt) := fun w hw => (List.mem_cons.mp hw).elim (fun q => by rw [q]; exact gt_gt _ hi5) (gt_gt w)
  have hR : (RM d1 M1 N1).frames + 1 ≤ R.frames ∧ 8 + (nL1 + 11) + (RM d1 M1 N1).locals ≤ R.locals := by
    have h1 := O.2.2.2.2.2.2.2.2.2.2.1
    have h2 := O.2.2.2.2.2.2.2.2.2.2.2.1
    show d1 + 1 ≤ R.frames ∧ 8 + (nL1 + 11) + 38 * d1 ≤ R.locals
    omega
  have hB := callB_of (R := R) (mc := M1) (ms := N1) As.length hts hG rfl rfl rfl (hts _ hi4) (hts _ hi1) hdn hR
  have hpc : ∀ U : State, U.heap = H → s.WarmedH U.vm → PC b ca cA D con As h ((As).map (rv b ca)).toArray U := fun U hU hW => ⟨rfl, by rw [hU]; exact hz, by rw [hU]; exact hP, va_K.moved hW.alike hK, CN.moved O.2.2.2.2.2.2.2.2.2.2.2.2.2.2.1 hW.alike hU hS, NW.warm hW hU hS O.2.2.2.2.2.2.2.2.2.2.2.2.2.2.2⟩
  have hcs : k + M1 ≤ R.cells ∧ n + N1 ≤ R.slots := ⟨Nat.le_trans hMM O.2.2.2.2.2.2.2.2.2.2.2.2.1, Nat.le_trans hNN O.2.2.2.2.2.2.2.2.2.2.2.2.2.1⟩
  subst hst
  have hsk : (As.reverse ++ rest).map (rv b ca) = (As.map (rv b ca)).reverse ++ rest.map (rv b ca) := by simp [rv]
  have hrm : 2 * (F0 m pc ls ((As.reverse ++ rest).map (rv b ca))).monitorRoom + ((rest.map (rv b ca)).map fun v => v.category).sum ≤ 8 := lv_room (by rw [rv_sum]; exact hw)
  obtain ⟨v, st₀, t, T1, L, h0, X1, hL, e1, e2, ⟨⟨r, h1, hv, hp, hz1, hP1, hK1⟩, hF⟩, go⟩ := va_runS (Ts := gt) (As := As.map (rv b ca)) (rest := rest.map (rv b ca)) (g := F0 m pc ls ((As.reverse ++ rest).map (rv b ca))) ⟨hx, hb, O.2.2.1, hown, hts⟩ hMet ⟨hB, hts _ hi2⟩ ⟨PC_blind _ _ _ _ _ _ _, hpc⟩ rfl (by rw [List.length_map]) hl.1 hsk hrm hd hcs T hT X
  cases hv
  have hS1 : va_S (fun q => b ≤ q) s.heap T1.heap (locs ++ L) := by
    have hF1 : H.size ≤ t.heap.size := by rw [← h0]; exact hF.1
    refine ⟨Nat.le_trans hS.1 (by rw [e1]; exact hF1), fun q h1 h2 => ?_, fun q hq => ?_⟩
    · rw [e1, hF.2 q (by rw [h0]; exact Nat.lt_of_lt_of_le h1 hS.1) h2, h0]
      exact hS.2.1 q h1 h2
    · rcases List.mem_append.mp hq with h | h
      · exact hS.2.2 q h
      · exact hL q h
  have kk := K r h1 hp O T1.heap (locs ++ L) ls hl (by rw [e1]; exact hP1) hS1 T1 rfl X1
  obtain ⟨t2, a1, b1⟩ := kk
  refine ⟨t2, go t2 ?_, b1⟩
  cases r <;> exact a1
theorem J_callSN {con0 : JK} {d1 M1 N1 nL1 ix : Nat} {y1 : MethodName} {cc1 : ByteArray} {rt1 : Option FieldType} {Post1 : Option Value → List MC → Prop} {As rest : List Value} {host : String} (hd : decode cc pc = .ok (.invokestatic ix, 3)) (hM : CT con0 d1 M1 N1 y1 cc1 nL1 rt1 As h Post1) (hN : JN x con0) (hi1 : Cond.methodLinkNest y.cls ix y1 host ∈ nt) (hi2 : Cond.static y1 ∈ gt) (hi4 : Cond.initialized y1.cls ∈ gt) (hi5 : Cond.code y1 cc1 nL1 rt1 ∈ gt) (hdn : y1.cls ≠ "java/lang/invoke/MethodHandle" ∧ y1.cls ≠ "java/lang/invoke/VarHandle" ∧ (parseMethodDescriptor y1.desc).map (fun d => d.parameters.length) = some As.length) (hdd : d1 + 1 ≤ d) (hmx : nL1 ≤ 19) (hMM : k + M1 ≤ M) (hNN : n + N1 ≤ N) (hk : k + L0 = h.length) (hst : st = As.reverse ++ rest) (hw : (rest.map fun v => v.category).sum ≤ 8) (K : ∀ (r : Option Value) (h1 : List MC), Post1 r h1 → J x y cc nL rt d M N L0 (pc + 3) lv (r.toList ++ rest) h1 (k + M1) (n + N1)) : J x y cc nL rt d M N L0 pc lv st h k n := by
  obtain ⟨p, l, e, R, s, m, args, below, meth, c, b, ca, cA, D, con, Q⟩ := x
  intro O H locs ls hl hP hS
  have hx := O.1
  have hb := O.2.1
  have hts := O.2.2.2.2.1
  have hown := O.2.2.2.1
  have hK : va_K D vwCl (tz cA) s := O.2.2.2.2.2.2.2.2.1
  intro T hT X
  have hz := J_size X hT O.2.2.2.2.2.2.2.2.2.1 hk hP hS
  have hMet := hM l b ca cA D con hN
  have hG : GoodIn gt (Cond.code y1 cc1 nL1 rt1 :: gt) := fun w hw => (List.mem_cons.mp hw).elim (fun q => by rw [q]; exact gt_gt _ hi5) (gt_gt w)
  have hR : (RM d1 M1 N1).frames + 1 ≤ R.frames ∧ 8 + (nL1 + 11) + (RM d1 M1 N1).locals ≤ R.locals := by
    have h1 := O.2.2.2.2.2.2.2.2.2.2.1
    have h2 := O.2.2.2.2.2.2.2.2.2.2.2.1
    show d1 + 1 ≤ R.frames ∧ 8 + (nL1 + 11) + 38 * d1 ≤ R.locals
    omega
  have hB := va_cnB (R := R) (mc := M1) (ms := N1) As.length hts hG rfl rfl rfl (O.2.2.2.2.2.2.2.2.2.2.2.2.2.2.2.1 _ hi1) (hts _ hi4) hdn hR
  have hpc : ∀ U : State, U.heap = H → s.WarmedH U.vm → PC b ca cA D con As h ((As).map (rv b ca)).toArray U := fun U hU hW => ⟨rfl, by rw [hU]; exact hz, by rw [hU]; exact hP, va_K.moved hW.alike hK, CN.moved O.2.2.2.2.2.2.2.2.2.2.2.2.2.2.1 hW.alike hU hS, NW.warm hW hU hS O.2.2.2.2.2.2.2.2.2.2.2.2.2.2.2⟩
  have hcs : k + M1 ≤ R.cells ∧ n + N1 ≤ R.slots := ⟨Nat.le_trans hMM O.2.2.2.2.2.2.2.2.2.2.2.2.1, Nat.le_trans hNN O.2.2.2.2.2.2.2.2.2.2.2.2.2.1⟩
  subst hst
  have hsk : (As.reverse ++ rest).map (rv b ca) = (As.map (rv b ca)).reverse ++ rest.map (rv b ca) := by simp [rv]
  have hrm : 2 * (F0 m pc ls ((As.reverse ++ rest).map (rv b ca))).monitorRoom + ((rest.map (rv b ca)).map fun v => v.category).sum ≤ 8 := lv_room (by rw [rv_sum]; exact hw)
  obtain ⟨v, st₀, t, T1, L, h0, X1, hL, e1, e2, ⟨⟨r, h1, hv, hp, hz1, hP1, hK1⟩, hF⟩, go⟩ := va_runSN (Ts := gt) (As := As.map (rv b ca)) (rest := rest.map (rv b ca)) (g := F0 m pc ls ((As.reverse ++ rest).map (rv b ca))) ⟨hx, hb, O.2.2.1, hown, hts⟩ hMet ⟨hB, hts _ hi2, trivial⟩ ⟨PC_blind _ _ _ _ _ _ _, hpc⟩ rfl (by rw [List.length_map]) hl.1 hsk hrm hd hcs T hT X
  cases hv
  have hS1 : va_S (fun q => b ≤ q) s.heap T1.heap (locs ++ L) := by
    have hF1 : H.size ≤ t.heap.size := by rw [← h0]; exact hF.1
    refine ⟨Nat.le_trans hS.1 (by rw [e1]; exact hF1), fun q h1 h2 => ?_, fun q hq => ?_⟩
    · rw [e1, hF.2 q (by rw [h0]; exact Nat.lt_of_lt_of_le h1 hS.1) h2, h0]
      exact hS.2.1 q h1 h2
    · rcases List.mem_append.mp hq with h | h
      · exact hS.2.2 q h
      · exact hL q h
  have kk := K r h1 hp O T1.heap (locs ++ L) ls hl (by rw [e1]; exact hP1) hS1 T1 rfl X1
  obtain ⟨t2, a1, b1⟩ := kk
  refine ⟨t2, go t2 ?_, b1⟩
  cases r <;> exact a1
theorem J_callI {con0 : JK} {d1 M1 N1 nL1 ix : Nat} {y1 : MethodName} {cc1 : ByteArray} {rt1 : Option FieldType} {Post1 : Option Value → List MC → Prop} {As rest : List Value} {a : Nat} (hd : decode cc pc = .ok (.invokespecial ix, 3)) (hM : CT con0 d1 M1 N1 y1 cc1 nL1 rt1 (.ref a :: As) h Post1) (hN : JN x con0) (hi1 : Cond.methodLink y.cls ix y1 ∈ gt) (hi2 : Cond.instanceMethod y1 ∈ gt) (hnm : y1.name = "<init>") (hrt : rt1 = none) (hi4 : Cond.initialized y1.cls ∈ gt) (hi5 : Cond.code y1 cc1 nL1 rt1 ∈ gt) (hdn : y1.cls ≠ "java/lang/invoke/MethodHandle" ∧ y1.cls ≠ "java/lang/invoke/VarHandle" ∧ (parseMethodDescriptor y1.desc).map (fun d => d.parameters.length) = some As.length) (hdd : d1 + 1 ≤ d) (hmx : nL1 ≤ 19) (hMM : k + M1 ≤ M) (hNN : n + N1 ≤ N) (hk : k + L0 = h.length) (hst : st = As.reverse ++ .ref a :: rest) (hw : (rest.map fun v => v.category).sum ≤ 8) (K : ∀ (r : Option Value) (h1 : List MC), Post1 r h1 → J x y cc nL rt d M N L0 (pc + 3) lv (r.toList ++ rest) h1 (k + M1) (n + N1)) : J x y cc nL rt d M N L0 pc lv st h k n := by
  subst hrt
  obtain ⟨p, l, e, R, s, m, args, below, meth, c, b, ca, cA, D, con, Q⟩ := x
  intro O H locs ls hl hP hS
  have hx := O.1
  have hb := O.2.1
  have hts := O.2.2.2.2.1
  have hown := O.2.2.2.1
  have hK : va_K D vwCl (tz cA) s := O.2.2.2.2.2.2.2.2.1
  intro T hT X
  have hz := J_size X hT O.2.2.2.2.2.2.2.2.2.1 hk hP hS
  have hMet := hM l b ca cA D con hN
  have hG : GoodIn gt (Cond.code y1 cc1 nL1 none :: gt) := fun w hw => (List.mem_cons.mp hw).elim (fun q => by rw [q]; exact gt_gt _ hi5) (gt_gt w)
  have hR : (RM d1 M1 N1).frames + 1 ≤ R.frames ∧ 8 + (nL1 + 11) + (RM d1 M1 N1).locals ≤ R.locals := by
    have h1 := O.2.2.2.2.2.2.2.2.2.2.1
    have h2 := O.2.2.2.2.2.2.2.2.2.2.2.1
    show d1 + 1 ≤ R.frames ∧ 8 + (nL1 + 11) + 38 * d1 ≤ R.locals
    omega
  have hB := callB_of (R := R) (mc := M1) (ms := N1) As.length hts hG rfl rfl rfl (hts _ hi4) (hts _ hi1) hdn hR
  have hpc : ∀ U : State, U.heap = H → s.WarmedH U.vm → PC b ca cA D con (.ref a :: As) h (((.ref a :: As)).map (rv b ca)).toArray U := fun U hU hW => ⟨rfl, by rw [hU]; exact hz, by rw [hU]; exact hP, va_K.moved hW.alike hK, CN.moved O.2.2.2.2.2.2.2.2.2.2.2.2.2.2.1 hW.alike hU hS, NW.warm hW hU hS O.2.2.2.2.2.2.2.2.2.2.2.2.2.2.2⟩
  have hcs : k + M1 ≤ R.cells ∧ n + N1 ≤ R.slots := ⟨Nat.le_trans hMM O.2.2.2.2.2.2.2.2.2.2.2.2.1, Nat.le_trans hNN O.2.2.2.2.2.2.2.2.2.2.2.2.2.1⟩
  subst hst
  have hsk : (As.reverse ++ .ref a :: rest).map (rv b ca) = (As.map (rv b ca)).reverse ++ .ref (b + a) :: rest.map (rv b ca) := by simp [rv]
  have hrm : 2 * (F0 m pc ls ((As.reverse ++ .ref a :: rest).map (rv b ca))).monitorRoom + ((rest.map (rv b ca)).map fun v => v.category).sum ≤ 8 := lv_room (by rw [rv_sum]; exact hw)
  obtain ⟨v, st₀, t, T1, L, h0, X1, hL, e1, e2, ⟨⟨r, h1, hv, hp, hz1, hP1, hK1⟩, hF⟩, go⟩ := va_runI (Ts := gt) (As := As.map (rv b ca)) (rest := rest.map (rv b ca)) (g := F0 m pc ls ((As.reverse ++ .ref a :: rest).map (rv b ca))) ⟨hx, hb, O.2.2.1, hown, hts⟩ hMet ⟨hB, hnm, hts _ hi2⟩ ⟨PC_blind _ _ _ _ _ _ _, hpc⟩ rfl (by rw [List.length_map]) hl.1 hsk hrm hd hcs T hT X
  cases hv
  have hS1 : va_S (fun q => b ≤ q) s.heap T1.heap (locs ++ L) := by
    have hF1 : H.size ≤ t.heap.size := by rw [← h0]; exact hF.1
    refine ⟨Nat.le_trans hS.1 (by rw [e1]; exact hF1), fun q h1 h2 => ?_, fun q hq => ?_⟩
    · rw [e1, hF.2 q (by rw [h0]; exact Nat.lt_of_lt_of_le h1 hS.1) h2, h0]
      exact hS.2.1 q h1 h2
    · rcases List.mem_append.mp hq with h | h
      · exact hS.2.2 q h
      · exact hL q h
  have kk := K r h1 hp O T1.heap (locs ++ L) ls hl (by rw [e1]; exact hP1) hS1 T1 rfl X1
  obtain ⟨t2, a1, b1⟩ := kk
  refine ⟨t2, go t2 ?_, b1⟩
  cases r <;> exact a1
theorem J_callVC {con0 : JK} {d1 M1 N1 nL1 ix : Nat} {y1 : MethodName} {cc1 : ByteArray} {rt1 : Option FieldType} {Post1 : Option Value → List MC → Prop} {As rest : List Value} {i : Nat} (hd : decode cc pc = .ok (.invokevirtual ix, 3)) (hM : CT con0 d1 M1 N1 y1 cc1 nL1 rt1 (.retAddr (10 + i) :: As) h Post1) (hN : JN x con0) (hi1 : Cond.methodLink y.cls ix y1 ∈ gt) (hi2 : Cond.instanceMethod y1 ∈ gt) (hi3 : Cond.selects y1.cls y1 y1 ∈ gt) (hii : i < 18) (hq : "java/lang/String" = y1.cls) (hi4 : Cond.initialized y1.cls ∈ gt) (hi5 : Cond.code y1 cc1 nL1 rt1 ∈ gt) (hdn : y1.cls ≠ "java/lang/invoke/MethodHandle" ∧ y1.cls ≠ "java/lang/invoke/VarHandle" ∧ (parseMethodDescriptor y1.desc).map (fun d => d.parameters.length) = some As.length) (hdd : d1 + 1 ≤ d) (hmx : nL1 ≤ 19) (hMM : k + M1 ≤ M) (hNN : n + N1 ≤ N) (hk : k + L0 = h.length) (hst : st = As.reverse ++ .retAddr (10 + i) :: rest) (hw : (rest.map fun v => v.category).sum ≤ 8) (K : ∀ (r : Option Value) (h1 : List MC), Post1 r h1 → J x y cc nL rt d M N L0 (pc + 3) lv (r.toList ++ rest) h1 (k + M1) (n + N1)) : J x y cc nL rt d M N L0 pc lv st h k n := by
  obtain ⟨p, l, e, R, s, m, args, below, meth, c, b, ca, cA, D, con, Q⟩ := x
  intro O H locs ls hl hP hS
  have hx := O.1
  have hb := O.2.1
  have hts := O.2.2.2.2.1
  have hown := O.2.2.2.1
  have hK : va_K D vwCl (tz cA) s := O.2.2.2.2.2.2.2.2.1
  intro T hT X
  have hz := J_size X hT O.2.2.2.2.2.2.2.2.2.1 hk hP hS
  have hMet := hM l b ca cA D con hN
  have hG : GoodIn gt (Cond.code y1 cc1 nL1 rt1 :: gt) := fun w hw => (List.mem_cons.mp hw).elim (fun q => by rw [q]; exact gt_gt _ hi5) (gt_gt w)
  have hR : (RM d1 M1 N1).frames + 1 ≤ R.frames ∧ 8 + (nL1 + 11) + (RM d1 M1 N1).locals ≤ R.locals := by
    have h1 := O.2.2.2.2.2.2.2.2.2.2.1
    have h2 := O.2.2.2.2.2.2.2.2.2.2.2.1
    show d1 + 1 ≤ R.frames ∧ 8 + (nL1 + 11) + 38 * d1 ≤ R.locals
    omega
  have hB := callB_of (R := R) (mc := M1) (ms := N1) As.length hts hG rfl rfl rfl (hts _ hi4) (hts _ hi1) hdn hR
  have hpc : ∀ U : State, U.heap = H → s.WarmedH U.vm → PC b ca cA D con (.retAddr (10 + i) :: As) h (((.retAddr (10 + i) :: As)).map (rv b ca)).toArray U := fun U hU hW => ⟨rfl, by rw [hU]; exact hz, by rw [hU]; exact hP, va_K.moved hW.alike hK, CN.moved O.2.2.2.2.2.2.2.2.2.2.2.2.2.2.1 hW.alike hU hS, NW.warm hW hU hS O.2.2.2.2.2.2.2.2.2.2.2.2.2.2.2⟩
  have hcs : k + M1 ≤ R.cells ∧ n + N1 ≤ R.slots := ⟨Nat.le_trans hMM O.2.2.2.2.2.2.2.2.2.2.2.2.1, Nat.le_trans hNN O.2.2.2.2.2.2.2.2.2.2.2.2.2.1⟩
  subst hst
  have hsk : (As.reverse ++ .retAddr (10 + i) :: rest).map (rv b ca) = (As.map (rv b ca)).reverse ++ .ref (ca (10 + i)) :: rest.map (rv b ca) := by simp [rv]
  have hrm : 2 * (F0 m pc ls ((As.reverse ++ .retAddr (10 + i) :: rest).map (rv b ca))).monitorRoom + ((rest.map (rv b ca)).map fun v => v.category).sum ≤ 8 := lv_room (by rw [rv_sum]; exact hw)
  have hrc := vk_recv (i := i) (O.2.2.2.2.2.2.2.2.2.2.2.2.2.2.2.2.2.2.1) hii hS
  rw [hq] at hrc
  obtain ⟨v, st₀, t, T1, L, h0, X1, hL, e1, e2, ⟨⟨r, h1, hv, hp, hz1, hP1, hK1⟩, hF⟩, go⟩ := va_runV (Ts := gt) (As := As.map (rv b ca)) (rest := rest.map (rv b ca)) (g := F0 m pc ls ((As.reverse ++ .retAddr (10 + i) :: rest).map (rv b ca))) ⟨hx, hb, O.2.2.1, hown, hts⟩ hMet ⟨hB, hts _ hi2, hts _ hi3⟩ ⟨PC_blind _ _ _ _ _ _ _, hrc, hpc⟩ rfl (by rw [List.length_map]) hl.1 hsk hrm hd hcs T hT X
  cases hv
  have hS1 : va_S (fun q => b ≤ q) s.heap T1.heap (locs ++ L) := by
    have hF1 : H.size ≤ t.heap.size := by rw [← h0]; exact hF.1
    refine ⟨Nat.le_trans hS.1 (by rw [e1]; exact hF1), fun q h1 h2 => ?_, fun q hq => ?_⟩
    · rw [e1, hF.2 q (by rw [h0]; exact Nat.lt_of_lt_of_le h1 hS.1) h2, h0]
      exact hS.2.1 q h1 h2
    · rcases List.mem_append.mp hq with h | h
      · exact hS.2.2 q h
      · exact hL q h
  have kk := K r h1 hp O T1.heap (locs ++ L) ls hl (by rw [e1]; exact hP1) hS1 T1 rfl X1
  obtain ⟨t2, a1, b1⟩ := kk
  refine ⟨t2, go t2 ?_, b1⟩
  cases r <;> exact a1
theorem J_callIN {con0 : JK} {d1 M1 N1 nL1 ix : Nat} {y1 : MethodName} {cc1 : ByteArray} {rt1 : Option FieldType} {Post1 : Option Value → List MC → Prop} {As rest : List Value} {a : Nat} {host : String} (hd : decode cc pc = .ok (.invokespecial ix, 3)) (hM : CT con0 d1 M1 N1 y1 cc1 nL1 rt1 (.ref a :: As) h Post1) (hN : JN x con0) (hi1 : Cond.methodLinkNest y.cls ix y1 host ∈ nt) (hi2 : Cond.instanceMethod y1 ∈ gt) (hnm : y1.name = "<init>") (hrt : rt1 = none) (hi4 : Cond.initialized y1.cls ∈ gt) (hi5 : Cond.code y1 cc1 nL1 rt1 ∈ gt) (hdn : y1.cls ≠ "java/lang/invoke/MethodHandle" ∧ y1.cls ≠ "java/lang/invoke/VarHandle" ∧ (parseMethodDescriptor y1.desc).map (fun d => d.parameters.length) = some As.length) (hdd : d1 + 1 ≤ d) (hmx : nL1 ≤ 19) (hMM : k + M1 ≤ M) (hNN : n + N1 ≤ N) (hk : k + L0 = h.length) (hst : st = As.reverse ++ .ref a :: rest) (hw : (rest.map fun v => v.category).sum ≤ 8) (K : ∀ (r : Option Value) (h1 : List MC), Post1 r h1 → J x y cc nL rt d M N L0 (pc + 3) lv (r.toList ++ rest) h1 (k + M1) (n + N1)) : J x y cc nL rt d M N L0 pc lv st h k n := by
  subst hrt
  obtain ⟨p, l, e, R, s, m, args, below, meth, c, b, ca, cA, D, con, Q⟩ := x
  intro O H locs ls hl hP hS
  have hx := O.1
  have hb := O.2.1
  have hts := O.2.2.2.2.1
  have hown := O.2.2.2.1
  have hK : va_K D vwCl (tz cA) s := O.2.2.2.2.2.2.2.2.1
  intro T hT X
  have hz := J_size X hT O.2.2.2.2.2.2.2.2.2.1 hk hP hS
  have hMet := hM l b ca cA D con hN
  have hG : GoodIn gt (Cond.code y1 cc1 nL1 none :: gt) := fun w hw => (List.mem_cons.mp hw).elim (fun q => by rw [q]; exact gt_gt _ hi5) (gt_gt w)
  have hR : (RM d1 M1 N1).frames + 1 ≤ R.frames ∧ 8 + (nL1 + 11) + (RM d1 M1 N1).locals ≤ R.locals := by
    have h1 := O.2.2.2.2.2.2.2.2.2.2.1
    have h2 := O.2.2.2.2.2.2.2.2.2.2.2.1
    show d1 + 1 ≤ R.frames ∧ 8 + (nL1 + 11) + 38 * d1 ≤ R.locals
    omega
  have hB := va_cnB (R := R) (mc := M1) (ms := N1) As.length hts hG rfl rfl rfl (O.2.2.2.2.2.2.2.2.2.2.2.2.2.2.2.1 _ hi1) (hts _ hi4) hdn hR
  have hpc : ∀ U : State, U.heap = H → s.WarmedH U.vm → PC b ca cA D con (.ref a :: As) h (((.ref a :: As)).map (rv b ca)).toArray U := fun U hU hW => ⟨rfl, by rw [hU]; exact hz, by rw [hU]; exact hP, va_K.moved hW.alike hK, CN.moved O.2.2.2.2.2.2.2.2.2.2.2.2.2.2.1 hW.alike hU hS, NW.warm hW hU hS O.2.2.2.2.2.2.2.2.2.2.2.2.2.2.2⟩
  have hcs : k + M1 ≤ R.cells ∧ n + N1 ≤ R.slots := ⟨Nat.le_trans hMM O.2.2.2.2.2.2.2.2.2.2.2.2.1, Nat.le_trans hNN O.2.2.2.2.2.2.2.2.2.2.2.2.2.1⟩
  subst hst
  have hsk : (As.reverse ++ .ref a :: rest).map (rv b ca) = (As.map (rv b ca)).reverse ++ .ref (b + a) :: rest.map (rv b ca) := by simp [rv]
  have hrm : 2 * (F0 m pc ls ((As.reverse ++ .ref a :: rest).map (rv b ca))).monitorRoom + ((rest.map (rv b ca)).map fun v => v.category).sum ≤ 8 := lv_room (by rw [rv_sum]; exact hw)
  obtain ⟨v, st₀, t, T1, L, h0, X1, hL, e1, e2, ⟨⟨r, h1, hv, hp, hz1, hP1, hK1⟩, hF⟩, go⟩ := va_runIN (Ts := gt) (As := As.map (rv b ca)) (rest := rest.map (rv b ca)) (g := F0 m pc ls ((As.reverse ++ .ref a :: rest).map (rv b ca))) ⟨hx, hb, O.2.2.1, hown, hts⟩ hMet ⟨hB, hnm, hts _ hi2⟩ ⟨PC_blind _ _ _ _ _ _ _, hpc⟩ rfl (by rw [List.length_map]) hl.1 hsk hrm hd hcs T hT X
  cases hv
  have hS1 : va_S (fun q => b ≤ q) s.heap T1.heap (locs ++ L) := by
    have hF1 : H.size ≤ t.heap.size := by rw [← h0]; exact hF.1
    refine ⟨Nat.le_trans hS.1 (by rw [e1]; exact hF1), fun q h1 h2 => ?_, fun q hq => ?_⟩
    · rw [e1, hF.2 q (by rw [h0]; exact Nat.lt_of_lt_of_le h1 hS.1) h2, h0]
      exact hS.2.1 q h1 h2
    · rcases List.mem_append.mp hq with h | h
      · exact hS.2.2 q h
      · exact hL q h
  have kk := K r h1 hp O T1.heap (locs ++ L) ls hl (by rw [e1]; exact hP1) hS1 T1 rfl X1
  obtain ⟨t2, a1, b1⟩ := kk
  refine ⟨t2, go t2 ?_, b1⟩
  cases r <;> exact a1
end

