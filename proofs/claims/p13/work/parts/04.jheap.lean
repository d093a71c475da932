/-! the J layer: fields, arrays, new, calls, returns -/
theorem J_size {p : Program} {l : Launch} {e : Env} {R : Room} {s T : State} {m : MethodId} {args : Array Value} {below : List Frame} {meth : Method} {c : Code} {locs : List Loc} {k n b L0 : Nat} {ca : Nat → Nat} {cA : Nat → ClassId} {D : va_G} {h : List MC} {H : Heap} (X : Stand p l e R s m args below meth c T locs k n) (hT : T.heap = H) (hL : s.heap.size = b + L0) (hk : k + L0 = h.length) (hP : va_P D vwCl (wz b ca cA h) H) (hS : va_S (fun q => b ≤ q) s.heap H locs) : H.size = b + h.length := by
  have h1 := X.heapSize
  rw [hT] at h1
  have h2 : b + h.length ≤ H.size := by
    cases hl : h.length with
    | zero => have := hS.1; omega
    | succ z =>
      have hz : z < h.length := by omega
      have h3 := (hP z _ (wz_get (List.getElem?_eq_getElem hz))).lt
      have h4 : b + z < H.size := h3
      omega
  omega
section
variable {x : JX} {y : MethodName} {cc : ByteArray} {nL : Nat} {rt : Option FieldType} {d M N L0 : Nat} {pc : Nat} {lv : List (Nat × Value)} {st : List Value} {h : List MC} {k n : Nat}
theorem J_get {C : String} {T : u_T} {Z ci ix f a : Nat} {fs : List Value} {v : Value} (hd : decode cc pc = .ok (.getfield ix, 3)) (hin : ∀ w ∈ u_ws C T Z, w ∈ gt) (hc : vwCl[ci]? = some (C, T, Z)) (hf : f < Z) (hlk : Cond.fieldLink y.cls ix (T f).1 (T f).2.1 (T f).2.2.1 ∈ gt) (ha : h[a]? = some (.inr (ci, fs))) (hv : fs[f]? = some v) (K : J x y cc nL rt d M N L0 (pc + 3) lv (v :: st) h k n) : J x y cc nL rt d M N L0 pc lv (.ref a :: st) h k n := by
  obtain ⟨p, l, e, R, s, m, args, below, meth, c, b, ca, cA, D, con, Q⟩ := x
  intro O H locs ls hl hP hS
  have hx := O.1
  have hb := O.2.1
  have hts := O.2.2.2.2.1
  have hown := O.2.2.2.1
  have hK : va_K D vwCl (tz cA) s := O.2.2.2.2.2.2.2.2.1
  exact va_get (D := D) (C := C) (T := T) (N := Z) hx hb hts hin hown hK hP a (fs := fs.map (rv b ca)) (wz_get ha) hc f hf (hts _ hlk) (fun _ q => q) (by rw [List.getElem?_map, hv]; rfl) hd (K O H locs ls hl hP hS)
theorem J_put {C : String} {T : u_T} {Z ci ix f a : Nat} {fs : List Value} {v : Value} {ty0 : Nat → FieldType} {ty : FieldType} {h2 : List MC} (hd : decode cc pc = .ok (.putfield ix, 3)) (hin : ∀ w ∈ u_ws C T Z, w ∈ gt) (hc : vwCl[ci]? = some (C, T, Z)) (hty : ∀ k, k < Z → parseFieldDescriptor (T k).2.2.1 = some (ty0 k)) (hnm : ∀ a, a < Z → ∀ b, b < Z → a ≠ b → (T a).2.1 ≠ (T b).2.1) (hf : f < Z) (hlk : Cond.fieldLink y.cls ix (T f).1 (T f).2.1 (T f).2.2.1 ∈ gt) (hfin : (T f).2.2.2 = false) (ht : ty0 f = ty) (ha : h[a]? = some (.inr (ci, fs))) (hl0 : f < fs.length) (hv : ∀ (b : Nat) (ca : Nat → Nat), narrow ty (rv b ca v) = rv b ca v ∧ fits ty (rv b ca v) = true) (h2e : h.set a (.inr (ci, fs.set f v)) = h2) (K : J x y cc nL rt d M N L0 (pc + 3) lv st h2 k n) : J x y cc nL rt d M N L0 pc lv (v :: .ref a :: st) h k n := by
  obtain ⟨p, l, e, R, s, m, args, below, meth, c, b, ca, cA, D, con, Q⟩ := x
  intro O H locs ls hl hP hS
  have hx := O.1
  have hb := O.2.1
  have hts := O.2.2.2.2.1
  have hown := O.2.2.2.1
  have hK : va_K D vwCl (tz cA) s := O.2.2.2.2.2.2.2.2.1
  refine va_put (D := D) (C := C) (T := T) (N := Z) (A := fun q => b ≤ q) hx hb hts hin ty0 hty hnm hown hK hP wz_D hS a (fs := fs.map (rv b ca)) (wz_get ha) hc f hf (hts _ hlk) (fun _ q => q) hfin (ht ▸ hty f hf) (hv b ca).1 (hv b ca).2 (by rw [List.length_map]; exact hl0) hd ?_
  intro H1 locs1 hP1 _ hS1
  subst h2e
  have e1 : (wz b ca cA h).set a (b + a, Sum.inr (ci, (fs.map (rv b ca)).set f (rv b ca v))) = wz b ca cA (h.set a (.inr (ci, fs.set f v))) := by
    rw [← wz_set]
    show _ = (wz b ca cA h).set a (b + a, Sum.inr (ci, (fs.set f v).map (rv b ca)))
    rw [List.map_set]
  rw [e1] at hP1
  exact K O H1 locs1 ls hl hP1 hS1
theorem J_getN {C : String} {T : u_T} {Z ci ix f a : Nat} {fs : List Value} {v : Value} {host : String} (hd : decode cc pc = .ok (.getfield ix, 3)) (hin : ∀ w ∈ u_ws C T Z, w ∈ gt) (hc : vwCl[ci]? = some (C, T, Z)) (hf : f < Z) (hlk : Cond.fieldLinkNest y.cls ix (T f).1 (T f).2.1 (T f).2.2.1 host ∈ nt) (ha : h[a]? = some (.inr (ci, fs))) (hv : fs[f]? = some v) (K : J x y cc nL rt d M N L0 (pc + 3) lv (v :: st) h k n) : J x y cc nL rt d M N L0 pc lv (.ref a :: st) h k n := by
  obtain ⟨p, l, e, R, s, m, args, below, meth, c, b, ca, cA, D, con, Q⟩ := x
  intro O H locs ls hl hP hS
  have hx := O.1
  have hb := O.2.1
  have hts := O.2.2.2.2.1
  have hown := O.2.2.2.1
  have hK : va_K D vwCl (tz cA) s := O.2.2.2.2.2.2.2.2.1
  exact va_getN (D := D) (C := C) (T := T) (N := Z) hx hb hts hin hown hK hP a (fs := fs.map (rv b ca)) (wz_get ha) hc f hf (va_Nw.use rfl (O.2.2.2.2.2.2.2.2.2.2.2.2.2.2.2.1 _ hlk)) (fun _ q => q) (by rw [List.getElem?_map, hv]; rfl) hd (K O H locs ls hl hP hS)
theorem J_putN {C : String} {T : u_T} {Z ci ix f a : Nat} {fs : List Value} {v : Value} {ty0 : Nat → FieldType} {ty : FieldType} {h2 : List MC} {host : String} (hd : decode cc pc = .ok (.putfield ix, 3)) (hin : ∀ w ∈ u_ws C T Z, w ∈ gt) (hc : vwCl[ci]? = some (C, T, Z)) (hty : ∀ k, k < Z → parseFieldDescriptor (T k).2.2.1 = some (ty0 k)) (hnm : ∀ a, a < Z → ∀ b, b < Z → a ≠ b → (T a).2.1 ≠ (T b).2.1) (hf : f < Z) (hlk : Cond.fieldLinkNest y.cls ix (T f).1 (T f).2.1 (T f).2.2.1 host ∈ nt) (hfin : (T f).2.2.2 = false) (ht : ty0 f = ty) (ha : h[a]? = some (.inr (ci, fs))) (hl0 : f < fs.length) (hv : ∀ (b : Nat) (ca : Nat → Nat), narrow ty (rv b ca v) = rv b ca v ∧ fits ty (rv b ca v) = true) (h2e : h.set a (.inr (ci, fs.set f v)) = h2) (K : J x y cc nL rt d M N L0 (pc + 3) lv st h2 k n) : J x y cc nL rt d M N L0 pc lv (v :: .ref a :: st) h k n := by
  obtain ⟨p, l, e, R, s, m, args, below, meth, c, b, ca, cA, D, con, Q⟩ := x
  intro O H locs ls hl hP hS
  have hx := O.1
  have hb := O.2.1
  have hts := O.2.2.2.2.1
  have hown := O.2.2.2.1
  have hK : va_K D vwCl (tz cA) s := O.2.2.2.2.2.2.2.2.1
  refine va_putN (D := D) (C := C) (T := T) (N := Z) (A := fun q => b ≤ q) hx hb hts hin ty0 hty hnm hown hK hP wz_D hS a (fs := fs.map (rv b ca)) (wz_get ha) hc f hf (va_Nw.use rfl (O.2.2.2.2.2.2.2.2.2.2.2.2.2.2.2.1 _ hlk)) (fun _ q => q) hfin (ht ▸ hty f hf) (hv b ca).1 (hv b ca).2 (by rw [List.length_map]; exact hl0) hd ?_
  intro H1 locs1 hP1 _ hS1
  subst h2e
  have e1 : (wz b ca cA h).set a (b + a, Sum.inr (ci, (fs.map (rv b ca)).set f (rv b ca v))) = wz b ca cA (h.set a (.inr (ci, fs.set f v))) := by
    rw [← wz_set]
    show _ = (wz b ca cA h).set a (b + a, Sum.inr (ci, (fs.set f v).map (rv b ca)))
    rw [List.map_set]
  rw [e1] at hP1
  exact K O H1 locs1 ls hl hP1 hS1
theorem J_putF {C : String} {T : u_T} {Z ci ix f a : Nat} {fs : List Value} {v : Value} {ty0 : Nat → FieldType} {ty : FieldType} {h2 : List MC} (hd : decode cc pc = .ok (.putfield ix, 3)) (hin : ∀ w ∈ u_ws C T Z, w ∈ gt) (hc : vwCl[ci]? = some (C, T, Z)) (hty : ∀ k, k < Z → parseFieldDescriptor (T k).2.2.1 = some (ty0 k)) (hnm : ∀ a, a < Z → ∀ b, b < Z → a ≠ b → (T a).2.1 ≠ (T b).2.1) (hf : f < Z) (hlk : Cond.fieldLink y.cls ix (T f).1 (T f).2.1 (T f).2.2.1 ∈ gt) (hfin : (T f).2.2.2 = true) (hin2 : y.name = "<init>") (hdc : (T f).1 = y.cls) (ht : ty0 f = ty) (ha : h[a]? = some (.inr (ci, fs))) (hl0 : f < fs.length) (hv : ∀ (b : Nat) (ca : Nat → Nat), narrow ty (rv b ca v) = rv b ca v ∧ fits ty (rv b ca v) = true) (h2e : h.set a (.inr (ci, fs.set f v)) = h2) (K : J x y cc nL rt d M N L0 (pc + 3) lv st h2 k n) : J x y cc nL rt d M N L0 pc lv (v :: .ref a :: st) h k n := by
  obtain ⟨p, l, e, R, s, m, args, below, meth, c, b, ca, cA, D, con, Q⟩ := x
  intro O H locs ls hl hP hS
  have hx := O.1
  have hb := O.2.1
  have hts := O.2.2.2.2.1
  have hown := O.2.2.2.1
  have hK : va_K D vwCl (tz cA) s := O.2.2.2.2.2.2.2.2.1
  refine va_putF (D := D) (C := C) (T := T) (N := Z) (A := fun q => b ≤ q) hx hb hts hin ty0 hty hnm hown hK hP wz_D hS a (fs := fs.map (rv b ca)) (wz_get ha) hc f hf (hts _ hlk) (fun _ q => q) hfin (O.2.2.2.2.2.2.2.1 hin2) hdc (ht ▸ hty f hf) (hv b ca).1 (hv b ca).2 (by rw [List.length_map]; exact hl0) hd ?_
  intro H1 locs1 hP1 _ hS1
  subst h2e
  have e1 : (wz b ca cA h).set a (b + a, Sum.inr (ci, (fs.map (rv b ca)).set f (rv b ca v))) = wz b ca cA (h.set a (.inr (ci, fs.set f v))) := by
    rw [← wz_set]
    show _ = (wz b ca cA h).set a (b + a, Sum.inr (ci, (fs.set f v).map (rv b ca)))
    rw [List.map_set]
  rw [e1] at hP1
  exact K O H1 locs1 ls hl hP1 hS1
theorem J_iald {a z : Nat} {f : Nat → Int32} {i : Int32} (hd : decode cc pc = .ok (.iaload, 1)) (ha : h[a]? = some (.inl (1, z, .inl f))) (hi : vp_in i z) (K : J x y cc nL rt d M N L0 (pc + 1) lv (.int (f i.toNatClampNeg) :: st) h k n) : J x y cc nL rt d M N L0 pc lv (.int i :: .ref a :: st) h k n := by
  obtain ⟨p, l, e, R, s, m, args, below, meth, c, b, ca, cA, D, con, Q⟩ := x
  intro O H locs ls hl hP hS
  have hx := O.1
  have hb := O.2.1
  have hts := O.2.2.2.2.1
  have hown := O.2.2.2.1
  have hK : va_K D vwCl (tz cA) s := O.2.2.2.2.2.2.2.2.1
  exact va_iald hx hb hK hP a 1 (wz_get ha) rfl hi hd (K O H locs ls hl hP hS)
theorem J_bald {a z : Nat} {f : Nat → Int32} {i : Int32} (hd : decode cc pc = .ok (.baload, 1)) (ha : h[a]? = some (.inl (0, z, .inl f))) (hi : vp_in i z) (K : J x y cc nL rt d M N L0 (pc + 1) lv (.int (f i.toNatClampNeg) :: st) h k n) : J x y cc nL rt d M N L0 pc lv (.int i :: .ref a :: st) h k n := by
  obtain ⟨p, l, e, R, s, m, args, below, meth, c, b, ca, cA, D, con, Q⟩ := x
  intro O H locs ls hl hP hS
  have hx := O.1
  have hb := O.2.1
  have hts := O.2.2.2.2.1
  have hown := O.2.2.2.1
  have hK : va_K D vwCl (tz cA) s := O.2.2.2.2.2.2.2.2.1
  exact va_bald hx hb hK hP a 0 (wz_get ha) rfl hi hd (K O H locs ls hl hP hS)
theorem J_zald {a z : Nat} {f : Nat → Int32} {i : Int32} (hd : decode cc pc = .ok (.baload, 1)) (ha : h[a]? = some (.inl (3, z, .inl f))) (hi : vp_in i z) (K : J x y cc nL rt d M N L0 (pc + 1) lv (.int (f i.toNatClampNeg) :: st) h k n) : J x y cc nL rt d M N L0 pc lv (.int i :: .ref a :: st) h k n := by
  obtain ⟨p, l, e, R, s, m, args, below, meth, c, b, ca, cA, D, con, Q⟩ := x
  intro O H locs ls hl hP hS
  have hx := O.1
  have hb := O.2.1
  have hts := O.2.2.2.2.1
  have hown := O.2.2.2.1
  have hK : va_K D vwCl (tz cA) s := O.2.2.2.2.2.2.2.2.1
  exact va_zald hx hb hK hP a 3 (wz_get ha) rfl hi hd (K O H locs ls hl hP hS)
theorem J_lald {a z : Nat} {f : Nat → Int64} {i : Int32} (hd : decode cc pc = .ok (.laload, 1)) (ha : h[a]? = some (.inl (2, z, .inr (.inl f)))) (hi : vp_in i z) (K : J x y cc nL rt d M N L0 (pc + 1) lv (.long (f i.toNatClampNeg) :: st) h k n) : J x y cc nL rt d M N L0 pc lv (.int i :: .ref a :: st) h k n := by
  obtain ⟨p, l, e, R, s, m, args, below, meth, c, b, ca, cA, D, con, Q⟩ := x
  intro O H locs ls hl hP hS
  have hx := O.1
  have hb := O.2.1
  have hts := O.2.2.2.2.1
  have hown := O.2.2.2.1
  have hK : va_K D vwCl (tz cA) s := O.2.2.2.2.2.2.2.2.1
  exact va_lald hx hb hK hP a 2 (wz_get ha) rfl hi hd (K O H locs ls hl hP hS)
theorem J_aald {a z t q : Nat} {C : String} {f : Nat → Option Nat} {i : Int32} (hd : decode cc pc = .ok (.aaload, 1)) (ha : h[a]? = some (.inl (t, z, .inr (.inr f)))) (ht : ∀ cA : Nat → ClassId, (tz cA)[t]? = some (cA t, .object C)) (hi : vp_in i z) (hq : f i.toNatClampNeg = some q) (K : J x y cc nL rt d M N L0 (pc + 1) lv (.ref q :: st) h k n) : J x y cc nL rt d M N L0 pc lv (.int i :: .ref a :: st) h k n := by
  obtain ⟨p, l, e, R, s, m, args, below, meth, c, b, ca, cA, D, con, Q⟩ := x
  intro O H locs ls hl hP hS
  have hx := O.1
  have hb := O.2.1
  have hts := O.2.2.2.2.1
  have hown := O.2.2.2.1
  have hK : va_K D vwCl (tz cA) s := O.2.2.2.2.2.2.2.2.1
  refine va_aldq hx hb hK hP a t (wz_get ha) (ht cA) hi hd ?_
  show W p l e R s m args below meth c H locs k n Q (F0 m (pc + 1) ls (va_rf ((f i.toNatClampNeg).map (fun i => b + i)) :: st.map (rv b ca)))
  rw [hq]
  exact K O H locs ls hl hP hS
theorem J_cald {q z : Nat} {f : Nat → Int32} {i : Int32} (hd : decode cc pc = .ok (.iaload, 1)) (hc : x.2.2.2.2.2.2.2.2.2.2.2.2.2.2.1 q = some (z, f)) (hi : vp_in i z) (K : J x y cc nL rt d M N L0 (pc + 1) lv (.int (f i.toNatClampNeg) :: st) h k n) : J x y cc nL rt d M N L0 pc lv (.int i :: .retAddr q :: st) h k n := by
  obtain ⟨p, l, e, R, s, m, args, below, meth, c, b, ca, cA, D, con, Q⟩ := x
  intro O H locs ls hl hP hS
  have hx := O.1
  have hb := O.2.1
  have hts := O.2.2.2.2.1
  have hown := O.2.2.2.1
  have hK : va_K D vwCl (tz cA) s := O.2.2.2.2.2.2.2.2.1
  obtain ⟨h1, h2, h3⟩ := O.2.2.2.2.2.2.2.2.2.2.2.2.2.2.1 q z f hc
  exact va_sld hx hb h1 (Nat.lt_of_lt_of_le h2 h3) (Nat.not_le.mpr h2) hS hi hd (K O H locs ls hl hP hS)
theorem J_clen {q z : Nat} {f : Nat → Int32} (hd : decode cc pc = .ok (.arraylength, 1)) (hc : x.2.2.2.2.2.2.2.2.2.2.2.2.2.2.1 q = some (z, f)) (K : J x y cc nL rt d M N L0 (pc + 1) lv (.int (Int32.ofNat z) :: st) h k n) : J x y cc nL rt d M N L0 pc lv (.retAddr q :: st) h k n := by
  obtain ⟨p, l, e, R, s, m, args, below, meth, c, b, ca, cA, D, con, Q⟩ := x
  intro O H locs ls hl hP hS
  have hx := O.1
  have hb := O.2.1
  have hts := O.2.2.2.2.1
  have hown := O.2.2.2.1
  have hK : va_K D vwCl (tz cA) s := O.2.2.2.2.2.2.2.2.1
  obtain ⟨h1, h2, h3⟩ := O.2.2.2.2.2.2.2.2.2.2.2.2.2.2.1 q z f hc
  exact va_slen hx hb h1 (Nat.lt_of_lt_of_le h2 h3) (Nat.not_le.mpr h2) hS hd (K O H locs ls hl hP hS)
theorem J_alen {a t z : Nat} {ty : FieldType} {f : MA} (hd : decode cc pc = .ok (.arraylength, 1)) (ha : h[a]? = some (.inl (t, z, f))) (ht : ∀ cA : Nat → ClassId, (tz cA)[t]? = some (cA t, ty)) (K : J x y cc nL rt d M N L0 (pc + 1) lv (.int (Int32.ofNat z) :: st) h k n) : J x y cc nL rt d M N L0 pc lv (.ref a :: st) h k n := by
  obtain ⟨p, l, e, R, s, m, args, below, meth, c, b, ca, cA, D, con, Q⟩ := x
  intro O H locs ls hl hP hS
  have hx := O.1
  have hb := O.2.1
  have hts := O.2.2.2.2.1
  have hown := O.2.2.2.1
  have hK : va_K D vwCl (tz cA) s := O.2.2.2.2.2.2.2.2.1
  exact va_alen hx hb hK hP a t (wz_get ha) (ht cA) rfl hd (K O H locs ls hl hP hS)
theorem J_iast {a z : Nat} {f : Nat → Int32} {i : Int32} {v : Int32} {h2 : List MC} (hd : decode cc pc = .ok (.iastore, 1)) (ha : h[a]? = some (.inl (1, z, .inl f))) (hi : vp_in i z) (h2e : h.set a (.inl (1, z, .inl (upd f i.toNatClampNeg v))) = h2) (K : J x y cc nL rt d M N L0 (pc + 1) lv st h2 k n) : J x y cc nL rt d M N L0 pc lv (.int v :: .int i :: .ref a :: st) h k n := by
  obtain ⟨p, l, e, R, s, m, args, below, meth, c, b, ca, cA, D, con, Q⟩ := x
  intro O H locs ls hl hP hS
  have hx := O.1
  have hb := O.2.1
  have hts := O.2.2.2.2.1
  have hown := O.2.2.2.1
  have hK : va_K D vwCl (tz cA) s := O.2.2.2.2.2.2.2.2.1
  refine va_iast (A := fun q => b ≤ q) hx hb hK hP wz_D hS a 1 (wz_get ha) rfl hi hd ?_
  intro H1 locs1 hP1 _ hS1
  subst h2e
  refine K O H1 locs1 ls hl ?_ hS1
  rw [← wz_set]
  exact hP1
theorem J_bast {a z : Nat} {f : Nat → Int32} {i : Int32} {v : Int32} {h2 : List MC} (hd : decode cc pc = .ok (.bastore, 1)) (ha : h[a]? = some (.inl (0, z, .inl f))) (hi : vp_in i z) (h2e : h.set a (.inl (0, z, .inl (upd f i.toNatClampNeg (vp_nar .byte v)))) = h2) (K : J x y cc nL rt d M N L0 (pc + 1) lv st h2 k n) : J x y cc nL rt d M N L0 pc lv (.int v :: .int i :: .ref a :: st) h k n := by
  obtain ⟨p, l, e, R, s, m, args, below, meth, c, b, ca, cA, D, con, Q⟩ := x
  intro O H locs ls hl hP hS
  have hx := O.1
  have hb := O.2.1
  have hts := O.2.2.2.2.1
  have hown := O.2.2.2.1
  have hK : va_K D vwCl (tz cA) s := O.2.2.2.2.2.2.2.2.1
  refine va_bast (A := fun q => b ≤ q) hx hb hK hP wz_D hS a 0 (wz_get ha) rfl hi hd ?_
  intro H1 locs1 hP1 _ hS1
  subst h2e
  refine K O H1 locs1 ls hl ?_ hS1
  rw [← wz_set]
  exact hP1
theorem J_zast {a z : Nat} {f : Nat → Int32} {i : Int32} {v : Int32} {h2 : List MC} (hd : decode cc pc = .ok (.bastore, 1)) (ha : h[a]? = some (.inl (3, z, .inl f))) (hi : vp_in i z) (h2e : h.set a (.inl (3, z, .inl (upd f i.toNatClampNeg (vp_nar .boolean v)))) = h2) (K : J x y cc nL rt d M N L0 (pc + 1) lv st h2 k n) : J x y cc nL rt d M N L0 pc lv (.int v :: .int i :: .ref a :: st) h k n := by
  obtain ⟨p, l, e, R, s, m, args, below, meth, c, b, ca, cA, D, con, Q⟩ := x
  intro O H locs ls hl hP hS
  have hx := O.1
  have hb := O.2.1
  have hts := O.2.2.2.2.1
  have hown := O.2.2.2.1
  have hK : va_K D vwCl (tz cA) s := O.2.2.2.2.2.2.2.2.1
  refine va_zast (A := fun q => b ≤ q) hx hb hK hP wz_D hS a 3 (wz_get ha) rfl hi hd ?_
  intro H1 locs1 hP1 _ hS1
  subst h2e
  refine K O H1 locs1 ls hl ?_ hS1
  rw [← wz_set]
  exact hP1
theorem J_last {a z : Nat} {f : Nat → Int64} {i : Int32} {v : Int64} {h2 : List MC} (hd : decode cc pc = .ok (.lastore, 1)) (ha : h[a]? = some (.inl (2, z, .inr (.inl f)))) (hi : vp_in i z) (h2e : h.set a (.inl (2, z, .inr (.inl (vp_updL f i.toNatClampNeg v)))) = h2) (K : J x y cc nL rt d M N L0 (pc + 1) lv st h2 k n) : J x y cc nL rt d M N L0 pc lv (.long v :: .int i :: .ref a :: st) h k n := by
  obtain ⟨p, l, e, R, s, m, args, below, meth, c, b, ca, cA, D, con, Q⟩ := x
  intro O H locs ls hl hP hS
  have hx := O.1
  have hb := O.2.1
  have hts := O.2.2.2.2.1
  have hown := O.2.2.2.1
  have hK : va_K D vwCl (tz cA) s := O.2.2.2.2.2.2.2.2.1
  refine va_last (A := fun q => b ≤ q) hx hb hK hP wz_D hS a 2 (wz_get ha) rfl hi hd ?_
  intro H1 locs1 hP1 _ hS1
  subst h2e
  refine K O H1 locs1 ls hl ?_ hS1
  rw [← wz_set]
  exact hP1
theorem J_aast {a z t q ci : Nat} {r : vw_C} {vs : List Value} {f : Nat → Option Nat} {i : Int32} {h2 : List MC} (hd : decode cc pc = .ok (.aastore, 1)) (ha : h[a]? = some (.inl (t, z, .inr (.inr f)))) (ht : ∀ cA : Nat → ClassId, (tz cA)[t]? = some (cA t, .object r.1)) (hq : h[q]? = some (.inr (ci, vs))) (hc : vwCl[ci]? = some r) (hi : vp_in i z) (h2e : h.set a (.inl (t, z, .inr (.inr (va_up f i.toNatClampNeg (some q))))) = h2) (K : J x y cc nL rt d M N L0 (pc + 1) lv st h2 k n) : J x y cc nL rt d M N L0 pc lv (.ref q :: .int i :: .ref a :: st) h k n := by
  obtain ⟨p, l, e, R, s, m, args, below, meth, c, b, ca, cA, D, con, Q⟩ := x
  intro O H locs ls hl hP hS
  have hx := O.1
  have hb := O.2.1
  have hts := O.2.2.2.2.1
  have hown := O.2.2.2.1
  have hK : va_K D vwCl (tz cA) s := O.2.2.2.2.2.2.2.2.1
  refine va_astq (A := fun q => b ≤ q) hx hb hK hP wz_D hS a t q ci (wz_get ha) (ht cA) (wz_get hq) hc hi hd ?_
  intro H1 locs1 hP1 _ hS1
  subst h2e
  refine K O H1 locs1 ls hl ?_ hS1
  rw [← wz_set]
  have e1 : (va_up (fun j => (f j).map (fun i => b + i)) i.toNatClampNeg (some (b + q))) = (fun j => (va_up f i.toNatClampNeg (some q) j).map (fun i => b + i)) := by
    funext j
    unfold va_up
    by_cases hj : j = i.toNatClampNeg <;> simp [hj]
  show va_P D vwCl ((wz b ca cA h).set a (b + a, Sum.inl (cA t, z, Sum.inr (Sum.inr (Sum.inr (Sum.inr (fun j => (va_up f i.toNatClampNeg (some q) j).map (fun i => b + i)))))))) H1
  rw [← e1]
  exact hP1
theorem J_fin {con0 : JK} {Post : Option Value → List MC → Prop} {p : Program} {l : Launch} {e : Env} {R : Room} {s : State} {m : MethodId} {args : Array Value} {below : List Frame} {meth : Method} {c : Code} {b : Nat} {ca : Nat → Nat} {cA : Nat → ClassId} {D : va_G} {con : JK} {Q : State → Prop} (hq : JQ (p, l, e, R, s, m, args, below, meth, c, b, ca, cA, D, con, Q) con0 M N Post) {H : Heap} {locs : List Loc} (hL : s.heap.size = b + L0) (hk : k + L0 = h.length) (hkM : k ≤ M) (hnN : n ≤ N) (hK : va_K D vwCl (tz cA) s) (hP : va_P D vwCl (wz b ca cA h) H) (hS : va_S (fun q => b ≤ q) s.heap H locs) {g : JFrame} {r : Option Value} (hpost : Post r h)
    (kk : (∀ t : State, t.heap = H → s.WarmedH t.vm → QC b ca cA D Post args s (.returned (r.map (rv b ca))) t) → W p l e R s m args below meth c H locs M N (MQ below (QC b ca cA D Post) args s M N (fun q => b ≤ q)) g) : W p l e R s m args below meth c H locs k n Q g := by
  intro T hT X
  have hz := J_size X hT hL hk hP hS
  obtain ⟨rfl, -⟩ := hq
  exact (W.widen (k := M) (n := N) hkM hnN (kk (fun t ht hW => ⟨⟨r, h, rfl, hpost, by rw [ht]; exact hz, by rw [ht]; exact hP, va_K.moved hW.alike hK⟩, hS.F ht⟩))) T hT X
theorem J_iret {con0 : JK} {Post : Option Value → List MC → Prop} {v : Int32} (hq : JQ x con0 M N Post) (hd : decode cc pc = .ok (.ireturn, 1)) (hr : rt = some .int) (hk : k + L0 = h.length) (hkM : k ≤ M) (hnN : n ≤ N) (hp : Post (some (.int v)) h) : J x y cc nL rt d M N L0 pc lv [.int v] h k n := by
  obtain ⟨p, l, e, R, s, m, args, below, meth, c, b, ca, cA, D, con, Q⟩ := x
  intro O H locs ls hl hP hS
  have hx := O.1
  have hb := O.2.1
  have hts := O.2.2.2.2.1
  have hown := O.2.2.2.1
  have hK : va_K D vwCl (tz cA) s := O.2.2.2.2.2.2.2.2.1
  have hlk : meth.locks = false := O.2.2.2.2.2.2.1
  refine J_fin hq O.2.2.2.2.2.2.2.2.2.1 hk hkM hnN hK hP hS hp (fun qq => ?_)
  exact W.iret hx hb (O.2.2.2.2.2.1.trans hr) qq hS.2.2 hd hlk
theorem J_zret {con0 : JK} {Post : Option Value → List MC → Prop} {v : Int32} (hq : JQ x con0 M N Post) (hd : decode cc pc = .ok (.ireturn, 1)) (hr : rt = some .boolean) (hn : narrow .boolean (.int v) = .int v) (hk : k + L0 = h.length) (hkM : k ≤ M) (hnN : n ≤ N) (hp : Post (some (.int v)) h) : J x y cc nL rt d M N L0 pc lv [.int v] h k n := by
  obtain ⟨p, l, e, R, s, m, args, below, meth, c, b, ca, cA, D, con, Q⟩ := x
  intro O H locs ls hl hP hS
  have hx := O.1
  have hb := O.2.1
  have hts := O.2.2.2.2.1
  have hown := O.2.2.2.1
  have hK : va_K D vwCl (tz cA) s := O.2.2.2.2.2.2.2.2.1
  have hlk : meth.locks = false := O.2.2.2.2.2.2.1
  refine J_fin hq O.2.2.2.2.2.2.2.2.2.1 hk hkM hnN hK hP hS hp (fun qq => ?_)
  exact W.zret hx hb (O.2.2.2.2.2.1.trans hr) hn qq hS.2.2 hd hlk
theorem J_lret {con0 : JK} {Post : Option Value → List MC → Prop} {v : Int64} (hq : JQ x con0 M N Post) (hd : decode cc pc = .ok (.lreturn, 1)) (hr : rt = some .long) (hk : k + L0 = h.length) (hkM : k ≤ M) (hnN : n ≤ N) (hp : Post (some (.long v)) h) : J x y cc nL rt d M N L0 pc lv [.long v] h k n := by
  obtain ⟨p, l, e, R, s, m, args, below, meth, c, b, ca, cA, D, con, Q⟩ := x
  intro O H locs ls hl hP hS
  have hx := O.1
  have hb := O.2.1
  have hts := O.2.2.2.2.1
  have hown := O.2.2.2.1
  have hK : va_K D vwCl (tz cA) s := O.2.2.2.2.2.2.2.2.1
  have hlk : meth.locks = false := O.2.2.2.2.2.2.1
  refine J_fin hq O.2.2.2.2.2.2.2.2.2.1 hk hkM hnN hK hP hS hp (fun qq => ?_)
  exact W.lret hx hb (O.2.2.2.2.2.1.trans hr) qq hS.2.2 hd hlk
theorem J_vret {con0 : JK} {Post : Option Value → List MC → Prop} (hq : JQ x con0 M N Post) (hd : decode cc pc = .ok (.return_, 1)) (hr : rt = none) (hk : k + L0 = h.length) (hkM : k ≤ M) (hnN : n ≤ N) (hp : Post none h) : J x y cc nL rt d M N L0 pc lv [] h k n := by
  obtain ⟨p, l, e, R, s, m, args, below, meth, c, b, ca, cA, D, con, Q⟩ := x
  intro O H locs ls hl hP hS
  have hx := O.1
  have hb := O.2.1
  have hts := O.2.2.2.2.1
  have hown := O.2.2.2.1
  have hK : va_K D vwCl (tz cA) s := O.2.2.2.2.2.2.2.2.1
  have hlk : meth.locks = false := O.2.2.2.2.2.2.1
  refine J_fin hq O.2.2.2.2.2.2.2.2.2.1 hk hkM hnN hK hP hS hp (fun qq => ?_)
  exact W.vret hx hb (O.2.2.2.2.2.1.trans hr) qq hS.2.2 hd hlk
end

