/-! THE J LAYER: one world for all cells (class and reference), at addresses base + number; J: the machine at a pc, with locals, operands and world in these words, comes to its end -/
abbrev MA : Type := (Nat → Int32) ⊕ (Nat → Int64) ⊕ (Nat → Option Nat)
/-- a cell: an array (number of its kind, length, contents) or an object (number of its kind of vwCl, fields); references are numbers of cells -/
abbrev MC : Type := (Nat × Nat × MA) ⊕ (Nat × List Value)
/-- references: .ref i the i-th cell of the world, .retAddr k the k-th constant array -/
def rv (b : Nat) (ca : Nat → Nat) (v : Value) : Value := match v with
  | .ref i => .ref (b + i)
  | .retAddr k => .ref (ca k)
  | .int x => .int x
  | .long x => .long x
  | .float x => .float x
  | .double x => .double x
  | .null => .null
theorem rv_cat (b : Nat) (ca : Nat → Nat) (v : Value) : (rv b ca v).category = v.category := by cases v <;> rfl
def rl (b : Nat) (ca : Nat → Nat) (lv : List (Nat × Value)) : List (Nat × Value) := lv.map (fun q => (q.1, rv b ca q.2))
theorem rl_at {b : Nat} {ca : Nat → Nat} {lv : List (Nat × Value)} {ls : Array Slot} {nL i j : Nat} {v : Value} (h : lv_has ls nL (rl b ca lv)) (hj : lv[j]? = some (i, v)) : ls[i]? = some (.val (rv b ca v)) := by
  refine lv_at h j (i := i) (v := rv b ca v) ?_
  simp [rl, hj]
theorem rl_filter (b : Nat) (ca : Nat → Nat) (lv : List (Nat × Value)) (f : Nat → Nat → Bool) : (rl b ca lv).filter (fun q => f q.1 q.2.category) = rl b ca (lv.filter (fun q => f q.1 q.2.category)) := by
  induction lv with
  | nil => rfl
  | cons a t ih =>
    have ih' : List.filter (fun q => f q.1 q.2.category) (List.map (fun q => (q.1, rv b ca q.2)) t) = List.map (fun q => (q.1, rv b ca q.2)) (List.filter (fun q => f q.1 q.2.category) t) := ih
    simp only [rl, List.map_cons, List.filter_cons, rv_cat]
    by_cases h : f a.1 a.2.category = true
    · simp only [h, if_true, List.map_cons]
      rw [ih']
    · simp only [h, if_false, Bool.false_eq_true]
      rw [ih']
theorem rl_args (b : Nat) (ca : Nat → Nat) : ∀ (vs : List Value) (i : Nat), lv_args i (vs.map (rv b ca)) = rl b ca (lv_args i vs)
  | [], _ => rfl
  | v :: vs, i => by
    show (i, rv b ca v) :: lv_args (if (rv b ca v).category = 2 then i + 2 else i + 1) (vs.map (rv b ca)) = _
    rw [rv_cat, rl_args b ca vs]
    rfl
theorem rv_sl (b : Nat) (ca : Nat → Nat) (vs : List Value) : (lg_sl (vs.map (rv b ca))).length = (lg_sl vs).length := by
  induction vs with
  | nil => rfl
  | cons v t ih =>
    simp only [lg_sl, List.map_cons, List.flatMap_cons, List.length_append, rv_cat] at ih ⊢
    rw [ih]
    by_cases h : v.category = 2 <;> simp [h]
theorem rv_sum (b : Nat) (ca : Nat → Nat) (st : List Value) : ((st.map (rv b ca)).map fun v => v.category).sum = (st.map fun v => v.category).sum := by
  induction st with
  | nil => rfl
  | cons v t ih => simp only [List.map_cons, List.sum_cons, rv_cat, ih]
def rA (b : Nat) (a : MA) : (Nat → Int32) ⊕ (Nat → Int64) ⊕ (Nat → UInt32) ⊕ (Nat → UInt64) ⊕ (Nat → Option Nat) := match a with
  | .inl f => .inl f
  | .inr (.inl f) => .inr (.inl f)
  | .inr (.inr f) => .inr (.inr (.inr (.inr (fun j => (f j).map (fun i => b + i)))))
def rE (b : Nat) (ca : Nat → Nat) (cA : Nat → ClassId) (c : MC) : va_E := match c with
  | .inl (t, n, a) => .inl (cA t, n, rA b a)
  | .inr (c, fs) => .inr (c, fs.map (rv b ca))
def wz (b : Nat) (ca : Nat → Nat) (cA : Nat → ClassId) (h : List MC) : va_W := h.mapIdx (fun i c => (b + i, rE b ca cA c))
section
variable {b : Nat} {ca : Nat → Nat} {cA : Nat → ClassId} {h : List MC}
theorem wz_len : (wz b ca cA h).length = h.length := List.length_mapIdx
theorem wz_get {i : Nat} {c : MC} (hi : h[i]? = some c) : (wz b ca cA h)[i]? = some (b + i, rE b ca cA c) := by
  simp [wz, List.getElem?_mapIdx, hi]
theorem wz_of {i : Nat} {q : Nat × va_E} (hi : (wz b ca cA h)[i]? = some q) : i < h.length ∧ q.1 = b + i := by
  rw [wz, List.getElem?_mapIdx] at hi
  cases hc : h[i]? with
  | none => rw [hc] at hi; cases hi
  | some c =>
    rw [hc] at hi
    cases hi
    exact ⟨(List.getElem?_eq_some_iff.mp hc).1, rfl⟩
theorem wz_set {i : Nat} {c : MC} : (wz b ca cA h).set i (b + i, rE b ca cA c) = wz b ca cA (h.set i c) := by
  apply List.ext_getElem?
  intro j
  rw [List.getElem?_set, wz, wz, List.getElem?_mapIdx, List.getElem?_mapIdx, List.getElem?_set, List.length_mapIdx]
  by_cases hij : i = j
  · subst hij
    by_cases hl : i < h.length
    · simp [hl]
    · simp [hl]
  · simp [hij]
theorem wz_push {c : MC} : wz b ca cA h ++ [(b + h.length, rE b ca cA c)] = wz b ca cA (h ++ [c]) := by
  rw [wz, wz, List.mapIdx_append]
  simp
theorem wz_D : va_D (fun q => b ≤ q) (wz b ca cA h) := by
  refine ⟨fun i j p q hi hj hpq => ?_, fun k q hk => ?_⟩
  · have h1 := (wz_of hi).2
    have h2 := (wz_of hj).2
    omega
  · have h1 := (wz_of hk).2
    show b ≤ q.1
    omega
end
/-- the kinds of arrays -/
def tz (cA : Nat → ClassId) : List (ClassId × FieldType) := [(cA 0, .byte), (cA 1, .int), (cA 2, .long), (cA 3, .boolean), (cA 4, .object "PondStair$Hill"), (cA 5, .object "PondStair$Told"), (cA 6, .object "PondStair$Works")]
abbrev JK : Type := Nat → Option (Nat × (Nat → Int32))
/-- constant int arrays: below the base, never written -/
def CN (con : JK) (ca : Nat → Nat) (b : Nat) (s : State) : Prop := ∀ (k n : Nat) (f : Nat → Int32), con k = some (n, f) → va_X (ca k) n f s s.heap ∧ ca k < b ∧ b ≤ s.heap.size
/-- the static arrays of the reader, its words (String constants) -/
def sNm : Nat → String
  | 0 => "HILL_COUNT" | 1 => "HILL_COLUMN" | 2 => "HILL_MOST" | 3 => "PLAN_COUNT" | 4 => "PLAN_LEAST" | _ => "PLAN_MOST"
def sAr : Nat → List Int32
  | 0 => [3, 2, 3, 2, 2, 2, 2, 2, 2, 2, 3, 2, 1, 1, 1]
  | 1 => [-1, 8, 9, 3, 4, 5, 6, 7, 11, 12, 13, -1, -1, -1, -1]
  | 2 => [24, 24, 9, 8, 8, 0, 8, 8, 10, 8, 24, 0, 8, 10, 0, 8, 999, 0, 8, 3, 0, 8, 99, 0, 8, 99, 0, 8, 99, 0, 8, 10, 10, 9, 100, 0, 99, 0, 0, 99, 0, 0, 99, 0, 0]
  | 3 => [2, 2, 2, 2, 1]
  | 4 => [0, 1, 0, 0, 1, 0, 0, 1, 0, 0, 0, 0, 0, 0, 0]
  | _ => [8, 10, 0, 8, 24, 0, 8, 24, 0, 8, 8, 0, 8, 0, 0]
def sTx : Nat → String
  | 0 => "pond" | 1 => "down" | 2 => "aside" | 3 => "bears" | 4 => "goes" | 5 => "harm" | 6 => "owner" | 7 => "rice" | 8 => "way" | 9 => "gate" | 10 => "sign" | 11 => "rain" | 12 => "mend" | 13 => "wide" | 14 => "round" | 15 => "low" | 16 => "widen" | _ => "out"
def sLn : List Nat := [4, 4, 5, 5, 4, 4, 5, 4, 3, 4, 4, 4, 4, 4, 5, 3, 5, 3]
def sBy : List (List Int32) := [[112, 111, 110, 100], [100, 111, 119, 110], [97, 115, 105, 100, 101], [98, 101, 97, 114, 115], [103, 111, 101, 115], [104, 97, 114, 109], [111, 119, 110, 101, 114], [114, 105, 99, 101], [119, 97, 121], [103, 97, 116, 101], [115, 105, 103, 110], [114, 97, 105, 110], [109, 101, 110, 100], [119, 105, 100, 101], [114, 111, 117, 110, 100], [108, 111, 119], [119, 105, 100, 101, 110], [111, 117, 116]]
def SS (ca : Nat → Nat) (b : Nat) (U : State) : Prop :=
  (∀ i, i < 6 → va_Z RX3 (sNm i) "[I" (.ref (ca (1 + i))) (fun q => b ≤ q) U U.heap ∧ va_T .int (ca (1 + i)) (sAr i).length (fun j => .int ((sAr i).getD j 0)) (fun q => b ≤ q) U U.heap) ∧ va_Z "java/lang/String" "COMPACT_STRINGS" "Z" (.int 1) (fun q => b ≤ q) U U.heap ∧ vk_S 18 sLn sBy (fun i => ca (10 + i)) (fun i => ca (40 + i)) (fun q => b ≤ q) U U.heap ∧ (∀ i, i < 18 → vk_R RX3 (120 + 2 * i) (sTx i) (ca (10 + i)) U) ∧ (va_Z "jdk/internal/util/Preconditions" "SIOOBE_FORMATTER" "Ljava/util/function/BiFunction;" .null (fun q => b ≤ q) U U.heap ∨ va_Z "jdk/internal/util/Preconditions" "SIOOBE_FORMATTER" "Ljava/util/function/BiFunction;" (.ref (ca 60)) (fun q => b ≤ q) U U.heap)
theorem SS.warm {ca : Nat → Nat} {b : Nat} {s U : State} {H : Heap} {locs : List Loc} (hW : s.WarmedH U.vm) (hH : U.heap = H) (hS : va_S (fun q => b ≤ q) s.heap H locs) (h : SS ca b s) : SS ca b U := by
  subst hH
  obtain ⟨h1, h2, h3, h4, h5⟩ := h
  exact ⟨fun i hi => ⟨((h1 i hi).1.kept hS.2.1).moved hW.alike, ((h1 i hi).2.kept hS.2.1).moved hW.alike⟩, (h2.kept hS.2.1).moved hW.alike, (h3.kept hS.2.1).moved hW.alike, fun i hi => vk_R.warm hW (h4 i hi), h5.imp (fun q => (q.kept hS.2.1).moved hW.alike) (fun q => (q.kept hS.2.1).moved hW.alike)⟩
theorem SS.same {ca : Nat → Nat} {b : Nat} {s U : State} (hv : s.vm = U.vm) (hh : U.heap = s.heap) (h : SS ca b s) : SS ca b U := by
  obtain ⟨h1, h2, h3, h4, h5⟩ := h
  have hA : s.vm.Alike U.vm := by rw [hv]; exact Vm.Alike.refl _
  unfold SS
  rw [hh]
  exact ⟨fun i hi => ⟨(h1 i hi).1.moved hA, (h1 i hi).2.moved hA⟩, h2.moved hA, h3.moved hA, fun i hi => vk_R.same hv.symm (h4 i hi), h5.imp (fun q => q.moved hA) (fun q => q.moved hA)⟩
/-- the words of nt, at a state -/
def NW (ca : Nat → Nat) (b : Nat) (U : State) : Prop := (∀ w ∈ nt, va_Nw w U) ∧ SS ca b U
theorem NW.warm {ca : Nat → Nat} {b : Nat} {s U : State} {H : Heap} {locs : List Loc} (hW : s.WarmedH U.vm) (hH : U.heap = H) (hS : va_S (fun q => b ≤ q) s.heap H locs) (h : NW ca b s) : NW ca b U := by
  refine ⟨?_, h.2.warm hW hH hS⟩
  intro w hw
  have h1 := h.1 w hw
  have h2 := (List.mem_filter.mp hw).2
  unfold nw at h2
  split at h2
  · exact va_Nw.warmF hW h1
  · exact va_Nw.warmM hW h1
  · exact va_AO.moved hW.alike h1
  · cases h2
theorem NW.same {ca : Nat → Nat} {b : Nat} {s U : State} (hv : s.vm = U.vm) (hh : U.heap = s.heap) (h : NW ca b s) : NW ca b U := by
  refine ⟨?_, h.2.same hv hh⟩
  intro w hw
  have h1 := h.1 w hw
  have h2 := (List.mem_filter.mp hw).2
  unfold nw at h2
  split at h2
  · exact va_Nw.same rfl hv h1
  · exact va_Nw.same rfl hv h1
  · exact va_AO.moved (by rw [hv]; exact Vm.Alike.refl _) h1
  · cases h2
abbrev JX : Type := Program × Launch × Env × Room × State × MethodId × Array Value × List Frame × Method × Code × Nat × (Nat → Nat) × (Nat → ClassId) × va_G × JK × (State → Prop)
def JO (x : JX) (y : MethodName) (cc : ByteArray) (nL : Nat) (rt : Option FieldType) (d M N L0 : Nat) : Prop := match x with
  | (p, _, _, R, s, m, args, _, meth, c, b, ca, cA, D, con, _) => p.tables.exec = Jvm.exec ∧ c.code = cc ∧ c.maxLocals = nL ∧ s.vm.findClass y.cls = some m.cls ∧ (∀ w ∈ gt, w.before args s = true) ∧ meth.sig.returnType = rt ∧ meth.locks = false ∧ (y.name = "<init>" → meth.name = "<init>") ∧ va_K D vwCl (tz cA) s ∧ s.heap.size = b + L0 ∧ d ≤ R.frames ∧ 38 * d ≤ R.locals ∧ M ≤ R.cells ∧ N ≤ R.slots ∧ CN con ca b s ∧ NW ca b s
/-- at pc, with locals lv, operands st, world h, k cells and n slots made: the run comes to x's end -/
def J (x : JX) (y : MethodName) (cc : ByteArray) (nL : Nat) (rt : Option FieldType) (d M N L0 : Nat) (pc : Nat) (lv : List (Nat × Value)) (st : List Value) (h : List MC) (k n : Nat) : Prop := match x with
  | (p, l, e, R, s, m, args, below, meth, c, b, ca, cA, D, con, Q) => JO (p, l, e, R, s, m, args, below, meth, c, b, ca, cA, D, con, Q) y cc nL rt d M N L0 → ∀ (H : Heap) (locs : List Loc) (ls : Array Slot), lv_has ls nL (rl b ca lv) → va_P D vwCl (wz b ca cA h) H → va_S (fun q => b ≤ q) s.heap H locs → W p l e R s m args below meth c H locs k n Q (F0 m pc ls (st.map (rv b ca)))
/-- a method's start and end in these words -/
def PC (b : Nat) (ca : Nat → Nat) (cA : Nat → ClassId) (D : va_G) (con : JK) (av : List Value) (h : List MC) : Array Value → State → Prop := fun v U => v = (av.map (rv b ca)).toArray ∧ U.heap.size = b + h.length ∧ va_P D vwCl (wz b ca cA h) U.heap ∧ va_K D vwCl (tz cA) U ∧ CN con ca b U ∧ NW ca b U
def QC (b : Nat) (ca : Nat → Nat) (cA : Nat → ClassId) (D : va_G) (Post : Option Value → List MC → Prop) : Array Value → State → Outcome → State → Prop := fun _ st oc t => (∃ (r : Option Value) (h' : List MC), oc = .returned (r.map (rv b ca)) ∧ Post r h' ∧ t.heap.size = b + h'.length ∧ va_P D vwCl (wz b ca cA h') t.heap ∧ va_K D vwCl (tz cA) t) ∧ va_F (fun q => b ≤ q) st t
def RM (d M N : Nat) : Room := { frames := d, cells := M, slots := N, locals := 38 * d }
/-- method y, from arguments av and world h: it ends, and its answer and world meet Post; d frames, M cells and N slots are enough -/
def CT (con0 : JK) (d M N : Nat) (y : MethodName) (cc : ByteArray) (nL : Nat) (rt : Option FieldType) (av : List Value) (h : List MC) (Post : Option Value → List MC → Prop) : Prop :=
  ∀ (l : Launch) (b : Nat) (ca : Nat → Nat) (cA : Nat → ClassId) (D : va_G) (con : JK), (∀ k v, con0 k = some v → con k = some v) → Met l y (.code y cc nL rt :: gt) (RM d M N) (PC b ca cA D con av h) (QC b ca cA D Post) M N (fun q => b ≤ q)
/-- x's end is that of a method with Post -/
def JQ (x : JX) (con0 : JK) (M N : Nat) (Post : Option Value → List MC → Prop) : Prop := match x with
  | (_, _, _, _, s, _, args, below, _, _, b, ca, cA, D, con, Q) => Q = MQ below (QC b ca cA D Post) args s M N (fun q => b ≤ q) ∧ ∀ k v, con0 k = some v → con k = some v
theorem CN.moved {con : JK} {ca : Nat → Nat} {b : Nat} {s U : State} {H : Heap} {locs : List Loc} (hc : CN con ca b s) (hvm : s.vm.Alike U.vm) (hH : U.heap = H) (hS : va_S (fun q => b ≤ q) s.heap H locs) : CN con ca b U := by
  intro k n f hk
  obtain ⟨h1, h2, h3⟩ := hc k n f hk
  refine ⟨(h1.kept (H1 := U.heap) ?_).moved hvm, h2, ?_⟩
  · rw [hH]
    exact hS.2.1 _ (Nat.lt_of_lt_of_le h2 h3) (Nat.not_le.mpr h2)
  · rw [hH]
    exact Nat.le_trans h3 hS.1
theorem PC_blind (b : Nat) (ca : Nat → Nat) (cA : Nat → ClassId) (D : va_G) (con : JK) (av : List Value) (h : List MC) : FrameBlind (PC b ca cA D con av h) := by
  intro a U g mk q
  obtain ⟨q0, q1, q2, q3, q4, q5⟩ := q
  refine ⟨q0, q1, q2, va_K.moved (u := U) (U := U.calling g mk a) (Vm.Alike.refl U.vm) q3, fun k n f hk => ?_, NW.same (s := U) (U := U.calling g mk a) rfl rfl q5⟩
  obtain ⟨r1, r2, r3⟩ := q4 k n f hk
  exact ⟨va_X.moved (u := U) (U := U.calling g mk a) (Vm.Alike.refl U.vm) r1, r2, r3⟩
theorem CT_of {con0 : JK} {d M N : Nat} {y : MethodName} {cc : ByteArray} {nL : Nat} {rt : Option FieldType} {av : List Value} {h : List MC} {Post : Option Value → List MC → Prop} (hy : plainName y.cls = true) (hn : (lg_sl av).length ≤ nL)
    (K : ∀ x : JX, JQ x con0 M N Post → J x y cc nL rt d M N h.length 0 (lv_args 0 av) [] h 0 0) : CT con0 d M N y cc nL rt av h Post := by
  intro l b ca cA D con hcon
  refine Met.ofW (cc := cc) (maxL := nL) (ret := rt) hy rfl ?_
  intro p e s m args below meth c s₁ B hml hv
  obtain ⟨rfl, hsz, hP, hK, hC, hNW⟩ := hv
  have hts := atoms_spec (ws := .code y cc nL rt :: gt) B.pre
  have hl := lv_entry (av.map (rv b ca)) (n := nL) (by rw [rv_sl]; exact hn)
  rw [lg_entry_eq]
  rw [rl_args] at hl
  exact K (p, l, e, (headSpec (.code y cc nL rt :: gt) (RM d M N)).room, s, m, (av.map (rv b ca)).toArray, below, meth, c, b, ca, cA, D, con, MQ below (QC b ca cA D Post) (av.map (rv b ca)).toArray s M N (fun q => b ≤ q)) ⟨rfl, hcon⟩
    ⟨B.exec, B.bytes, hml, findClass_of_methodNamed B.named, fun w h => hts w (List.mem_cons_of_mem _ h), B.returns, B.notSynchronized, fun hi => (name_of_methodNamed B.named B.method).1.trans hi, hK, hsz, Nat.le_refl _, Nat.le_refl _, Nat.le_refl _, Nat.le_refl _, hC, hNW⟩ s.heap [] _ hl hP va_S.rf
section
variable {x : JX} {y : MethodName} {cc : ByteArray} {nL : Nat} {rt : Option FieldType} {d M N L0 : Nat} {pc : Nat} {lv : List (Nat × Value)} {st : List Value} {h : List MC} {k n : Nat}
theorem J_iconst {z : Int} {v : Int32} (hd : decode cc pc = .ok (.iconst z, 1)) (hv : Int32.ofInt z = v) (K : J x y cc nL rt d M N L0 (pc + 1) lv (.int v :: st) h k n) : J x y cc nL rt d M N L0 pc lv st h k n := by
  obtain ⟨p, l, e, R, s, m, args, below, meth, c, b, ca, cA, D, con, Q⟩ := x
  intro O H locs ls hl hP hS
  have hx := O.1
  have hb := O.2.1
  exact lv_iconst hx hb hd hv (K O H locs ls hl hP hS)
theorem J_bipush {z : Int} {v : Int32} (hd : decode cc pc = .ok (.bipush z, 2)) (hv : (Int8.ofInt z).toInt32 = v) (K : J x y cc nL rt d M N L0 (pc + 2) lv (.int v :: st) h k n) : J x y cc nL rt d M N L0 pc lv st h k n := by
  obtain ⟨p, l, e, R, s, m, args, below, meth, c, b, ca, cA, D, con, Q⟩ := x
  intro O H locs ls hl hP hS
  have hx := O.1
  have hb := O.2.1
  exact lv_bipush hx hb hd hv (K O H locs ls hl hP hS)
theorem J_sipush {z : Int} {v : Int32} (hd : decode cc pc = .ok (.sipush z, 3)) (hv : (Int16.ofInt z).toInt32 = v) (K : J x y cc nL rt d M N L0 (pc + 3) lv (.int v :: st) h k n) : J x y cc nL rt d M N L0 pc lv st h k n := by
  obtain ⟨p, l, e, R, s, m, args, below, meth, c, b, ca, cA, D, con, Q⟩ := x
  intro O H locs ls hl hP hS
  have hx := O.1
  have hb := O.2.1
  exact lv_sipush hx hb hd hv (K O H locs ls hl hP hS)
theorem J_lconst {z : Fin 2} {v : Int64} (hd : decode cc pc = .ok (.lconst z, 1)) (hv : Int64.ofNat (z : Nat) = v) (K : J x y cc nL rt d M N L0 (pc + 1) lv (.long v :: st) h k n) : J x y cc nL rt d M N L0 pc lv st h k n := by
  obtain ⟨p, l, e, R, s, m, args, below, meth, c, b, ca, cA, D, con, Q⟩ := x
  intro O H locs ls hl hP hS
  have hx := O.1
  have hb := O.2.1
  exact lv_lconst hx hb hd hv (K O H locs ls hl hP hS)
theorem J_iload_n {q : Fin 4} {i j : Nat} {v : Int32} (hd : decode cc pc = .ok (.iload_n q, 1)) (hi : (q : Nat) = i) (hj : lv[j]? = some (i, .int v)) (K : J x y cc nL rt d M N L0 (pc + 1) lv (.int v :: st) h k n) : J x y cc nL rt d M N L0 pc lv st h k n := by
  obtain ⟨p, l, e, R, s, m, args, below, meth, c, b, ca, cA, D, con, Q⟩ := x
  intro O H locs ls hl hP hS
  have hx := O.1
  have hb := O.2.1
  exact lv_iload_n hx hb hd hi (rl_at hl hj) (K O H locs ls hl hP hS)
theorem J_iload {i j : Nat} {v : Int32} (hd : decode cc pc = .ok (.iload i, 2)) (hj : lv[j]? = some (i, .int v)) (K : J x y cc nL rt d M N L0 (pc + 2) lv (.int v :: st) h k n) : J x y cc nL rt d M N L0 pc lv st h k n := by
  obtain ⟨p, l, e, R, s, m, args, below, meth, c, b, ca, cA, D, con, Q⟩ := x
  intro O H locs ls hl hP hS
  have hx := O.1
  have hb := O.2.1
  exact lv_iload hx hb hd (rl_at hl hj) (K O H locs ls hl hP hS)
theorem J_lload_n {q : Fin 4} {i j : Nat} {v : Int64} (hd : decode cc pc = .ok (.lload_n q, 1)) (hi : (q : Nat) = i) (hj : lv[j]? = some (i, .long v)) (K : J x y cc nL rt d M N L0 (pc + 1) lv (.long v :: st) h k n) : J x y cc nL rt d M N L0 pc lv st h k n := by
  obtain ⟨p, l, e, R, s, m, args, below, meth, c, b, ca, cA, D, con, Q⟩ := x
  intro O H locs ls hl hP hS
  have hx := O.1
  have hb := O.2.1
  exact lv_lload_n hx hb hd hi (rl_at hl hj) (K O H locs ls hl hP hS)
theorem J_lload {i j : Nat} {v : Int64} (hd : decode cc pc = .ok (.lload i, 2)) (hj : lv[j]? = some (i, .long v)) (K : J x y cc nL rt d M N L0 (pc + 2) lv (.long v :: st) h k n) : J x y cc nL rt d M N L0 pc lv st h k n := by
  obtain ⟨p, l, e, R, s, m, args, below, meth, c, b, ca, cA, D, con, Q⟩ := x
  intro O H locs ls hl hP hS
  have hx := O.1
  have hb := O.2.1
  exact lv_lload hx hb hd (rl_at hl hj) (K O H locs ls hl hP hS)
theorem J_aload_n {q : Fin 4} {i j v : Nat} (hd : decode cc pc = .ok (.aload_n q, 1)) (hi : (q : Nat) = i) (hj : lv[j]? = some (i, .ref v)) (K : J x y cc nL rt d M N L0 (pc + 1) lv (.ref v :: st) h k n) : J x y cc nL rt d M N L0 pc lv st h k n := by
  obtain ⟨p, l, e, R, s, m, args, below, meth, c, b, ca, cA, D, con, Q⟩ := x
  intro O H locs ls hl hP hS
  have hx := O.1
  have hb := O.2.1
  exact lv_aload_n hx hb hd hi (rl_at hl hj) (K O H locs ls hl hP hS)
theorem J_aload_nC {q : Fin 4} {i j v : Nat} (hd : decode cc pc = .ok (.aload_n q, 1)) (hi : (q : Nat) = i) (hj : lv[j]? = some (i, .retAddr v)) (K : J x y cc nL rt d M N L0 (pc + 1) lv (.retAddr v :: st) h k n) : J x y cc nL rt d M N L0 pc lv st h k n := by
  obtain ⟨p, l, e, R, s, m, args, below, meth, c, b, ca, cA, D, con, Q⟩ := x
  intro O H locs ls hl hP hS
  have hx := O.1
  have hb := O.2.1
  exact lv_aload_n hx hb hd hi (rl_at hl hj) (K O H locs ls hl hP hS)
theorem J_istore_n {q : Fin 4} {i : Nat} {v : Int32} {lw : List (Nat × Value)} (hd : decode cc pc = .ok (.istore_n q, 1)) (hi : (q : Nat) = i) (hn : i < nL) (hw : (i, (Value.int v)) :: lv.filter (fun q => !(q.1 == i) && !(q.1 + 1 == i && q.2.category == 2)) = lw) (K : J x y cc nL rt d M N L0 (pc + 1) lw st h k n) : J x y cc nL rt d M N L0 pc lv ((Value.int v) :: st) h k n := by
  obtain ⟨p, l, e, R, s, m, args, below, meth, c, b, ca, cA, D, con, Q⟩ := x
  intro O H locs ls hl hP hS
  have hx := O.1
  have hb := O.2.1
  refine lv_istore_n hx hb hd hi hl hn (lv' := rl b ca lw) ?_ (fun ls' hl' => K O H locs ls' hl' hP hS)
  rw [← hw]
  exact congrArg (List.cons _) (rl_filter b ca lv (fun a c => !(a == i) && !(a + 1 == i && c == 2)))
theorem J_istore {i : Nat} {v : Int32} {lw : List (Nat × Value)} (hd : decode cc pc = .ok (.istore i, 2)) (hn : i < nL) (hw : (i, (Value.int v)) :: lv.filter (fun q => !(q.1 == i) && !(q.1 + 1 == i && q.2.category == 2)) = lw) (K : J x y cc nL rt d M N L0 (pc + 2) lw st h k n) : J x y cc nL rt d M N L0 pc lv ((Value.int v) :: st) h k n := by
  obtain ⟨p, l, e, R, s, m, args, below, meth, c, b, ca, cA, D, con, Q⟩ := x
  intro O H locs ls hl hP hS
  have hx := O.1
  have hb := O.2.1
  refine lv_istore hx hb hd hl hn (lv' := rl b ca lw) ?_ (fun ls' hl' => K O H locs ls' hl' hP hS)
  rw [← hw]
  exact congrArg (List.cons _) (rl_filter b ca lv (fun a c => !(a == i) && !(a + 1 == i && c == 2)))
theorem J_lstore_n {q : Fin 4} {i : Nat} {v : Int64} {lw : List (Nat × Value)} (hd : decode cc pc = .ok (.lstore_n q, 1)) (hi : (q : Nat) = i) (hn : i + 1 < nL) (hw : (i, (Value.long v)) :: lv.filter (fun q => !(q.1 == i) && (!(q.1 == i + 1) && !(q.1 + 1 == i && q.2.category == 2))) = lw) (K : J x y cc nL rt d M N L0 (pc + 1) lw st h k n) : J x y cc nL rt d M N L0 pc lv ((Value.long v) :: st) h k n := by
  obtain ⟨p, l, e, R, s, m, args, below, meth, c, b, ca, cA, D, con, Q⟩ := x
  intro O H locs ls hl hP hS
  have hx := O.1
  have hb := O.2.1
  refine lv_lstore_n hx hb hd hi hl hn (lv' := rl b ca lw) ?_ (fun ls' hl' => K O H locs ls' hl' hP hS)
  rw [← hw]
  exact congrArg (List.cons _) (rl_filter b ca lv (fun a c => !(a == i) && (!(a == i + 1) && !(a + 1 == i && c == 2))))
theorem J_lstore {i : Nat} {v : Int64} {lw : List (Nat × Value)} (hd : decode cc pc = .ok (.lstore i, 2)) (hn : i + 1 < nL) (hw : (i, (Value.long v)) :: lv.filter (fun q => !(q.1 == i) && (!(q.1 == i + 1) && !(q.1 + 1 == i && q.2.category == 2))) = lw) (K : J x y cc nL rt d M N L0 (pc + 2) lw st h k n) : J x y cc nL rt d M N L0 pc lv ((Value.long v) :: st) h k n := by
  obtain ⟨p, l, e, R, s, m, args, below, meth, c, b, ca, cA, D, con, Q⟩ := x
  intro O H locs ls hl hP hS
  have hx := O.1
  have hb := O.2.1
  refine lv_lstore hx hb hd hl hn (lv' := rl b ca lw) ?_ (fun ls' hl' => K O H locs ls' hl' hP hS)
  rw [← hw]
  exact congrArg (List.cons _) (rl_filter b ca lv (fun a c => !(a == i) && (!(a == i + 1) && !(a + 1 == i && c == 2))))
theorem J_astore_n {q : Fin 4} {i : Nat} {v : Nat} {lw : List (Nat × Value)} (hd : decode cc pc = .ok (.astore_n q, 1)) (hi : (q : Nat) = i) (hn : i < nL) (hw : (i, (Value.ref v)) :: lv.filter (fun q => !(q.1 == i) && !(q.1 + 1 == i && q.2.category == 2)) = lw) (K : J x y cc nL rt d M N L0 (pc + 1) lw st h k n) : J x y cc nL rt d M N L0 pc lv ((Value.ref v) :: st) h k n := by
  obtain ⟨p, l, e, R, s, m, args, below, meth, c, b, ca, cA, D, con, Q⟩ := x
  intro O H locs ls hl hP hS
  have hx := O.1
  have hb := O.2.1
  refine lv_astore_n hx hb hd hi hl hn (lv' := rl b ca lw) ?_ (fun ls' hl' => K O H locs ls' hl' hP hS)
  rw [← hw]
  exact congrArg (List.cons _) (rl_filter b ca lv (fun a c => !(a == i) && !(a + 1 == i && c == 2)))
theorem J_iinc {i j : Nat} {z : Int} {u v : Int32} {lw : List (Nat × Value)} (hd : decode cc pc = .ok (.iinc i z, 3)) (hj : lv[j]? = some (i, .int u)) (hv : u + Int32.ofInt z = v) (hn : i < nL) (hw : (i, Value.int v) :: lv.filter (fun q => !(q.1 == i) && !(q.1 + 1 == i && q.2.category == 2)) = lw) (K : J x y cc nL rt d M N L0 (pc + 3) lw st h k n) : J x y cc nL rt d M N L0 pc lv st h k n := by
  obtain ⟨p, l, e, R, s, m, args, below, meth, c, b, ca, cA, D, con, Q⟩ := x
  intro O H locs ls hl hP hS
  have hx := O.1
  have hb := O.2.1
  refine lv_iinc hx hb hd hl (k := j) (x := u) (by simp [rl, hj, rv]) hv hn (lv' := rl b ca lw) ?_ (fun ls' hl' => K O H locs ls' hl' hP hS)
  rw [← hw]
  exact congrArg (List.cons _) (rl_filter b ca lv (fun a c => !(a == i) && !(a + 1 == i && c == 2)))
theorem J_iadd {u v : Int32} (hd : decode cc pc = .ok (.iadd, 1))  (K : J x y cc nL rt d M N L0 (pc + 1) lv (.int (u + v) :: st) h k n) : J x y cc nL rt d M N L0 pc lv (.int v :: .int u :: st) h k n := by
  obtain ⟨p, l, e, R, s, m, args, below, meth, c, b, ca, cA, D, con, Q⟩ := x
  intro O H locs ls hl hP hS
  have hx := O.1
  have hb := O.2.1
  exact lv_iadd hx hb hd  (K O H locs ls hl hP hS)
theorem J_isub {u v : Int32} (hd : decode cc pc = .ok (.isub, 1))  (K : J x y cc nL rt d M N L0 (pc + 1) lv (.int (u - v) :: st) h k n) : J x y cc nL rt d M N L0 pc lv (.int v :: .int u :: st) h k n := by
  obtain ⟨p, l, e, R, s, m, args, below, meth, c, b, ca, cA, D, con, Q⟩ := x
  intro O H locs ls hl hP hS
  have hx := O.1
  have hb := O.2.1
  exact lv_isub hx hb hd  (K O H locs ls hl hP hS)
theorem J_imul {u v : Int32} (hd : decode cc pc = .ok (.imul, 1))  (K : J x y cc nL rt d M N L0 (pc + 1) lv (.int (u * v) :: st) h k n) : J x y cc nL rt d M N L0 pc lv (.int v :: .int u :: st) h k n := by
  obtain ⟨p, l, e, R, s, m, args, below, meth, c, b, ca, cA, D, con, Q⟩ := x
  intro O H locs ls hl hP hS
  have hx := O.1
  have hb := O.2.1
  exact lv_imul hx hb hd  (K O H locs ls hl hP hS)
theorem J_iand {u v : Int32} (hd : decode cc pc = .ok (.iand, 1))  (K : J x y cc nL rt d M N L0 (pc + 1) lv (.int (u &&& v) :: st) h k n) : J x y cc nL rt d M N L0 pc lv (.int v :: .int u :: st) h k n := by
  obtain ⟨p, l, e, R, s, m, args, below, meth, c, b, ca, cA, D, con, Q⟩ := x
  intro O H locs ls hl hP hS
  have hx := O.1
  have hb := O.2.1
  exact lv_iand hx hb hd  (K O H locs ls hl hP hS)
theorem J_ior {u v : Int32} (hd : decode cc pc = .ok (.ior, 1))  (K : J x y cc nL rt d M N L0 (pc + 1) lv (.int (u ||| v) :: st) h k n) : J x y cc nL rt d M N L0 pc lv (.int v :: .int u :: st) h k n := by
  obtain ⟨p, l, e, R, s, m, args, below, meth, c, b, ca, cA, D, con, Q⟩ := x
  intro O H locs ls hl hP hS
  have hx := O.1
  have hb := O.2.1
  exact lv_ior hx hb hd  (K O H locs ls hl hP hS)
theorem J_ixor {u v : Int32} (hd : decode cc pc = .ok (.ixor, 1))  (K : J x y cc nL rt d M N L0 (pc + 1) lv (.int (u ^^^ v) :: st) h k n) : J x y cc nL rt d M N L0 pc lv (.int v :: .int u :: st) h k n := by
  obtain ⟨p, l, e, R, s, m, args, below, meth, c, b, ca, cA, D, con, Q⟩ := x
  intro O H locs ls hl hP hS
  have hx := O.1
  have hb := O.2.1
  exact lv_ixor hx hb hd  (K O H locs ls hl hP hS)
theorem J_ishl {u v : Int32} (hd : decode cc pc = .ok (.ishl, 1))  (K : J x y cc nL rt d M N L0 (pc + 1) lv (.int (u <<< (v &&& 31)) :: st) h k n) : J x y cc nL rt d M N L0 pc lv (.int v :: .int u :: st) h k n := by
  obtain ⟨p, l, e, R, s, m, args, below, meth, c, b, ca, cA, D, con, Q⟩ := x
  intro O H locs ls hl hP hS
  have hx := O.1
  have hb := O.2.1
  exact lv_ishl hx hb hd  (K O H locs ls hl hP hS)
theorem J_ishr {u v : Int32} (hd : decode cc pc = .ok (.ishr, 1))  (K : J x y cc nL rt d M N L0 (pc + 1) lv (.int (u >>> (v &&& 31)) :: st) h k n) : J x y cc nL rt d M N L0 pc lv (.int v :: .int u :: st) h k n := by
  obtain ⟨p, l, e, R, s, m, args, below, meth, c, b, ca, cA, D, con, Q⟩ := x
  intro O H locs ls hl hP hS
  have hx := O.1
  have hb := O.2.1
  exact lv_ishr hx hb hd  (K O H locs ls hl hP hS)
theorem J_idiv {u v : Int32} (hd : decode cc pc = .ok (.idiv, 1)) (hne : ¬ v = 0) (K : J x y cc nL rt d M N L0 (pc + 1) lv (.int (u / v) :: st) h k n) : J x y cc nL rt d M N L0 pc lv (.int v :: .int u :: st) h k n := by
  obtain ⟨p, l, e, R, s, m, args, below, meth, c, b, ca, cA, D, con, Q⟩ := x
  intro O H locs ls hl hP hS
  have hx := O.1
  have hb := O.2.1
  exact lv_idiv hx hb hd hne (K O H locs ls hl hP hS)
theorem J_irem {u v : Int32} (hd : decode cc pc = .ok (.irem, 1)) (hne : ¬ v = 0) (K : J x y cc nL rt d M N L0 (pc + 1) lv (.int (u - u / v * v) :: st) h k n) : J x y cc nL rt d M N L0 pc lv (.int v :: .int u :: st) h k n := by
  obtain ⟨p, l, e, R, s, m, args, below, meth, c, b, ca, cA, D, con, Q⟩ := x
  intro O H locs ls hl hP hS
  have hx := O.1
  have hb := O.2.1
  exact lv_irem hx hb hd hne (K O H locs ls hl hP hS)
theorem J_iushr {u v z : Int32} (hd : decode cc pc = .ok (.iushr, 1)) (hv : (u.toUInt32 >>> (v.toUInt32 &&& Int32.toUInt32 31)).toInt32 = z) (K : J x y cc nL rt d M N L0 (pc + 1) lv (.int z :: st) h k n) : J x y cc nL rt d M N L0 pc lv (.int v :: .int u :: st) h k n := by
  obtain ⟨p, l, e, R, s, m, args, below, meth, c, b, ca, cA, D, con, Q⟩ := x
  intro O H locs ls hl hP hS
  have hx := O.1
  have hb := O.2.1
  exact lv_iushr hx hb hd hv (K O H locs ls hl hP hS)
theorem J_ladd {u v : Int64} (hd : decode cc pc = .ok (.ladd, 1))  (K : J x y cc nL rt d M N L0 (pc + 1) lv (.long (u + v) :: st) h k n) : J x y cc nL rt d M N L0 pc lv (.long v :: .long u :: st) h k n := by
  obtain ⟨p, l, e, R, s, m, args, below, meth, c, b, ca, cA, D, con, Q⟩ := x
  intro O H locs ls hl hP hS
  have hx := O.1
  have hb := O.2.1
  exact lv_ladd hx hb hd  (K O H locs ls hl hP hS)
theorem J_lsub {u v : Int64} (hd : decode cc pc = .ok (.lsub, 1))  (K : J x y cc nL rt d M N L0 (pc + 1) lv (.long (u - v) :: st) h k n) : J x y cc nL rt d M N L0 pc lv (.long v :: .long u :: st) h k n := by
  obtain ⟨p, l, e, R, s, m, args, below, meth, c, b, ca, cA, D, con, Q⟩ := x
  intro O H locs ls hl hP hS
  have hx := O.1
  have hb := O.2.1
  exact lv_lsub hx hb hd  (K O H locs ls hl hP hS)
theorem J_lmul {u v : Int64} (hd : decode cc pc = .ok (.lmul, 1))  (K : J x y cc nL rt d M N L0 (pc + 1) lv (.long (u * v) :: st) h k n) : J x y cc nL rt d M N L0 pc lv (.long v :: .long u :: st) h k n := by
  obtain ⟨p, l, e, R, s, m, args, below, meth, c, b, ca, cA, D, con, Q⟩ := x
  intro O H locs ls hl hP hS
  have hx := O.1
  have hb := O.2.1
  exact lv_lmul hx hb hd  (K O H locs ls hl hP hS)
theorem J_lor {u v : Int64} (hd : decode cc pc = .ok (.lor, 1))  (K : J x y cc nL rt d M N L0 (pc + 1) lv (.long (u ||| v) :: st) h k n) : J x y cc nL rt d M N L0 pc lv (.long v :: .long u :: st) h k n := by
  obtain ⟨p, l, e, R, s, m, args, below, meth, c, b, ca, cA, D, con, Q⟩ := x
  intro O H locs ls hl hP hS
  have hx := O.1
  have hb := O.2.1
  exact lv_lor hx hb hd  (K O H locs ls hl hP hS)
theorem J_ldiv {u v : Int64} (hd : decode cc pc = .ok (.ldiv, 1)) (hne : ¬ v = 0) (K : J x y cc nL rt d M N L0 (pc + 1) lv (.long (u / v) :: st) h k n) : J x y cc nL rt d M N L0 pc lv (.long v :: .long u :: st) h k n := by
  obtain ⟨p, l, e, R, s, m, args, below, meth, c, b, ca, cA, D, con, Q⟩ := x
  intro O H locs ls hl hP hS
  have hx := O.1
  have hb := O.2.1
  exact lv_ldiv hx hb hd hne (K O H locs ls hl hP hS)
theorem J_lrem {u v : Int64} (hd : decode cc pc = .ok (.lrem, 1)) (hne : ¬ v = 0) (K : J x y cc nL rt d M N L0 (pc + 1) lv (.long (u - u / v * v) :: st) h k n) : J x y cc nL rt d M N L0 pc lv (.long v :: .long u :: st) h k n := by
  obtain ⟨p, l, e, R, s, m, args, below, meth, c, b, ca, cA, D, con, Q⟩ := x
  intro O H locs ls hl hP hS
  have hx := O.1
  have hb := O.2.1
  exact lv_lrem hx hb hd hne (K O H locs ls hl hP hS)
theorem J_lshl {u z : Int64} {v : Int32} (hd : decode cc pc = .ok (.lshl, 1)) (hv : u <<< (v.toInt64 &&& 63) = z) (K : J x y cc nL rt d M N L0 (pc + 1) lv (.long z :: st) h k n) : J x y cc nL rt d M N L0 pc lv (.int v :: .long u :: st) h k n := by
  obtain ⟨p, l, e, R, s, m, args, below, meth, c, b, ca, cA, D, con, Q⟩ := x
  intro O H locs ls hl hP hS
  have hx := O.1
  have hb := O.2.1
  exact lv_lshl hx hb hd hv (K O H locs ls hl hP hS)
theorem J_i2l {u : Int32} {z : Int64} (hd : decode cc pc = .ok (.i2l, 1)) (hv : u.toInt64 = z) (K : J x y cc nL rt d M N L0 (pc + 1) lv (.long z :: st) h k n) : J x y cc nL rt d M N L0 pc lv (.int u :: st) h k n := by
  obtain ⟨p, l, e, R, s, m, args, below, meth, c, b, ca, cA, D, con, Q⟩ := x
  intro O H locs ls hl hP hS
  have hx := O.1
  have hb := O.2.1
  exact lv_i2l hx hb hd hv (K O H locs ls hl hP hS)
theorem J_l2i {u : Int64} {z : Int32} (hd : decode cc pc = .ok (.l2i, 1)) (hv : u.toInt32 = z) (K : J x y cc nL rt d M N L0 (pc + 1) lv (.int z :: st) h k n) : J x y cc nL rt d M N L0 pc lv (.long u :: st) h k n := by
  obtain ⟨p, l, e, R, s, m, args, below, meth, c, b, ca, cA, D, con, Q⟩ := x
  intro O H locs ls hl hP hS
  have hx := O.1
  have hb := O.2.1
  exact lv_l2i hx hb hd hv (K O H locs ls hl hP hS)
theorem J_i2b {u z : Int32} (hd : decode cc pc = .ok (.i2b, 1)) (hv : u.toInt8.toInt32 = z) (K : J x y cc nL rt d M N L0 (pc + 1) lv (.int z :: st) h k n) : J x y cc nL rt d M N L0 pc lv (.int u :: st) h k n := by
  obtain ⟨p, l, e, R, s, m, args, below, meth, c, b, ca, cA, D, con, Q⟩ := x
  intro O H locs ls hl hP hS
  have hx := O.1
  have hb := O.2.1
  exact lv_i2b hx hb hd hv (K O H locs ls hl hP hS)
theorem J_lcmp {u v : Int64} (hd : decode cc pc = .ok (.lcmp, 1))  (K : J x y cc nL rt d M N L0 (pc + 1) lv (.int (lg_cmp u v) :: st) h k n) : J x y cc nL rt d M N L0 pc lv (.long v :: .long u :: st) h k n := by
  obtain ⟨p, l, e, R, s, m, args, below, meth, c, b, ca, cA, D, con, Q⟩ := x
  intro O H locs ls hl hP hS
  have hx := O.1
  have hb := O.2.1
  exact W.lcmp hx hb hd  (K O H locs ls hl hP hS)
theorem J_dup {v : Value} (hd : decode cc pc = .ok (.dup, 1)) (hc : v.category = 1) (K : J x y cc nL rt d M N L0 (pc + 1) lv (v :: v :: st) h k n) : J x y cc nL rt d M N L0 pc lv (v :: st) h k n := by
  obtain ⟨p, l, e, R, s, m, args, below, meth, c, b, ca, cA, D, con, Q⟩ := x
  intro O H locs ls hl hP hS
  have hx := O.1
  have hb := O.2.1
  exact lv_dup hx hb hd ((rv_cat _ _ _).trans hc) (K O H locs ls hl hP hS)
theorem J_pop {v : Value} (hd : decode cc pc = .ok (.pop, 1)) (hc : v.category = 1) (K : J x y cc nL rt d M N L0 (pc + 1) lv st h k n) : J x y cc nL rt d M N L0 pc lv (v :: st) h k n := by
  obtain ⟨p, l, e, R, s, m, args, below, meth, c, b, ca, cA, D, con, Q⟩ := x
  intro O H locs ls hl hP hS
  have hx := O.1
  have hb := O.2.1
  exact lv_pop hx hb hd ((rv_cat _ _ _).trans hc) (K O H locs ls hl hP hS)
theorem J_dup2_11 {u v : Value} (hd : decode cc pc = .ok (.dup2, 1)) (hv : v.category = 1) (hu : u.category = 1) (K : J x y cc nL rt d M N L0 (pc + 1) lv (v :: u :: v :: u :: st) h k n) : J x y cc nL rt d M N L0 pc lv (v :: u :: st) h k n := by
  obtain ⟨p, l, e, R, s, m, args, below, meth, c, b, ca, cA, D, con, Q⟩ := x
  intro O H locs ls hl hP hS
  have hx := O.1
  have hb := O.2.1
  exact lv_dup2_11 hx hb hd ((rv_cat _ _ _).trans hv) ((rv_cat _ _ _).trans hu) (K O H locs ls hl hP hS)
theorem J_pop2_2 {v : Value} (hd : decode cc pc = .ok (.pop2, 1)) (hc : v.category = 2) (K : J x y cc nL rt d M N L0 (pc + 1) lv st h k n) : J x y cc nL rt d M N L0 pc lv (v :: st) h k n := by
  obtain ⟨p, l, e, R, s, m, args, below, meth, c, b, ca, cA, D, con, Q⟩ := x
  intro O H locs ls hl hP hS
  have hx := O.1
  have hb := O.2.1
  exact lv_pop2_2 hx hb hd ((rv_cat _ _ _).trans hc) (K O H locs ls hl hP hS)
theorem J_if_eq {u : Int32} {off : Int} {tgt : Nat} (hd : decode cc pc = .ok (.ifCond .eq off, 3)) (ht : (pc : Int) + off = (tgt : Int)) (K1 : u = 0 → J x y cc nL rt d M N L0 tgt lv st h k n) (K2 : ¬ (u = 0) → J x y cc nL rt d M N L0 (pc + 3) lv st h k n) : J x y cc nL rt d M N L0 pc lv (.int u :: st) h k n := by
  obtain ⟨p, l, e, R, s, m, args, below, meth, c, b, ca, cA, D, con, Q⟩ := x
  intro O H locs ls hl hP hS
  have hx := O.1
  have hb := O.2.1
  exact lv_if_eq hx hb hd ht (fun q => K1 q O H locs ls hl hP hS) (fun q => K2 q O H locs ls hl hP hS)
theorem J_icmp_eq {u v : Int32} {off : Int} {tgt : Nat} (hd : decode cc pc = .ok (.if_icmp .eq off, 3)) (ht : (pc : Int) + off = (tgt : Int)) (K1 : u = v → J x y cc nL rt d M N L0 tgt lv st h k n) (K2 : ¬ (u = v) → J x y cc nL rt d M N L0 (pc + 3) lv st h k n) : J x y cc nL rt d M N L0 pc lv (.int v :: .int u :: st) h k n := by
  obtain ⟨p, l, e, R, s, m, args, below, meth, c, b, ca, cA, D, con, Q⟩ := x
  intro O H locs ls hl hP hS
  have hx := O.1
  have hb := O.2.1
  exact lv_icmp_eq hx hb hd ht (fun q => K1 q O H locs ls hl hP hS) (fun q => K2 q O H locs ls hl hP hS)
theorem J_if_ne {u : Int32} {off : Int} {tgt : Nat} (hd : decode cc pc = .ok (.ifCond .ne off, 3)) (ht : (pc : Int) + off = (tgt : Int)) (K1 : ¬ u = 0 → J x y cc nL rt d M N L0 tgt lv st h k n) (K2 : u = 0 → J x y cc nL rt d M N L0 (pc + 3) lv st h k n) : J x y cc nL rt d M N L0 pc lv (.int u :: st) h k n := by
  obtain ⟨p, l, e, R, s, m, args, below, meth, c, b, ca, cA, D, con, Q⟩ := x
  intro O H locs ls hl hP hS
  have hx := O.1
  have hb := O.2.1
  exact lv_if_ne hx hb hd ht (fun q => K1 q O H locs ls hl hP hS) (fun q => K2 q O H locs ls hl hP hS)
theorem J_icmp_ne {u v : Int32} {off : Int} {tgt : Nat} (hd : decode cc pc = .ok (.if_icmp .ne off, 3)) (ht : (pc : Int) + off = (tgt : Int)) (K1 : ¬ u = v → J x y cc nL rt d M N L0 tgt lv st h k n) (K2 : u = v → J x y cc nL rt d M N L0 (pc + 3) lv st h k n) : J x y cc nL rt d M N L0 pc lv (.int v :: .int u :: st) h k n := by
  obtain ⟨p, l, e, R, s, m, args, below, meth, c, b, ca, cA, D, con, Q⟩ := x
  intro O H locs ls hl hP hS
  have hx := O.1
  have hb := O.2.1
  exact lv_icmp_ne hx hb hd ht (fun q => K1 q O H locs ls hl hP hS) (fun q => K2 q O H locs ls hl hP hS)
theorem J_if_lt {u : Int32} {off : Int} {tgt : Nat} (hd : decode cc pc = .ok (.ifCond .lt off, 3)) (ht : (pc : Int) + off = (tgt : Int)) (K1 : u < 0 → J x y cc nL rt d M N L0 tgt lv st h k n) (K2 : ¬ (u < 0) → J x y cc nL rt d M N L0 (pc + 3) lv st h k n) : J x y cc nL rt d M N L0 pc lv (.int u :: st) h k n := by
  obtain ⟨p, l, e, R, s, m, args, below, meth, c, b, ca, cA, D, con, Q⟩ := x
  intro O H locs ls hl hP hS
  have hx := O.1
  have hb := O.2.1
  exact lv_if_lt hx hb hd ht (fun q => K1 q O H locs ls hl hP hS) (fun q => K2 q O H locs ls hl hP hS)
theorem J_icmp_lt {u v : Int32} {off : Int} {tgt : Nat} (hd : decode cc pc = .ok (.if_icmp .lt off, 3)) (ht : (pc : Int) + off = (tgt : Int)) (K1 : u < v → J x y cc nL rt d M N L0 tgt lv st h k n) (K2 : ¬ (u < v) → J x y cc nL rt d M N L0 (pc + 3) lv st h k n) : J x y cc nL rt d M N L0 pc lv (.int v :: .int u :: st) h k n := by
  obtain ⟨p, l, e, R, s, m, args, below, meth, c, b, ca, cA, D, con, Q⟩ := x
  intro O H locs ls hl hP hS
  have hx := O.1
  have hb := O.2.1
  exact lv_icmp_lt hx hb hd ht (fun q => K1 q O H locs ls hl hP hS) (fun q => K2 q O H locs ls hl hP hS)
theorem J_if_ge {u : Int32} {off : Int} {tgt : Nat} (hd : decode cc pc = .ok (.ifCond .ge off, 3)) (ht : (pc : Int) + off = (tgt : Int)) (K1 : 0 ≤ u → J x y cc nL rt d M N L0 tgt lv st h k n) (K2 : ¬ (0 ≤ u) → J x y cc nL rt d M N L0 (pc + 3) lv st h k n) : J x y cc nL rt d M N L0 pc lv (.int u :: st) h k n := by
  obtain ⟨p, l, e, R, s, m, args, below, meth, c, b, ca, cA, D, con, Q⟩ := x
  intro O H locs ls hl hP hS
  have hx := O.1
  have hb := O.2.1
  exact lv_if_ge hx hb hd ht (fun q => K1 q O H locs ls hl hP hS) (fun q => K2 q O H locs ls hl hP hS)
theorem J_icmp_ge {u v : Int32} {off : Int} {tgt : Nat} (hd : decode cc pc = .ok (.if_icmp .ge off, 3)) (ht : (pc : Int) + off = (tgt : Int)) (K1 : v ≤ u → J x y cc nL rt d M N L0 tgt lv st h k n) (K2 : ¬ (v ≤ u) → J x y cc nL rt d M N L0 (pc + 3) lv st h k n) : J x y cc nL rt d M N L0 pc lv (.int v :: .int u :: st) h k n := by
  obtain ⟨p, l, e, R, s, m, args, below, meth, c, b, ca, cA, D, con, Q⟩ := x
  intro O H locs ls hl hP hS
  have hx := O.1
  have hb := O.2.1
  exact lv_icmp_ge hx hb hd ht (fun q => K1 q O H locs ls hl hP hS) (fun q => K2 q O H locs ls hl hP hS)
theorem J_if_gt {u : Int32} {off : Int} {tgt : Nat} (hd : decode cc pc = .ok (.ifCond .gt off, 3)) (ht : (pc : Int) + off = (tgt : Int)) (K1 : 0 < u → J x y cc nL rt d M N L0 tgt lv st h k n) (K2 : ¬ (0 < u) → J x y cc nL rt d M N L0 (pc + 3) lv st h k n) : J x y cc nL rt d M N L0 pc lv (.int u :: st) h k n := by
  obtain ⟨p, l, e, R, s, m, args, below, meth, c, b, ca, cA, D, con, Q⟩ := x
  intro O H locs ls hl hP hS
  have hx := O.1
  have hb := O.2.1
  exact lv_if_gt hx hb hd ht (fun q => K1 q O H locs ls hl hP hS) (fun q => K2 q O H locs ls hl hP hS)
theorem J_icmp_gt {u v : Int32} {off : Int} {tgt : Nat} (hd : decode cc pc = .ok (.if_icmp .gt off, 3)) (ht : (pc : Int) + off = (tgt : Int)) (K1 : v < u → J x y cc nL rt d M N L0 tgt lv st h k n) (K2 : ¬ (v < u) → J x y cc nL rt d M N L0 (pc + 3) lv st h k n) : J x y cc nL rt d M N L0 pc lv (.int v :: .int u :: st) h k n := by
  obtain ⟨p, l, e, R, s, m, args, below, meth, c, b, ca, cA, D, con, Q⟩ := x
  intro O H locs ls hl hP hS
  have hx := O.1
  have hb := O.2.1
  exact lv_icmp_gt hx hb hd ht (fun q => K1 q O H locs ls hl hP hS) (fun q => K2 q O H locs ls hl hP hS)
theorem J_if_le {u : Int32} {off : Int} {tgt : Nat} (hd : decode cc pc = .ok (.ifCond .le off, 3)) (ht : (pc : Int) + off = (tgt : Int)) (K1 : u ≤ 0 → J x y cc nL rt d M N L0 tgt lv st h k n) (K2 : ¬ (u ≤ 0) → J x y cc nL rt d M N L0 (pc + 3) lv st h k n) : J x y cc nL rt d M N L0 pc lv (.int u :: st) h k n := by
  obtain ⟨p, l, e, R, s, m, args, below, meth, c, b, ca, cA, D, con, Q⟩ := x
  intro O H locs ls hl hP hS
  have hx := O.1
  have hb := O.2.1
  exact lv_if_le hx hb hd ht (fun q => K1 q O H locs ls hl hP hS) (fun q => K2 q O H locs ls hl hP hS)
theorem J_icmp_le {u v : Int32} {off : Int} {tgt : Nat} (hd : decode cc pc = .ok (.if_icmp .le off, 3)) (ht : (pc : Int) + off = (tgt : Int)) (K1 : u ≤ v → J x y cc nL rt d M N L0 tgt lv st h k n) (K2 : ¬ (u ≤ v) → J x y cc nL rt d M N L0 (pc + 3) lv st h k n) : J x y cc nL rt d M N L0 pc lv (.int v :: .int u :: st) h k n := by
  obtain ⟨p, l, e, R, s, m, args, below, meth, c, b, ca, cA, D, con, Q⟩ := x
  intro O H locs ls hl hP hS
  have hx := O.1
  have hb := O.2.1
  exact lv_icmp_le hx hb hd ht (fun q => K1 q O H locs ls hl hP hS) (fun q => K2 q O H locs ls hl hP hS)
theorem J_goto {off : Int} {tgt : Nat} (hd : decode cc pc = .ok (.goto off, 3)) (ht : (pc : Int) + off = (tgt : Int)) (K : J x y cc nL rt d M N L0 tgt lv st h k n) : J x y cc nL rt d M N L0 pc lv st h k n := by
  obtain ⟨p, l, e, R, s, m, args, below, meth, c, b, ca, cA, D, con, Q⟩ := x
  intro O H locs ls hl hP hS
  have hx := O.1
  have hb := O.2.1
  exact lv_goto hx hb hd ht (K O H locs ls hl hP hS)
theorem J_tableIn {dflt lo hi : Int} {offs : Array Int} {len : Nat} {u : Int32} {off : Int} {tgt : Nat} (hd : decode cc pc = .ok (.tableswitch dflt lo hi offs, len)) (h1 : ¬ u.toInt < lo) (h2 : ¬ hi < u.toInt) (ho : offs[(u.toInt - lo).toNat]? = some off) (ht : (pc : Int) + off = (tgt : Int)) (K : J x y cc nL rt d M N L0 tgt lv st h k n) : J x y cc nL rt d M N L0 pc lv (.int u :: st) h k n := by
  obtain ⟨p, l, e, R, s, m, args, below, meth, c, b, ca, cA, D, con, Q⟩ := x
  intro O H locs ls hl hP hS
  have hx := O.1
  have hb := O.2.1
  exact lv_tableIn hx hb hd h1 h2 ho ht (K O H locs ls hl hP hS)
theorem J_tableOut {dflt lo hi : Int} {offs : Array Int} {len : Nat} {u : Int32} {tgt : Nat} (hd : decode cc pc = .ok (.tableswitch dflt lo hi offs, len)) (h1 : u.toInt < lo ∨ hi < u.toInt) (ht : (pc : Int) + dflt = (tgt : Int)) (K : J x y cc nL rt d M N L0 tgt lv st h k n) : J x y cc nL rt d M N L0 pc lv (.int u :: st) h k n := by
  obtain ⟨p, l, e, R, s, m, args, below, meth, c, b, ca, cA, D, con, Q⟩ := x
  intro O H locs ls hl hP hS
  have hx := O.1
  have hb := O.2.1
  exact lv_tableOut hx hb hd h1 ht (K O H locs ls hl hP hS)
theorem J_lookup {dflt : Int} {ps : Array (Int × Int)} {len : Nat} {u : Int32} {off : Int} {tgt : Nat} (hd : decode cc pc = .ok (.lookupswitch dflt ps, len)) (hp : (ps.toList.zip (ps.toList.drop 1)).all (fun (a, next) => a.1 < next.1) = true) (ho : Op.lookupswitch.offset ps.toList dflt u.toInt = off) (ht : (pc : Int) + off = (tgt : Int)) (K : J x y cc nL rt d M N L0 tgt lv st h k n) : J x y cc nL rt d M N L0 pc lv (.int u :: st) h k n := by
  obtain ⟨p, l, e, R, s, m, args, below, meth, c, b, ca, cA, D, con, Q⟩ := x
  intro O H locs ls hl hP hS
  have hx := O.1
  have hb := O.2.1
  exact lv_lookup hx hb hd hp ho ht (K O H locs ls hl hP hS)
theorem J_ldc {i : Nat} {v : Int32} (hd : decode cc pc = .ok (.ldc i, 2)) (hc : Cond.constant y.cls i v ∈ gt) (K : J x y cc nL rt d M N L0 (pc + 2) lv (.int v :: st) h k n) : J x y cc nL rt d M N L0 pc lv st h k n := by
  obtain ⟨p, l, e, R, s, m, args, below, meth, c, b, ca, cA, D, con, Q⟩ := x
  intro O H locs ls hl hP hS
  have hx := O.1
  have hb := O.2.1
  exact lv_ldc hx hb O.2.2.2.1 (O.2.2.2.2.1 _ hc) hd (K O H locs ls hl hP hS)
theorem J_ldc2 {i : Nat} {v : Int64} (hd : decode cc pc = .ok (.ldc2_w i, 3)) (hc : Cond.constantLong y.cls i v ∈ gt) (K : J x y cc nL rt d M N L0 (pc + 3) lv (.long v :: st) h k n) : J x y cc nL rt d M N L0 pc lv st h k n := by
  obtain ⟨p, l, e, R, s, m, args, below, meth, c, b, ca, cA, D, con, Q⟩ := x
  intro O H locs ls hl hP hS
  have hx := O.1
  have hb := O.2.1
  exact lv_ldc2 hx hb O.2.2.2.1 (O.2.2.2.2.1 _ hc) hd (K O H locs ls hl hP hS)
end

