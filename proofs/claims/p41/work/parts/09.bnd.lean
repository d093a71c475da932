/-! more of bounds -/
/-- c lies in none of these ranges -/
def nin (c : Nat) (L : List (Nat × Nat)) : Bool := L.all fun q => Nat.ble (c + 1) q.1 || Nat.ble (q.2 + 1) c
def inl (a : Nat) (L : List (Nat × Nat)) : Bool := L.any fun q => Nat.ble q.1 a && Nat.ble a q.2
def subI (M L : List (Nat × Nat)) : Bool := M.all fun q => L.any fun r => Nat.ble r.1 q.1 && Nat.ble q.2 r.2
def apart (lo hi : Nat) (L : List (Nat × Nat)) : Bool := L.all fun q => Nat.ble (q.2 + 1) lo || Nat.ble (hi + 1) q.1
def inside (lo hi : Nat) (L : List (Nat × Nat)) : Bool := L.all fun q => Nat.ble lo q.1 && Nat.ble q.2 hi
theorem nin_iff {c : Nat} {L : List (Nat × Nat)} : nin c L = true ↔ ∀ q, q ∈ L → c < q.1 ∨ q.2 < c :=
  ⟨fun h q hq => ((Bool.or_eq_true _ _).mp (List.all_eq_true.mp h q hq)).imp (fun x => Nat.le_of_ble_eq_true x) (fun x => Nat.le_of_ble_eq_true x), fun h => List.all_eq_true.mpr (fun q hq => (Bool.or_eq_true _ _).mpr ((h q hq).imp (fun x => Nat.ble_eq_true_of_le x) (fun x => Nat.ble_eq_true_of_le x)))⟩
theorem ble_2 {a b c d : Nat} (h : (Nat.ble a b && Nat.ble c d) = true) : a ≤ b ∧ c ≤ d := by
  obtain ⟨h1, h2⟩ := (Bool.and_eq_true _ _).mp h
  exact ⟨Nat.le_of_ble_eq_true h1, Nat.le_of_ble_eq_true h2⟩
theorem nin_ne {c a : Nat} {L : List (Nat × Nat)} (h : nin c L = true) (m : inl a L = true) : c ≠ a := by
  intro e
  obtain ⟨q, hq, x⟩ := List.any_eq_true.mp m
  have h1 := nin_iff.mp h q hq
  have h2 := ble_2 x
  omega
theorem nin_sub {c : Nat} {L M : List (Nat × Nat)} (h : nin c L = true) (s : subI M L = true) : nin c M = true := by
  refine nin_iff.mpr (fun q hq => ?_)
  obtain ⟨r, hr, x⟩ := List.any_eq_true.mp (List.all_eq_true.mp s q hq)
  have h1 := nin_iff.mp h r hr
  have h2 := ble_2 x
  omega
theorem apart_q {lo hi : Nat} {L : List (Nat × Nat)} (m : apart lo hi L = true) {q : Nat × Nat} (hq : q ∈ L) : q.2 < lo ∨ hi < q.1 := ((Bool.or_eq_true _ _).mp (List.all_eq_true.mp m q hq)).imp (fun x => Nat.le_of_ble_eq_true x) (fun x => Nat.le_of_ble_eq_true x)
theorem nin_rg {c lo hi : Nat} {L : List (Nat × Nat)} (h : lo ≤ c ∧ c ≤ hi) (m : apart lo hi L = true) : nin c L = true := by
  refine nin_iff.mpr (fun q hq => ?_)
  have := apart_q m hq
  omega
theorem nin_o {c lo hi : Nat} {L : List (Nat × Nat)} (h : c < lo ∨ hi < c) (m : inside lo hi L = true) : nin c L = true := by
  refine nin_iff.mpr (fun q hq => ?_)
  have := ble_2 (List.all_eq_true.mp m q hq)
  omega
theorem nin_v {c : Nat} {L : List (Nat × Nat)} (h : (163 ≤ c ∧ c ≤ 169) ∨ c = 181) (m : (apart 163 169 L && apart 181 181 L) = true) : nin c L = true := by
  obtain ⟨m1, m2⟩ := (Bool.and_eq_true _ _).mp m
  exact h.elim (fun x => nin_rg x m1) (fun x => nin_rg (lo := 181) (hi := 181) ⟨by omega, by omega⟩ m2)
theorem nin_u {c : Nat} {L : List (Nat × Nat)} (h : (1 ≤ c ∧ c ≤ 28) ∨ (84 ≤ c ∧ c ≤ 161)) (m : (apart 1 28 L && apart 84 161 L) = true) : nin c L = true := by
  obtain ⟨m1, m2⟩ := (Bool.and_eq_true _ _).mp m
  exact h.elim (fun x => nin_rg x m1) (fun x => nin_rg x m2)
theorem nin_s {l : List Nat} {t i : Nat} {L : List (Nat × Nat)} (ht : t ∈ l) (h : l.all (fun q => nin (q + i) L) = true) : nin (t + i) L = true := List.all_eq_true.mp h t ht
theorem nin_3 {c : Nat} (h1 : c ≠ 162) (h2 : c ≠ 163) (h3 : c ≠ 164) : nin c [(162, 164)] = true := nin_o (lo := 162) (hi := 164) (by omega) rfl
theorem bd_no {lo hi : Int} {v : Int32} (p : Bd lo hi v) (h : hi < lo) : False := by have := p.1; have := p.2; omega
theorem bd_neq {a b c e : Int} {u v : Int32} (h : u = v) (p : Bd a b u) (q : Bd c e v) (r : b < c ∨ e < a) : False := by subst h; have := p.1; have := p.2; have := q.1; have := q.2; omega
theorem bd_nz {a b : Int} {v : Int32} (p : Bd a b v) (r : 0 < a ∨ b < 0) : ¬ v = 0 := by
  intro h
  subst h
  have h0 : (0 : Int32).toInt = 0 := rfl
  have := p.1; have := p.2; omega
theorem lt_le_no {u v : Int32} (h : u < v) (q : v ≤ u) : False := by
  have h1 := Int32.lt_iff_toInt_lt.mp h
  have h2 := Int32.le_iff_toInt_le.mp q
  omega
theorem lt_lt_no {u v : Int32} (h : u < v) (q : v < u) : False := by
  have h1 := Int32.lt_iff_toInt_lt.mp h
  have h2 := Int32.lt_iff_toInt_lt.mp q
  omega
theorem le_addc {lo hi : Int} {a c : Int32} (p : Bd lo hi a) (r : 0 ≤ c.toInt ∧ hi + c.toInt ≤ 2147483647 ∧ -2147483648 ≤ lo) : a ≤ a + c := by
  obtain ⟨p1, p2⟩ := p
  rw [Int32.le_iff_toInt_le, ti_add (by omega) (by omega)]
  omega
theorem lcmp_ne {a : Int64} (h : ¬ lg_cmp a 0 = 0) : ¬ a = 0 := by intro e; subst e; exact h (by decide)
theorem lcmp_nlt1 {a : Int64} (h : ¬ lg_cmp a 1 < 0) : ¬ a = 0 := by intro e; subst e; exact h (by decide)
theorem bd_bv {v : Int32} (h : 0 ≤ v.toInt) : v.toInt = (v.toBitVec.toNat : Int) := by
  have h1 : v.toInt = if 2 * v.toBitVec.toNat < 2 ^ 32 then (v.toBitVec.toNat : Int) else (v.toBitVec.toNat : Int) - ((2 ^ 32 : Nat) : Int) := BitVec.toInt_eq_toNat_cond v.toBitVec
  have h2 := v.toBitVec.isLt
  split at h1 <;> omega
theorem bv_lt {v : Int32} {hi : Int} (h0 : 0 ≤ v.toInt) (h : v.toInt ≤ hi) : (v.toBitVec.toNat : Int) ≤ hi := by rw [← bd_bv h0]; exact h
theorem bd_of_nat {v : Int32} {n : Nat} (h : v.toBitVec.toNat ≤ n) (hn : n ≤ 2147483647) : Bd 0 n v := by
  have h1 : v.toInt = v.toBitVec.toInt := rfl
  rw [Bd, h1, BitVec.toInt_eq_toNat_cond]
  split <;> omega
theorem bd_andr {a b : Int} {u v : Int32} (p : Bd a b v) (h : 0 ≤ a ∧ b ≤ 2147483647) : Bd 0 b (u &&& v) := by
  obtain ⟨p1, p2⟩ := p
  have h1 := bv_lt (by omega) p2
  have h2 : (u &&& v).toBitVec.toNat ≤ v.toBitVec.toNat := by
    show (u.toBitVec &&& v.toBitVec).toNat ≤ _
    rw [BitVec.toNat_and]
    exact Nat.and_le_right
  have h3 := bd_of_nat (n := b.toNat) (v := u &&& v) (by omega) (by omega)
  exact ⟨h3.1, by have := h3.2; omega⟩
theorem bd_andl {a b : Int} {u v : Int32} (p : Bd a b u) (h : 0 ≤ a ∧ b ≤ 2147483647) : Bd 0 b (u &&& v) := by
  rw [Int32.and_comm]; exact bd_andr p h
theorem bd_or {a b c e h : Int} {k : Nat} {u v : Int32} (p : Bd a b u) (q : Bd c e v) (r : 0 ≤ a ∧ 0 ≤ c ∧ b ≤ h ∧ e ≤ h ∧ h = 2 ^ k - 1 ∧ k ≤ 31) : Bd 0 h (u ||| v) := by
  obtain ⟨p1, p2⟩ := p; obtain ⟨q1, q2⟩ := q; obtain ⟨r1, r2, r3, r4, r5, r6⟩ := r
  have h1 := bv_lt (by omega) p2
  have h2 := bv_lt (by omega) q2
  have hp : (2 : Int) ^ k = ((2 ^ k : Nat) : Int) := by simp
  have h3 : (u ||| v).toBitVec.toNat < 2 ^ k := by
    show (u.toBitVec ||| v.toBitVec).toNat < _
    rw [BitVec.toNat_or]
    exact Nat.or_lt_two_pow (by omega) (by omega)
  have h5 : 2 ^ k ≤ 2 ^ 31 := Nat.pow_le_pow_right (by decide) r6
  have h4 := bd_of_nat (n := 2 ^ k - 1) (v := u ||| v) (by omega) (by omega)
  exact ⟨h4.1, by have := h4.2; omega⟩
theorem i32_nat {v : Int32} {lo hi : Int} (p : Bd lo hi v) (h : 0 ≤ lo) : ∃ n : Nat, (n : Int) = v.toInt ∧ v = Int32.ofNat n := by
  obtain ⟨p1, p2⟩ := p
  have h0 := (bd_any v).2
  refine ⟨v.toInt.toNat, by omega, Int32.toInt_inj.mp ?_⟩
  rw [Int32.toInt_ofNat_of_lt (by omega)]
  omega
theorem sh_dec : ∀ n, n < 32 → ((Int32.ofNat n).toBitVec.smod 32).toNat = n := by decide +kernel
theorem sh_pow : ∀ n, n < 31 → ((1 : Int32) <<< (Int32.ofNat n &&& 31)).toInt = 2 ^ n := by decide +kernel
theorem bd_shr {a b : Int} {u v : Int32} (p : Bd a b u) (h : 0 ≤ a) : Bd 0 b (u >>> (v &&& 31)) := by
  obtain ⟨p1, p2⟩ := p
  have q := bd_andr (u := v) (v := 31) (a := 31) (b := 31) (by decide) (by decide)
  obtain ⟨k, hk, hw⟩ := i32_nat q (by decide)
  have hk2 : k < 32 := by have := q.2; omega
  have e : (u >>> (v &&& 31)).toInt = u.toInt >>> k := by
    rw [hw]
    show (u >>> Int32.ofNat k).toBitVec.toInt = _
    rw [Int32.toBitVec_shiftRight, BitVec.sshiftRight', sh_dec k hk2, BitVec.toInt_sshiftRight]
    rfl
  rw [Bd, e, Int.shiftRight_eq_div_pow]
  have h2 : (0 : Int) < ((2 ^ k : Nat) : Int) := Int.ofNat_lt.mpr (Nat.two_pow_pos k)
  refine ⟨Int.ediv_nonneg (by omega) (Int.le_of_lt h2), ?_⟩
  have h3 : u.toInt / ((2 ^ k : Nat) : Int) ≤ u.toInt := Int.ediv_le_self _ (by omega)
  omega
theorem bd_shl {lo hi l h : Int} {v : Int32} (p : Bd lo hi v) (r : 0 ≤ lo ∧ hi ≤ 30 ∧ l ≤ 2 ^ lo.toNat ∧ 2 ^ hi.toNat ≤ h) : Bd l h ((1 : Int32) <<< (v &&& 31)) := by
  obtain ⟨r1, r2, r3, r4⟩ := r
  obtain ⟨k, hk, hw⟩ := i32_nat p r1
  obtain ⟨p1, p2⟩ := p
  rw [hw, Bd, sh_pow k (by omega)]
  have h1 : ((2 ^ lo.toNat : Nat) : Int) ≤ ((2 ^ k : Nat) : Int) := Int.ofNat_le.mpr (Nat.pow_le_pow_right (by decide) (by omega))
  have h2 : ((2 ^ k : Nat) : Int) ≤ ((2 ^ hi.toNat : Nat) : Int) := Int.ofNat_le.mpr (Nat.pow_le_pow_right (by decide) (by omega))
  have e1 : (2 : Int) ^ lo.toNat = ((2 ^ lo.toNat : Nat) : Int) := by simp
  have e2 : (2 : Int) ^ k = ((2 ^ k : Nat) : Int) := by simp
  have e3 : (2 : Int) ^ hi.toNat = ((2 ^ hi.toNat : Nat) : Int) := by simp
  rw [e1] at r3
  rw [e3] at r4
  rw [e2]
  exact ⟨Int.le_trans r3 h1, Int.le_trans h2 r4⟩
theorem ti_div {u c : Int32} (h : 0 ≤ u.toInt) (hc : 0 < c.toInt) : (u / c).toInt = u.toInt / c.toInt := by
  have h0 := (bd_any u).2
  rw [Int32.toInt_div, Int.tdiv_eq_ediv_of_nonneg h]
  have h1 : u.toInt / c.toInt ≤ u.toInt := Int.ediv_le_self _ h
  have h2 : 0 ≤ u.toInt / c.toInt := Int.ediv_nonneg h (by omega)
  exact bmod (by omega) (by omega)
theorem bd_div {a b l h : Int} {u c : Int32} (p : Bd a b u) (r : 0 ≤ a ∧ 0 < c.toInt ∧ l ≤ a / c.toInt ∧ b / c.toInt ≤ h) : Bd l h (u / c) := by
  obtain ⟨p1, p2⟩ := p; obtain ⟨r1, r2, r3, r4⟩ := r
  rw [Bd, ti_div (by omega) r2]
  have h1 : a / c.toInt ≤ u.toInt / c.toInt := Int.ediv_le_ediv r2 p1
  have h2 : u.toInt / c.toInt ≤ b / c.toInt := Int.ediv_le_ediv r2 p2
  omega
theorem ti_rem {u c : Int32} (h : 0 ≤ u.toInt) (hc : 0 < c.toInt) : (u - u / c * c).toInt = u.toInt % c.toInt := by
  have h0 := (bd_any u).2
  have h1 := ti_div h hc
  have h2 : u.toInt / c.toInt * c.toInt + u.toInt % c.toInt = u.toInt := by rw [Int.mul_comm]; exact Int.mul_ediv_add_emod _ _
  have h3 : 0 ≤ u.toInt % c.toInt := Int.emod_nonneg _ (by omega)
  have h4 : 0 ≤ u.toInt / c.toInt * c.toInt := Int.mul_nonneg (Int.ediv_nonneg h (by omega)) (by omega)
  have h5 : (u / c * c).toInt = u.toInt / c.toInt * c.toInt := by rw [Int32.toInt_mul, h1, bmod (by omega) (by omega)]
  rw [ti_sub (by omega) (by omega), h5]
  omega
theorem bd_rem {a b : Int} {u c : Int32} (p : Bd a b u) (r : 0 ≤ a ∧ 0 < c.toInt) : Bd 0 (c.toInt - 1) (u - u / c * c) := by
  obtain ⟨p1, p2⟩ := p; obtain ⟨r1, r2⟩ := r
  rw [Bd, ti_rem (by omega) r2]
  have h1 := Int.emod_nonneg u.toInt (show c.toInt ≠ 0 by omega)
  have h2 := Int.emod_lt_of_pos u.toInt r2
  omega
theorem bd_ush {u z : Int32} (h : z = (u.toUInt32 >>> ((16 : Int32).toUInt32 &&& Int32.toUInt32 31)).toInt32) : Bd 0 65535 z := by
  have e : (16 : Int32).toUInt32 &&& Int32.toUInt32 31 = 16 := by decide
  rw [e] at h
  refine bd_of_nat (n := 65535) ?_ (by omega)
  have h1 : z.toBitVec.toNat = (u.toUInt32 >>> 16).toNat := by rw [h]; rfl
  have h2 : (u.toUInt32 >>> 16).toNat = u.toUInt32.toNat >>> 16 := by rw [UInt32.toNat_shiftRight]; rfl
  rw [h1, h2, Nat.shiftRight_eq_div_pow]
  have := u.toUInt32.toNat_lt
  omega
theorem bd_cases2 {v : Int32} (p : Bd 0 1 v) : v = 0 ∨ v = 1 := by
  have h1 : v.toInt = 0 ∨ v.toInt = 1 := by have := p.1; have := p.2; omega
  rcases h1 with h | h
  · exact Or.inl (Int32.toInt_inj.mp h)
  · exact Or.inr (Int32.toInt_inj.mp h)
theorem bd_cases3 {v : Int32} (p : Bd 0 2 v) : v = 0 ∨ v = 1 ∨ v = 2 := by
  have h1 : v.toInt = 0 ∨ v.toInt = 1 ∨ v.toInt = 2 := by have := p.1; have := p.2; omega
  rcases h1 with h | h | h
  · exact Or.inl (Int32.toInt_inj.mp h)
  · exact Or.inr (Or.inl (Int32.toInt_inj.mp h))
  · exact Or.inr (Or.inr (Int32.toInt_inj.mp h))
theorem sar_b {l : List Int32} {lo hi : Int} (h : (l.all (fun v => decide (lo ≤ v.toInt ∧ v.toInt ≤ hi)) && decide (lo ≤ 0 ∧ 0 ≤ hi)) = true) (j : Nat) : Bd lo hi (l.getD j 0) := by
  obtain ⟨h1, h2⟩ := (Bool.and_eq_true _ _).mp h
  rw [List.getD_eq_getElem?_getD]
  cases hj : l[j]? with
  | none => exact of_decide_eq_true h2
  | some v => exact of_decide_eq_true (List.all_eq_true.mp h1 v (List.mem_of_getElem? hj))
theorem sln_le : ∀ i, sLn.getD i 0 ≤ 5 := by
  intro i
  rw [List.getD_eq_getElem?_getD]
  cases hj : sLn[i]? with
  | none => exact Nat.zero_le _
  | some v => exact of_decide_eq_true (List.all_eq_true.mp (show sLn.all (fun v => decide (v ≤ 5)) = true by decide) v (List.mem_of_getElem? hj))
theorem sln_b (i : Nat) : Bd 0 5 (Int32.ofNat (sLn.getD i 0)) := by
  have h := sln_le i
  have h1 : (Int32.ofNat (sLn.getD i 0)).toInt = (sLn.getD i 0 : Nat) := Int32.toInt_ofNat_of_lt (by omega)
  rw [Bd, h1]
  omega
theorem int_ne {k : Int} {u v : Int32} (h : ¬ u = v) (e : v.toInt = k) : u.toInt ≠ k := fun q => h (Int32.toInt_inj.mp (q.trans e.symm))
theorem fit_nar (x : Int32) : fits .byte (.int (vp_nar .byte x)) = true := fits_narrow_byte x
theorem bf_s {u u2 : Nat → Nat → Int32} {a i : Nat} {v : Int32} (e : u2 = ms u a i (vp_nar .byte v)) (h : BF u a) : BF u2 a := by
  intro j
  rw [ms_a e, upd]
  by_cases q : j = i
  · rw [if_pos q]; exact fit_nar v
  · rw [if_neg q]; exact h j
theorem bf_cp {u u2 : Nat → Nat → Int32} {a b sp dp n : Nat} (e : u2 = mr u a (va_cpy (u b) (u a) sp dp n)) (h : BF u b) (h2 : BF u a) : BF u2 a := by
  intro j
  rw [mr_a e, va_cpy]
  by_cases q : dp ≤ j ∧ j < dp + n
  · rw [if_pos q]; exact h _
  · rw [if_neg q]; exact h2 j
theorem ab_cp {u u2 : Nat → Nat → Int32} {a b sp dp n : Nat} {lo hi : Int} (e : u2 = mr u a (va_cpy (u b) (u a) sp dp n)) (h : AB u b lo hi) (h2 : AB u a lo hi) : AB u2 a lo hi := by
  intro j
  rw [mr_a e, va_cpy]
  by_cases q : dp ≤ j ∧ j < dp + n
  · rw [if_pos q]; exact h _
  · rw [if_neg q]; exact h2 j
theorem Met_ofF {l : Launch} {y : MethodName} {ws ws' : List Cond} {rm : Room} {Pc : Array Value → State → Prop} {Qc : Array Value → State → Outcome → State → Prop} {mc ms : Nat} {free : Addr → Prop} {cc : ByteArray} {maxL : Nat} {ret : Option FieldType}
    (hy : plainFor y = true) (hw : ws = Cond.code y cc maxL ret :: ws')
    (body : ∀ p e s m args below meth c s₁, BodyLoose p l y (headSpec ws rm) cc maxL ret e s m args below meth c s₁ → c.maxLocals = maxL → Pc args s →
      W p l e (headSpec ws rm).room s m args below meth c s.heap [] 0 0 (MQ below Qc args s mc ms free) (entryFrame m args maxL)) : Met l y ws rm Pc Qc mc ms free := by
  refine MetFree.of_bodySF (code := cc) (maxLocals := maxL) (ret := ret) hy ?_ ?_
  · intro args s m h hn
    obtain ⟨meth, c, h1, h2, h3, h4, h5, h6, -, -⟩ := Cond.code_spec hn (atoms_spec (ws := ws) h _ (by rw [hw]; exact List.mem_cons_self))
    exact ⟨meth, c, h1, h2, h3, h4, h5, h6⟩
  · intro p e s m args below meth c s₁ B hml hP _
    have hh0 : s₁.heap = s.heap := by rw [B.state]; rfl
    obtain ⟨t, a1, o, b1, b2, b3⟩ := body p e s m args below meth c s₁ B hml hP s₁ hh0 (Stand.of_body B)
    exact ⟨t, o, a1, b1, b2, ⟨b3.1, b3.2⟩⟩
theorem CT_ofF {con0 : JK} {d M N : Nat} {y : MethodName} {cc : ByteArray} {nL : Nat} {rt : Option FieldType} {av : List Value} {h : List MC} {Post : Option Value → List MC → Prop} (hy : plainFor y = true) (hn : (lg_sl av).length ≤ nL)
    (K : ∀ x : JX, JQ x con0 M N Post → J x y cc nL rt d M N h.length 0 (lv_args 0 av) [] h 0 0) : CT con0 d M N y cc nL rt av h Post := by
  intro l b ca cA D con hcon
  refine Met_ofF (cc := cc) (maxL := nL) (ret := rt) hy rfl ?_
  intro p e s m args below meth c s₁ B hml hv
  obtain ⟨rfl, hsz, hP, hK, hC, hNW⟩ := hv
  have hts := atoms_spec (ws := .code y cc nL rt :: gt) B.pre
  have hl := lv_entry (av.map (rv b ca)) (n := nL) (by rw [rv_sl]; exact hn)
  rw [lg_entry_eq]
  rw [rl_args] at hl
  exact K (p, l, e, (headSpec (.code y cc nL rt :: gt) (RM d M N)).room, s, m, (av.map (rv b ca)).toArray, below, meth, c, b, ca, cA, D, con, MQ below (QC b ca cA D Post) (av.map (rv b ca)).toArray s M N (fun q => b ≤ q)) ⟨rfl, hcon⟩
    ⟨B.exec, B.bytes, hml, findClass_of_methodNamed B.named, fun w h => hts w (List.mem_cons_of_mem _ h), B.returns, B.notSynchronized, fun hi => (name_of_methodNamed B.named B.method).1.trans hi, hK, hsz, Nat.le_refl _, Nat.le_refl _, Nat.le_refl _, Nat.le_refl _, hC, hNW⟩ s.heap [] _ hl hP va_S.rf
/-- works: what is done by how much is no less than 0, but for taking out -/
def KM (u : Nat → Nat → Int32) (w : Nat) : Prop := ∀ j, u (w + 1) j = 4 ∨ Bd 0 999 (u (w + 3) j)
theorem km_c {u u2 : Nat → Nat → Int32} {w : Nat} (e1 : u2 (w + 1) = u (w + 1)) (e2 : u2 (w + 3) = u (w + 3)) (h : KM u w) : KM u2 w := by intro j; rw [e1, e2]; exact h j
theorem km_use {a b c e : Int32} (h1 : a = c) (h2 : b = e) (h : c = 4 ∨ Bd 0 999 e) : a = 4 ∨ Bd 0 999 b := by subst h1; subst h2; exact h
/-- what a hill tells of a pond -/
def hof (u : Nat → Nat → Int32) (t : Nat) (p c : Int32) : Int32 := if p < 0 ∨ 9 ≤ p ∨ c < 0 ∨ 16 ≤ c then 0 else u (t + 1) (p * 16 + c).toNatClampNeg
theorem hof_1 {u : Nat → Nat → Int32} {t : Nat} {p c : Int32} (h : p < 0) : 0 = hof u t p c := (if_pos (Or.inl h)).symm
theorem hof_2 {u : Nat → Nat → Int32} {t : Nat} {p c : Int32} (h : 9 ≤ p) : 0 = hof u t p c := (if_pos (Or.inr (Or.inl h))).symm
theorem hof_3 {u : Nat → Nat → Int32} {t : Nat} {p c : Int32} (h : c < 0) : 0 = hof u t p c := (if_pos (Or.inr (Or.inr (Or.inl h)))).symm
theorem hof_4 {u : Nat → Nat → Int32} {t : Nat} {p c : Int32} (h : 16 ≤ c) : 0 = hof u t p c := (if_pos (Or.inr (Or.inr (Or.inr h)))).symm
theorem hof_5 {u : Nat → Nat → Int32} {t : Nat} {p c v : Int32} (h1 : 0 ≤ p) (h2 : p < 9) (h3 : 0 ≤ c) (h4 : c < 16) (e : v = u (t + 1) (p * 16 + c).toNatClampNeg) : v = hof u t p c := by
  rw [e]
  refine (if_neg ?_).symm
  intro h
  rcases h with h | h | h | h
  · exact lt_le_no h h1
  · exact lt_le_no h2 h
  · exact lt_le_no h h3
  · exact lt_le_no h4 h
theorem hof_c {u u2 : Nat → Nat → Int32} {t : Nat} {p c : Int32} (e : u2 (t + 1) = u (t + 1)) : hof u2 t p c = hof u t p c := by unfold hof; rw [e]
theorem hof_b {u : Nat → Nat → Int32} {t : Nat} {p c : Int32} {lo hi : Int} (h : AB u (t + 1) lo hi) (r : lo ≤ 0 ∧ 0 ≤ hi) : Bd lo hi (hof u t p c) := by
  unfold hof
  split
  · exact ⟨r.1, r.2⟩
  · exact h _
theorem lt_pred {u v : Int32} (h : u < v) : u ≤ v - 1 := by
  have h1 := Int32.lt_iff_toInt_lt.mp h
  have h2 := (bd_any u).1
  have h3 := (bd_any v).2
  have e : (1 : Int32).toInt = 1 := rfl
  rw [Int32.le_iff_toInt_le, ti_sub (by omega) (by omega)]
  omega
theorem bd_subl {a b c e h : Int} {u v : Int32} (p : Bd a b u) (q : Bd c e v) (l : v ≤ u) (r : b - c ≤ h ∧ h ≤ 2147483647) : Bd 0 h (u - v) := by
  have h1 := Int32.le_iff_toInt_le.mp l
  obtain ⟨p1, p2⟩ := p; obtain ⟨q1, q2⟩ := q; obtain ⟨r1, r2⟩ := r
  rw [Bd, ti_sub (by omega) (by omega)]
  omega
section
variable {x : JX} {y : MethodName} {cc : ByteArray} {nL : Nat} {rt : Option FieldType} {d M N L0 : Nat} {pc : Nat} {lv : List (Nat × Value)} {st : List Value} {h : List MC} {k n : Nat}
end

