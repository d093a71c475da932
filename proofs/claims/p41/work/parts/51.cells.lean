section
/-! THE CLAIM OUT OF ONE WALK OF THE LAW'S BODY. Your part is whole_start (and what it stands on); all else here is the same for every law, but numbers. -/
def R_law : String := "PondStairLaw"
def lw_P (b : Addr) (xs : List Int32) (args : Array Value) (s : State) : Prop := args = #[.ref b] ∧ s.IntsAt b xs ∧ xs.length ≤ 4096 ∧ (Jvm.Cond.and given_1 narrow_1).before args s = true
def lw_Q (_ : Array Value) (s : State) (o : Outcome) (t : State) : Prop := o = .returned (some (.int 1)) ∧ Framed s o t [] 600000 7302250
def lw_Z (below : List Frame) (a : Array Value) (s : State) : State → Prop := fun t => ∃ o, t.status = .running ∧ Ended t below o ∧ lw_Q a s o t
/-- the law's own end, with 1 on the stack, nothing written that was there before, its room as the claim has it -/
theorem lw_ret {p : Program} {l : Launch} {e : Env} {s : State} {m : MethodId} {below : List Frame} {meth : Method} {c : Code} {b : Nat} (hx : p.tables.exec = Jvm.exec) (hb : c.code = code) (hr : meth.sig.returnType = ret) (hlocks : meth.locks = false) {pc : Nat} {H : Heap} {ls : Array Slot} (hdg : decode code pc = .ok (.ireturn, 1)) : W p l e room_1 s m #[Value.ref b] below meth c H [] 600000 7302250 (lw_Z below #[Value.ref b] s) (F0 m pc ls [.int 1]) := by
  intro T hT X
  obtain ⟨fs, hret, hrun, hended, hW, hframe⟩ := X.leave (v := some (.int 1)) (hlocks := hlocks) (fun h => by rw [hr] at h; cases h)
  have hmeth' : T.vm.method? m = some meth := X.method'
  refine ⟨T.setFrames fs, ?_, .returned (some (.int 1)), hrun, hended, rfl, ⟨_, rfl⟩, hW, hframe⟩
  jvm_step X.here [X.here.top, hx, hb, hdg, hmeth', hr, ret, narrow_b1]
  (try refine ⟨rfl, ?_⟩); (try refine ⟨rfl, ?_⟩)
  first | (intro acts; rw [hret _ acts rfl rfl rfl]) | rw [hret _ _ rfl rfl rfl]
  exact Steps.refl _
/-- what holds at the law's entry: the machine, the code, the tables' words (any of lw_tbl by 'hts w (by decide +kernel)'), the script of L ints xs at the cell b, what the Statement gives of the start (any of its parts by flat_of_before) -/
def lw_At (p : Program) (s : State) (m : MethodId) (meth : Method) (c : Code) (b L : Nat) (xs : Nat → Int32) : Prop :=
  p.tables.exec = Jvm.exec ∧ c.code = code ∧ meth.sig.returnType = ret ∧ c.maxLocals = 4 ∧ s.vm.findClass R_law = some m.cls ∧ (∀ w ∈ lw_tbl, w.before #[Value.ref b] s = true) ∧ va_X b L xs s s.heap ∧ b < s.heap.size ∧ meth.locks = false ∧ (Jvm.Cond.and given_1 narrow_1).before #[Value.ref b] s = true
/-- the law's own end -/
def LQ (x : JX) (bb : Nat) : Prop := (match x with
  | (_, _, _, R, s, _, args, below, _, _, _, _, _, _, _, Q) => R = room_1 ∧ args = #[Value.ref bb] ∧ Q = lw_Z below #[Value.ref bb] s) ∧ JN x con0
theorem LQ.n {x : JX} {bb : Nat} (h : LQ x bb) : JN x con0 := h.2
theorem J_law1 {x : JX} {bb pc k n : Nat} {lv : List (Nat × Value)} {h : List MC} (hq : LQ x bb) (hd : decode code pc = .ok (.ireturn, 1)) (hk : k ≤ 600000) (hn : n ≤ 7302250) : J x yL_law code 4 ret 11 600000 7302250 0 pc lv [.int 1] h k n := by
  obtain ⟨p, l, e, R, s, m, args, below, meth, c, b, ca, cA, D, con, Q⟩ := x
  obtain ⟨⟨rfl, rfl, rfl⟩, -⟩ := hq
  intro O H locs ls hl hP hS
  refine va_forget (fun q hq => ?_) ?_
  · have h1 : b ≤ q.base := hS.2.2 q hq
    have h2 := O.2.2.2.2.2.2.2.2.2.1
    show s.heap.size ≤ q.base
    omega
  · refine W.widen (k := 600000) (n := 7302250) hk hn ?_
    exact lw_ret O.1 O.2.1 O.2.2.2.2.2.1 O.2.2.2.2.2.2.1 hd
/-- a fresh class, a fresh reference -/
def ZX (h : List MC) : Prop := h.length = 182 ∧ h[0]? = some (ob10 1) ∧ At h 1 (bk10 1)
def ZM (h : List MC) : Prop := h.length = 182 ∧ h[162]? = some (ob11 163) ∧ At h 163 (bk11 163)
theorem At.head {h B : List MC} {n : Nat} {c : MC} (hb : At h n (c :: B)) : h[n]? = some c := hb 0 c rfl
theorem At.tail {h B : List MC} {n m : Nat} {c : MC} (hm : n + 1 = m) (hb : At h n (c :: B)) : At h m B := by
  subst hm
  intro i x q
  have := hb (i + 1) x q
  rwa [Nat.add_assoc, Nat.add_comm 1 i]
theorem At.left {h A B : List MC} {n : Nat} (hb : At h n (A ++ B)) : At h n A := by
  intro i x q
  exact hb i x (by rw [List.getElem?_append_left (List.getElem?_eq_some_iff.mp q).1]; exact q)
theorem At.right {h A B : List MC} {n m k : Nat} (hm : A.length = m) (hk : n + m = k) (hb : At h n (A ++ B)) : At h k B := by
  subst hk; subst hm
  intro i x q
  have := hb (A.length + i) x (by rw [List.getElem?_append_right (Nat.le_add_right _ _), Nat.add_sub_cancel_left]; exact q)
  rwa [Nat.add_assoc]
def u0 : Nat → Nat → Int32 := fun a => if a = 1 ∨ a = 84 ∨ a = 110 ∨ a = 136 then (fun j => if j = 3 then -1 else 0) else if a = 29 then (fun j => if j = 6 then -1 else 0) else if a = 56 then (fun j => if j = 2 ∨ j = 3 then -1 else 0) else if a = 166 then upd (fun _ => 0) ((0 : Int32).toNatClampNeg) (-1) else fun _ => 0
def g0 : Nat → Nat → Int64 := fun _ _ => 0
theorem ltS {P : Nat → Prop} {n : Nat} (h : ∀ i, i < n → P i) (hn : P n) : ∀ i, i < n + 1 → P i := fun i hi => (Nat.lt_or_eq_of_le (Nat.le_of_lt_succ hi)).elim (h i) (fun e => e ▸ hn)
theorem zx_0 {h : List MC} (hz : ZX h) : h[0]? = some (.inr (10, [.ref 1, .ref 27, .ref 28, .ref 29, .ref 43, .ref 49, .ref 53, .ref 56, .ref 57, .ref 79])) := hz.2.1
theorem zsX_0 {h : List MC} (hz : ZX h) : At h 1 (ob7 (1 + 1) :: (bk7 (1 + 1) ++ ((.inl (5, 3, .inr (.inr (va_up (va_up (va_up (fun _ => none) ((0 : Int32).toNatClampNeg) (some (84))) ((1 : Int32).toNatClampNeg) (some (110))) ((2 : Int32).toNatClampNeg) (some (136)))))) :: ((.inl (3, 3, .inl (fun _ => 0))) :: (ob3 (1 + 29) :: (bk3 (1 + 29) ++ (ob4 (1 + 43) :: (bk4 (1 + 43) ++ (ob8 (1 + 49) :: (bk8 (1 + 49) ++ (ob5 (1 + 53) :: (bk5 (1 + 53) ++ (ob0 (1 + 56) :: (bk0 (1 + 56) ++ (ob1 (1 + 79) :: (bk1 (1 + 79) ++ (ob7 (1 + 84) :: (bk7 (1 + 84) ++ (ob7 (1 + 110) :: (bk7 (1 + 110) ++ (ob7 (1 + 136) :: (bk7 (1 + 136) ++ ([]))))))))))))))))))))))) := hz.2.2
theorem zx_1 {h : List MC} (hz : ZX h) : h[(1 : Nat)]? = some (.inr (7, [.ref 2, .int 0, .int 0, .int (-1), .ref 3, .int 0, .ref 4, .int 0])) := At.head (zsX_0 hz)
theorem zsX_1 {h : List MC} (hz : ZX h) : At h 2 (bk7 (1 + 1) ++ ((.inl (5, 3, .inr (.inr (va_up (va_up (va_up (fun _ => none) ((0 : Int32).toNatClampNeg) (some (84))) ((1 : Int32).toNatClampNeg) (some (110))) ((2 : Int32).toNatClampNeg) (some (136)))))) :: ((.inl (3, 3, .inl (fun _ => 0))) :: (ob3 (1 + 29) :: (bk3 (1 + 29) ++ (ob4 (1 + 43) :: (bk4 (1 + 43) ++ (ob8 (1 + 49) :: (bk8 (1 + 49) ++ (ob5 (1 + 53) :: (bk5 (1 + 53) ++ (ob0 (1 + 56) :: (bk0 (1 + 56) ++ (ob1 (1 + 79) :: (bk1 (1 + 79) ++ (ob7 (1 + 84) :: (bk7 (1 + 84) ++ (ob7 (1 + 110) :: (bk7 (1 + 110) ++ (ob7 (1 + 136) :: (bk7 (1 + 136) ++ ([])))))))))))))))))))))) := At.tail rfl (zsX_0 hz)
theorem zbX_1 {h : List MC} (hz : ZX h) : At h 2 (bk7 (1 + 1)) := At.left (zsX_1 hz)
theorem zx_2 {h : List MC} (hz : ZX h) : h[(2 : Nat)]? = some (.inl (0, 600, .inl (fun _ => 0))) := zbX_1 hz 0 _ rfl
theorem zx_3 {h : List MC} (hz : ZX h) : h[(3 : Nat)]? = some (.inl (4, 2, .inr (.inr (va_up (va_up (fun _ => none) ((0 : Int32).toNatClampNeg) (some (5))) ((1 : Int32).toNatClampNeg) (some (10)))))) := zbX_1 hz 1 _ rfl
theorem zx_4 {h : List MC} (hz : ZX h) : h[(4 : Nat)]? = some (.inl (6, 3, .inr (.inr (va_up (va_up (va_up (fun _ => none) ((0 : Int32).toNatClampNeg) (some (15))) ((1 : Int32).toNatClampNeg) (some (19))) ((2 : Int32).toNatClampNeg) (some (23)))))) := zbX_1 hz 2 _ rfl
theorem zx_5 {h : List MC} (hz : ZX h) : h[(5 : Nat)]? = some (.inr (1, [.int 0, .ref 6, .int 0, .ref 7, .ref 8, .ref 9])) := zbX_1 hz 3 _ rfl
theorem zx_6 {h : List MC} (hz : ZX h) : h[(6 : Nat)]? = some (.inl (1, 144, .inl (fun _ => 0))) := zbX_1 hz 4 _ rfl
theorem zx_7 {h : List MC} (hz : ZX h) : h[(7 : Nat)]? = some (.inl (1, 4, .inl (fun _ => 0))) := zbX_1 hz 5 _ rfl
theorem zx_8 {h : List MC} (hz : ZX h) : h[(8 : Nat)]? = some (.inl (1, 4, .inl (fun _ => 0))) := zbX_1 hz 6 _ rfl
theorem zx_9 {h : List MC} (hz : ZX h) : h[(9 : Nat)]? = some (.inl (1, 3, .inl (fun _ => 0))) := zbX_1 hz 7 _ rfl
theorem zx_10 {h : List MC} (hz : ZX h) : h[(10 : Nat)]? = some (.inr (1, [.int 0, .ref 11, .int 0, .ref 12, .ref 13, .ref 14])) := zbX_1 hz 8 _ rfl
theorem zx_11 {h : List MC} (hz : ZX h) : h[(11 : Nat)]? = some (.inl (1, 144, .inl (fun _ => 0))) := zbX_1 hz 9 _ rfl
theorem zx_12 {h : List MC} (hz : ZX h) : h[(12 : Nat)]? = some (.inl (1, 4, .inl (fun _ => 0))) := zbX_1 hz 10 _ rfl
theorem zx_13 {h : List MC} (hz : ZX h) : h[(13 : Nat)]? = some (.inl (1, 4, .inl (fun _ => 0))) := zbX_1 hz 11 _ rfl
theorem zx_14 {h : List MC} (hz : ZX h) : h[(14 : Nat)]? = some (.inl (1, 3, .inl (fun _ => 0))) := zbX_1 hz 12 _ rfl
theorem zx_15 {h : List MC} (hz : ZX h) : h[(15 : Nat)]? = some (.inr (8, [.int 0, .ref 16, .ref 17, .ref 18])) := zbX_1 hz 13 _ rfl
theorem zx_16 {h : List MC} (hz : ZX h) : h[(16 : Nat)]? = some (.inl (1, 12, .inl (fun _ => 0))) := zbX_1 hz 14 _ rfl
theorem zx_17 {h : List MC} (hz : ZX h) : h[(17 : Nat)]? = some (.inl (1, 12, .inl (fun _ => 0))) := zbX_1 hz 15 _ rfl
theorem zx_18 {h : List MC} (hz : ZX h) : h[(18 : Nat)]? = some (.inl (1, 12, .inl (fun _ => 0))) := zbX_1 hz 16 _ rfl
theorem zx_19 {h : List MC} (hz : ZX h) : h[(19 : Nat)]? = some (.inr (8, [.int 0, .ref 20, .ref 21, .ref 22])) := zbX_1 hz 17 _ rfl
theorem zx_20 {h : List MC} (hz : ZX h) : h[(20 : Nat)]? = some (.inl (1, 12, .inl (fun _ => 0))) := zbX_1 hz 18 _ rfl
theorem zx_21 {h : List MC} (hz : ZX h) : h[(21 : Nat)]? = some (.inl (1, 12, .inl (fun _ => 0))) := zbX_1 hz 19 _ rfl
theorem zx_22 {h : List MC} (hz : ZX h) : h[(22 : Nat)]? = some (.inl (1, 12, .inl (fun _ => 0))) := zbX_1 hz 20 _ rfl
theorem zx_23 {h : List MC} (hz : ZX h) : h[(23 : Nat)]? = some (.inr (8, [.int 0, .ref 24, .ref 25, .ref 26])) := zbX_1 hz 21 _ rfl
theorem zx_24 {h : List MC} (hz : ZX h) : h[(24 : Nat)]? = some (.inl (1, 12, .inl (fun _ => 0))) := zbX_1 hz 22 _ rfl
theorem zx_25 {h : List MC} (hz : ZX h) : h[(25 : Nat)]? = some (.inl (1, 12, .inl (fun _ => 0))) := zbX_1 hz 23 _ rfl
theorem zx_26 {h : List MC} (hz : ZX h) : h[(26 : Nat)]? = some (.inl (1, 12, .inl (fun _ => 0))) := zbX_1 hz 24 _ rfl
theorem zsX_2 {h : List MC} (hz : ZX h) : At h 27 ((.inl (5, 3, .inr (.inr (va_up (va_up (va_up (fun _ => none) ((0 : Int32).toNatClampNeg) (some (84))) ((1 : Int32).toNatClampNeg) (some (110))) ((2 : Int32).toNatClampNeg) (some (136)))))) :: ((.inl (3, 3, .inl (fun _ => 0))) :: (ob3 (1 + 29) :: (bk3 (1 + 29) ++ (ob4 (1 + 43) :: (bk4 (1 + 43) ++ (ob8 (1 + 49) :: (bk8 (1 + 49) ++ (ob5 (1 + 53) :: (bk5 (1 + 53) ++ (ob0 (1 + 56) :: (bk0 (1 + 56) ++ (ob1 (1 + 79) :: (bk1 (1 + 79) ++ (ob7 (1 + 84) :: (bk7 (1 + 84) ++ (ob7 (1 + 110) :: (bk7 (1 + 110) ++ (ob7 (1 + 136) :: (bk7 (1 + 136) ++ ([]))))))))))))))))))))) := At.right bl7 rfl (zsX_1 hz)
theorem zx_27 {h : List MC} (hz : ZX h) : h[(27 : Nat)]? = some (.inl (5, 3, .inr (.inr (va_up (va_up (va_up (fun _ => none) ((0 : Int32).toNatClampNeg) (some (84))) ((1 : Int32).toNatClampNeg) (some (110))) ((2 : Int32).toNatClampNeg) (some (136)))))) := At.head (zsX_2 hz)
theorem zsX_3 {h : List MC} (hz : ZX h) : At h 28 ((.inl (3, 3, .inl (fun _ => 0))) :: (ob3 (1 + 29) :: (bk3 (1 + 29) ++ (ob4 (1 + 43) :: (bk4 (1 + 43) ++ (ob8 (1 + 49) :: (bk8 (1 + 49) ++ (ob5 (1 + 53) :: (bk5 (1 + 53) ++ (ob0 (1 + 56) :: (bk0 (1 + 56) ++ (ob1 (1 + 79) :: (bk1 (1 + 79) ++ (ob7 (1 + 84) :: (bk7 (1 + 84) ++ (ob7 (1 + 110) :: (bk7 (1 + 110) ++ (ob7 (1 + 136) :: (bk7 (1 + 136) ++ ([])))))))))))))))))))) := At.tail rfl (zsX_2 hz)
theorem zx_28 {h : List MC} (hz : ZX h) : h[(28 : Nat)]? = some (.inl (3, 3, .inl (fun _ => 0))) := At.head (zsX_3 hz)
theorem zsX_4 {h : List MC} (hz : ZX h) : At h 29 (ob3 (1 + 29) :: (bk3 (1 + 29) ++ (ob4 (1 + 43) :: (bk4 (1 + 43) ++ (ob8 (1 + 49) :: (bk8 (1 + 49) ++ (ob5 (1 + 53) :: (bk5 (1 + 53) ++ (ob0 (1 + 56) :: (bk0 (1 + 56) ++ (ob1 (1 + 79) :: (bk1 (1 + 79) ++ (ob7 (1 + 84) :: (bk7 (1 + 84) ++ (ob7 (1 + 110) :: (bk7 (1 + 110) ++ (ob7 (1 + 136) :: (bk7 (1 + 136) ++ ([]))))))))))))))))))) := At.tail rfl (zsX_3 hz)
theorem zx_29 {h : List MC} (hz : ZX h) : h[(29 : Nat)]? = some (.inr (3, [.ref 30, .ref 32, .ref 37, .ref 41, .ref 42, .int 0, .int (-1)])) := At.head (zsX_4 hz)
theorem zsX_5 {h : List MC} (hz : ZX h) : At h 30 (bk3 (1 + 29) ++ (ob4 (1 + 43) :: (bk4 (1 + 43) ++ (ob8 (1 + 49) :: (bk8 (1 + 49) ++ (ob5 (1 + 53) :: (bk5 (1 + 53) ++ (ob0 (1 + 56) :: (bk0 (1 + 56) ++ (ob1 (1 + 79) :: (bk1 (1 + 79) ++ (ob7 (1 + 84) :: (bk7 (1 + 84) ++ (ob7 (1 + 110) :: (bk7 (1 + 110) ++ (ob7 (1 + 136) :: (bk7 (1 + 136) ++ ([])))))))))))))))))) := At.tail rfl (zsX_4 hz)
theorem zbX_5 {h : List MC} (hz : ZX h) : At h 30 (bk3 (1 + 29)) := At.left (zsX_5 hz)
theorem zx_30 {h : List MC} (hz : ZX h) : h[(30 : Nat)]? = some (.inr (6, [.ref 31, .int 0, .int 0, .int 0, .int 0, .int 0])) := zbX_5 hz 0 _ rfl
theorem zx_31 {h : List MC} (hz : ZX h) : h[(31 : Nat)]? = some (.inl (0, 0, .inl (fun _ => 0))) := zbX_5 hz 1 _ rfl
theorem zx_32 {h : List MC} (hz : ZX h) : h[(32 : Nat)]? = some (.inr (1, [.int 0, .ref 33, .int 0, .ref 34, .ref 35, .ref 36])) := zbX_5 hz 2 _ rfl
theorem zx_33 {h : List MC} (hz : ZX h) : h[(33 : Nat)]? = some (.inl (1, 144, .inl (fun _ => 0))) := zbX_5 hz 3 _ rfl
theorem zx_34 {h : List MC} (hz : ZX h) : h[(34 : Nat)]? = some (.inl (1, 4, .inl (fun _ => 0))) := zbX_5 hz 4 _ rfl
theorem zx_35 {h : List MC} (hz : ZX h) : h[(35 : Nat)]? = some (.inl (1, 4, .inl (fun _ => 0))) := zbX_5 hz 5 _ rfl
theorem zx_36 {h : List MC} (hz : ZX h) : h[(36 : Nat)]? = some (.inl (1, 3, .inl (fun _ => 0))) := zbX_5 hz 6 _ rfl
theorem zx_37 {h : List MC} (hz : ZX h) : h[(37 : Nat)]? = some (.inr (8, [.int 0, .ref 38, .ref 39, .ref 40])) := zbX_5 hz 7 _ rfl
theorem zx_38 {h : List MC} (hz : ZX h) : h[(38 : Nat)]? = some (.inl (1, 12, .inl (fun _ => 0))) := zbX_5 hz 8 _ rfl
theorem zx_39 {h : List MC} (hz : ZX h) : h[(39 : Nat)]? = some (.inl (1, 12, .inl (fun _ => 0))) := zbX_5 hz 9 _ rfl
theorem zx_40 {h : List MC} (hz : ZX h) : h[(40 : Nat)]? = some (.inl (1, 12, .inl (fun _ => 0))) := zbX_5 hz 10 _ rfl
theorem zx_41 {h : List MC} (hz : ZX h) : h[(41 : Nat)]? = some (.inl (1, 3, .inl (fun _ => 0))) := zbX_5 hz 11 _ rfl
theorem zx_42 {h : List MC} (hz : ZX h) : h[(42 : Nat)]? = some (.inl (1, 3, .inl (fun _ => 0))) := zbX_5 hz 12 _ rfl
theorem zsX_6 {h : List MC} (hz : ZX h) : At h 43 (ob4 (1 + 43) :: (bk4 (1 + 43) ++ (ob8 (1 + 49) :: (bk8 (1 + 49) ++ (ob5 (1 + 53) :: (bk5 (1 + 53) ++ (ob0 (1 + 56) :: (bk0 (1 + 56) ++ (ob1 (1 + 79) :: (bk1 (1 + 79) ++ (ob7 (1 + 84) :: (bk7 (1 + 84) ++ (ob7 (1 + 110) :: (bk7 (1 + 110) ++ (ob7 (1 + 136) :: (bk7 (1 + 136) ++ ([]))))))))))))))))) := At.right bl3 rfl (zsX_5 hz)
theorem zx_43 {h : List MC} (hz : ZX h) : h[(43 : Nat)]? = some (.inr (4, [.ref 44, .int 0, .int 0, .int 0])) := At.head (zsX_6 hz)
theorem zsX_7 {h : List MC} (hz : ZX h) : At h 44 (bk4 (1 + 43) ++ (ob8 (1 + 49) :: (bk8 (1 + 49) ++ (ob5 (1 + 53) :: (bk5 (1 + 53) ++ (ob0 (1 + 56) :: (bk0 (1 + 56) ++ (ob1 (1 + 79) :: (bk1 (1 + 79) ++ (ob7 (1 + 84) :: (bk7 (1 + 84) ++ (ob7 (1 + 110) :: (bk7 (1 + 110) ++ (ob7 (1 + 136) :: (bk7 (1 + 136) ++ ([])))))))))))))))) := At.tail rfl (zsX_6 hz)
theorem zbX_7 {h : List MC} (hz : ZX h) : At h 44 (bk4 (1 + 43)) := At.left (zsX_7 hz)
theorem zx_44 {h : List MC} (hz : ZX h) : h[(44 : Nat)]? = some (.inr (1, [.int 0, .ref 45, .int 0, .ref 46, .ref 47, .ref 48])) := zbX_7 hz 0 _ rfl
theorem zx_45 {h : List MC} (hz : ZX h) : h[(45 : Nat)]? = some (.inl (1, 144, .inl (fun _ => 0))) := zbX_7 hz 1 _ rfl
theorem zx_46 {h : List MC} (hz : ZX h) : h[(46 : Nat)]? = some (.inl (1, 4, .inl (fun _ => 0))) := zbX_7 hz 2 _ rfl
theorem zx_47 {h : List MC} (hz : ZX h) : h[(47 : Nat)]? = some (.inl (1, 4, .inl (fun _ => 0))) := zbX_7 hz 3 _ rfl
theorem zx_48 {h : List MC} (hz : ZX h) : h[(48 : Nat)]? = some (.inl (1, 3, .inl (fun _ => 0))) := zbX_7 hz 4 _ rfl
theorem zsX_8 {h : List MC} (hz : ZX h) : At h 49 (ob8 (1 + 49) :: (bk8 (1 + 49) ++ (ob5 (1 + 53) :: (bk5 (1 + 53) ++ (ob0 (1 + 56) :: (bk0 (1 + 56) ++ (ob1 (1 + 79) :: (bk1 (1 + 79) ++ (ob7 (1 + 84) :: (bk7 (1 + 84) ++ (ob7 (1 + 110) :: (bk7 (1 + 110) ++ (ob7 (1 + 136) :: (bk7 (1 + 136) ++ ([]))))))))))))))) := At.right bl4 rfl (zsX_7 hz)
theorem zx_49 {h : List MC} (hz : ZX h) : h[(49 : Nat)]? = some (.inr (8, [.int 0, .ref 50, .ref 51, .ref 52])) := At.head (zsX_8 hz)
theorem zsX_9 {h : List MC} (hz : ZX h) : At h 50 (bk8 (1 + 49) ++ (ob5 (1 + 53) :: (bk5 (1 + 53) ++ (ob0 (1 + 56) :: (bk0 (1 + 56) ++ (ob1 (1 + 79) :: (bk1 (1 + 79) ++ (ob7 (1 + 84) :: (bk7 (1 + 84) ++ (ob7 (1 + 110) :: (bk7 (1 + 110) ++ (ob7 (1 + 136) :: (bk7 (1 + 136) ++ ([])))))))))))))) := At.tail rfl (zsX_8 hz)
theorem zbX_9 {h : List MC} (hz : ZX h) : At h 50 (bk8 (1 + 49)) := At.left (zsX_9 hz)
theorem zx_50 {h : List MC} (hz : ZX h) : h[(50 : Nat)]? = some (.inl (1, 12, .inl (fun _ => 0))) := zbX_9 hz 0 _ rfl
theorem zx_51 {h : List MC} (hz : ZX h) : h[(51 : Nat)]? = some (.inl (1, 12, .inl (fun _ => 0))) := zbX_9 hz 1 _ rfl
theorem zx_52 {h : List MC} (hz : ZX h) : h[(52 : Nat)]? = some (.inl (1, 12, .inl (fun _ => 0))) := zbX_9 hz 2 _ rfl
theorem zsX_10 {h : List MC} (hz : ZX h) : At h 53 (ob5 (1 + 53) :: (bk5 (1 + 53) ++ (ob0 (1 + 56) :: (bk0 (1 + 56) ++ (ob1 (1 + 79) :: (bk1 (1 + 79) ++ (ob7 (1 + 84) :: (bk7 (1 + 84) ++ (ob7 (1 + 110) :: (bk7 (1 + 110) ++ (ob7 (1 + 136) :: (bk7 (1 + 136) ++ ([]))))))))))))) := At.right bl8 rfl (zsX_9 hz)
theorem zx_53 {h : List MC} (hz : ZX h) : h[(53 : Nat)]? = some (.inr (5, [.int 0, .int 0, .int 0, .int 0, .int 0, .ref 54, .ref 55])) := At.head (zsX_10 hz)
theorem zsX_11 {h : List MC} (hz : ZX h) : At h 54 (bk5 (1 + 53) ++ (ob0 (1 + 56) :: (bk0 (1 + 56) ++ (ob1 (1 + 79) :: (bk1 (1 + 79) ++ (ob7 (1 + 84) :: (bk7 (1 + 84) ++ (ob7 (1 + 110) :: (bk7 (1 + 110) ++ (ob7 (1 + 136) :: (bk7 (1 + 136) ++ ([])))))))))))) := At.tail rfl (zsX_10 hz)
theorem zbX_11 {h : List MC} (hz : ZX h) : At h 54 (bk5 (1 + 53)) := At.left (zsX_11 hz)
theorem zx_54 {h : List MC} (hz : ZX h) : h[(54 : Nat)]? = some (.inl (1, 9, .inl (fun _ => 0))) := zbX_11 hz 0 _ rfl
theorem zx_55 {h : List MC} (hz : ZX h) : h[(55 : Nat)]? = some (.inl (1, 9, .inl (fun _ => 0))) := zbX_11 hz 1 _ rfl
theorem zsX_12 {h : List MC} (hz : ZX h) : At h 56 (ob0 (1 + 56) :: (bk0 (1 + 56) ++ (ob1 (1 + 79) :: (bk1 (1 + 79) ++ (ob7 (1 + 84) :: (bk7 (1 + 84) ++ (ob7 (1 + 110) :: (bk7 (1 + 110) ++ (ob7 (1 + 136) :: (bk7 (1 + 136) ++ ([]))))))))))) := At.right bl5 rfl (zsX_11 hz)
theorem zx_56 {h : List MC} (hz : ZX h) : h[(56 : Nat)]? = some (.inr (0, [.ref 57, .ref 70, .int (-1), .int (-1), .long 0, .int 0, .ref 75, .ref 76, .ref 77, .ref 78])) := At.head (zsX_12 hz)
theorem zsX_13 {h : List MC} (hz : ZX h) : At h 57 (bk0 (1 + 56) ++ (ob1 (1 + 79) :: (bk1 (1 + 79) ++ (ob7 (1 + 84) :: (bk7 (1 + 84) ++ (ob7 (1 + 110) :: (bk7 (1 + 110) ++ (ob7 (1 + 136) :: (bk7 (1 + 136) ++ ([])))))))))) := At.tail rfl (zsX_12 hz)
theorem zbX_13 {h : List MC} (hz : ZX h) : At h 57 (bk0 (1 + 56)) := At.left (zsX_13 hz)
theorem zx_57 {h : List MC} (hz : ZX h) : h[(57 : Nat)]? = some (.inr (2, [.ref 58, .ref 61, .ref 66, .ref 67, .ref 68, .ref 69])) := zbX_13 hz 0 _ rfl
theorem zx_58 {h : List MC} (hz : ZX h) : h[(58 : Nat)]? = some (.inr (5, [.int 0, .int 0, .int 0, .int 0, .int 0, .ref 59, .ref 60])) := zbX_13 hz 1 _ rfl
theorem zx_59 {h : List MC} (hz : ZX h) : h[(59 : Nat)]? = some (.inl (1, 9, .inl (fun _ => 0))) := zbX_13 hz 2 _ rfl
theorem zx_60 {h : List MC} (hz : ZX h) : h[(60 : Nat)]? = some (.inl (1, 9, .inl (fun _ => 0))) := zbX_13 hz 3 _ rfl
theorem zx_61 {h : List MC} (hz : ZX h) : h[(61 : Nat)]? = some (.inr (1, [.int 0, .ref 62, .int 0, .ref 63, .ref 64, .ref 65])) := zbX_13 hz 4 _ rfl
theorem zx_62 {h : List MC} (hz : ZX h) : h[(62 : Nat)]? = some (.inl (1, 144, .inl (fun _ => 0))) := zbX_13 hz 5 _ rfl
theorem zx_63 {h : List MC} (hz : ZX h) : h[(63 : Nat)]? = some (.inl (1, 4, .inl (fun _ => 0))) := zbX_13 hz 6 _ rfl
theorem zx_64 {h : List MC} (hz : ZX h) : h[(64 : Nat)]? = some (.inl (1, 4, .inl (fun _ => 0))) := zbX_13 hz 7 _ rfl
theorem zx_65 {h : List MC} (hz : ZX h) : h[(65 : Nat)]? = some (.inl (1, 3, .inl (fun _ => 0))) := zbX_13 hz 8 _ rfl
theorem zx_66 {h : List MC} (hz : ZX h) : h[(66 : Nat)]? = some (.inl (1, 2048, .inl (fun _ => 0))) := zbX_13 hz 9 _ rfl
theorem zx_67 {h : List MC} (hz : ZX h) : h[(67 : Nat)]? = some (.inl (1, 512, .inl (fun _ => 0))) := zbX_13 hz 10 _ rfl
theorem zx_68 {h : List MC} (hz : ZX h) : h[(68 : Nat)]? = some (.inl (2, 512, .inr (.inl (fun _ => 0)))) := zbX_13 hz 11 _ rfl
theorem zx_69 {h : List MC} (hz : ZX h) : h[(69 : Nat)]? = some (.inl (2, 512, .inr (.inl (fun _ => 0)))) := zbX_13 hz 12 _ rfl
theorem zx_70 {h : List MC} (hz : ZX h) : h[(70 : Nat)]? = some (.inr (1, [.int 0, .ref 71, .int 0, .ref 72, .ref 73, .ref 74])) := zbX_13 hz 13 _ rfl
theorem zx_71 {h : List MC} (hz : ZX h) : h[(71 : Nat)]? = some (.inl (1, 144, .inl (fun _ => 0))) := zbX_13 hz 14 _ rfl
theorem zx_72 {h : List MC} (hz : ZX h) : h[(72 : Nat)]? = some (.inl (1, 4, .inl (fun _ => 0))) := zbX_13 hz 15 _ rfl
theorem zx_73 {h : List MC} (hz : ZX h) : h[(73 : Nat)]? = some (.inl (1, 4, .inl (fun _ => 0))) := zbX_13 hz 16 _ rfl
theorem zx_74 {h : List MC} (hz : ZX h) : h[(74 : Nat)]? = some (.inl (1, 3, .inl (fun _ => 0))) := zbX_13 hz 17 _ rfl
theorem zx_75 {h : List MC} (hz : ZX h) : h[(75 : Nat)]? = some (.inl (1, 4, .inl (fun _ => 0))) := zbX_13 hz 18 _ rfl
theorem zx_76 {h : List MC} (hz : ZX h) : h[(76 : Nat)]? = some (.inl (1, 4, .inl (fun _ => 0))) := zbX_13 hz 19 _ rfl
theorem zx_77 {h : List MC} (hz : ZX h) : h[(77 : Nat)]? = some (.inl (1, 4, .inl (fun _ => 0))) := zbX_13 hz 20 _ rfl
theorem zx_78 {h : List MC} (hz : ZX h) : h[(78 : Nat)]? = some (.inl (2, 16, .inr (.inl (fun _ => 0)))) := zbX_13 hz 21 _ rfl
theorem zsX_14 {h : List MC} (hz : ZX h) : At h 79 (ob1 (1 + 79) :: (bk1 (1 + 79) ++ (ob7 (1 + 84) :: (bk7 (1 + 84) ++ (ob7 (1 + 110) :: (bk7 (1 + 110) ++ (ob7 (1 + 136) :: (bk7 (1 + 136) ++ ([]))))))))) := At.right bl0 rfl (zsX_13 hz)
theorem zx_79 {h : List MC} (hz : ZX h) : h[(79 : Nat)]? = some (.inr (1, [.int 0, .ref 80, .int 0, .ref 81, .ref 82, .ref 83])) := At.head (zsX_14 hz)
theorem zsX_15 {h : List MC} (hz : ZX h) : At h 80 (bk1 (1 + 79) ++ (ob7 (1 + 84) :: (bk7 (1 + 84) ++ (ob7 (1 + 110) :: (bk7 (1 + 110) ++ (ob7 (1 + 136) :: (bk7 (1 + 136) ++ ([])))))))) := At.tail rfl (zsX_14 hz)
theorem zbX_15 {h : List MC} (hz : ZX h) : At h 80 (bk1 (1 + 79)) := At.left (zsX_15 hz)
theorem zx_80 {h : List MC} (hz : ZX h) : h[(80 : Nat)]? = some (.inl (1, 144, .inl (fun _ => 0))) := zbX_15 hz 0 _ rfl
theorem zx_81 {h : List MC} (hz : ZX h) : h[(81 : Nat)]? = some (.inl (1, 4, .inl (fun _ => 0))) := zbX_15 hz 1 _ rfl
theorem zx_82 {h : List MC} (hz : ZX h) : h[(82 : Nat)]? = some (.inl (1, 4, .inl (fun _ => 0))) := zbX_15 hz 2 _ rfl
theorem zx_83 {h : List MC} (hz : ZX h) : h[(83 : Nat)]? = some (.inl (1, 3, .inl (fun _ => 0))) := zbX_15 hz 3 _ rfl
theorem zsX_16 {h : List MC} (hz : ZX h) : At h 84 (ob7 (1 + 84) :: (bk7 (1 + 84) ++ (ob7 (1 + 110) :: (bk7 (1 + 110) ++ (ob7 (1 + 136) :: (bk7 (1 + 136) ++ ([]))))))) := At.right bl1 rfl (zsX_15 hz)
theorem zx_84 {h : List MC} (hz : ZX h) : h[(84 : Nat)]? = some (.inr (7, [.ref 85, .int 0, .int 0, .int (-1), .ref 86, .int 0, .ref 87, .int 0])) := At.head (zsX_16 hz)
theorem zsX_17 {h : List MC} (hz : ZX h) : At h 85 (bk7 (1 + 84) ++ (ob7 (1 + 110) :: (bk7 (1 + 110) ++ (ob7 (1 + 136) :: (bk7 (1 + 136) ++ ([])))))) := At.tail rfl (zsX_16 hz)
theorem zbX_17 {h : List MC} (hz : ZX h) : At h 85 (bk7 (1 + 84)) := At.left (zsX_17 hz)
theorem zx_85 {h : List MC} (hz : ZX h) : h[(85 : Nat)]? = some (.inl (0, 600, .inl (fun _ => 0))) := zbX_17 hz 0 _ rfl
theorem zx_86 {h : List MC} (hz : ZX h) : h[(86 : Nat)]? = some (.inl (4, 2, .inr (.inr (va_up (va_up (fun _ => none) ((0 : Int32).toNatClampNeg) (some (88))) ((1 : Int32).toNatClampNeg) (some (93)))))) := zbX_17 hz 1 _ rfl
theorem zx_87 {h : List MC} (hz : ZX h) : h[(87 : Nat)]? = some (.inl (6, 3, .inr (.inr (va_up (va_up (va_up (fun _ => none) ((0 : Int32).toNatClampNeg) (some (98))) ((1 : Int32).toNatClampNeg) (some (102))) ((2 : Int32).toNatClampNeg) (some (106)))))) := zbX_17 hz 2 _ rfl
theorem zx_88 {h : List MC} (hz : ZX h) : h[(88 : Nat)]? = some (.inr (1, [.int 0, .ref 89, .int 0, .ref 90, .ref 91, .ref 92])) := zbX_17 hz 3 _ rfl
theorem zx_89 {h : List MC} (hz : ZX h) : h[(89 : Nat)]? = some (.inl (1, 144, .inl (fun _ => 0))) := zbX_17 hz 4 _ rfl
theorem zx_90 {h : List MC} (hz : ZX h) : h[(90 : Nat)]? = some (.inl (1, 4, .inl (fun _ => 0))) := zbX_17 hz 5 _ rfl
theorem zx_91 {h : List MC} (hz : ZX h) : h[(91 : Nat)]? = some (.inl (1, 4, .inl (fun _ => 0))) := zbX_17 hz 6 _ rfl
theorem zx_92 {h : List MC} (hz : ZX h) : h[(92 : Nat)]? = some (.inl (1, 3, .inl (fun _ => 0))) := zbX_17 hz 7 _ rfl
theorem zx_93 {h : List MC} (hz : ZX h) : h[(93 : Nat)]? = some (.inr (1, [.int 0, .ref 94, .int 0, .ref 95, .ref 96, .ref 97])) := zbX_17 hz 8 _ rfl
theorem zx_94 {h : List MC} (hz : ZX h) : h[(94 : Nat)]? = some (.inl (1, 144, .inl (fun _ => 0))) := zbX_17 hz 9 _ rfl
theorem zx_95 {h : List MC} (hz : ZX h) : h[(95 : Nat)]? = some (.inl (1, 4, .inl (fun _ => 0))) := zbX_17 hz 10 _ rfl
theorem zx_96 {h : List MC} (hz : ZX h) : h[(96 : Nat)]? = some (.inl (1, 4, .inl (fun _ => 0))) := zbX_17 hz 11 _ rfl
theorem zx_97 {h : List MC} (hz : ZX h) : h[(97 : Nat)]? = some (.inl (1, 3, .inl (fun _ => 0))) := zbX_17 hz 12 _ rfl
theorem zx_98 {h : List MC} (hz : ZX h) : h[(98 : Nat)]? = some (.inr (8, [.int 0, .ref 99, .ref 100, .ref 101])) := zbX_17 hz 13 _ rfl
theorem zx_99 {h : List MC} (hz : ZX h) : h[(99 : Nat)]? = some (.inl (1, 12, .inl (fun _ => 0))) := zbX_17 hz 14 _ rfl
theorem zx_100 {h : List MC} (hz : ZX h) : h[(100 : Nat)]? = some (.inl (1, 12, .inl (fun _ => 0))) := zbX_17 hz 15 _ rfl
theorem zx_101 {h : List MC} (hz : ZX h) : h[(101 : Nat)]? = some (.inl (1, 12, .inl (fun _ => 0))) := zbX_17 hz 16 _ rfl
theorem zx_102 {h : List MC} (hz : ZX h) : h[(102 : Nat)]? = some (.inr (8, [.int 0, .ref 103, .ref 104, .ref 105])) := zbX_17 hz 17 _ rfl
theorem zx_103 {h : List MC} (hz : ZX h) : h[(103 : Nat)]? = some (.inl (1, 12, .inl (fun _ => 0))) := zbX_17 hz 18 _ rfl
theorem zx_104 {h : List MC} (hz : ZX h) : h[(104 : Nat)]? = some (.inl (1, 12, .inl (fun _ => 0))) := zbX_17 hz 19 _ rfl
theorem zx_105 {h : List MC} (hz : ZX h) : h[(105 : Nat)]? = some (.inl (1, 12, .inl (fun _ => 0))) := zbX_17 hz 20 _ rfl
theorem zx_106 {h : List MC} (hz : ZX h) : h[(106 : Nat)]? = some (.inr (8, [.int 0, .ref 107, .ref 108, .ref 109])) := zbX_17 hz 21 _ rfl
theorem zx_107 {h : List MC} (hz : ZX h) : h[(107 : Nat)]? = some (.inl (1, 12, .inl (fun _ => 0))) := zbX_17 hz 22 _ rfl
theorem zx_108 {h : List MC} (hz : ZX h) : h[(108 : Nat)]? = some (.inl (1, 12, .inl (fun _ => 0))) := zbX_17 hz 23 _ rfl
theorem zx_109 {h : List MC} (hz : ZX h) : h[(109 : Nat)]? = some (.inl (1, 12, .inl (fun _ => 0))) := zbX_17 hz 24 _ rfl
theorem zsX_18 {h : List MC} (hz : ZX h) : At h 110 (ob7 (1 + 110) :: (bk7 (1 + 110) ++ (ob7 (1 + 136) :: (bk7 (1 + 136) ++ ([]))))) := At.right bl7 rfl (zsX_17 hz)
theorem zx_110 {h : List MC} (hz : ZX h) : h[(110 : Nat)]? = some (.inr (7, [.ref 111, .int 0, .int 0, .int (-1), .ref 112, .int 0, .ref 113, .int 0])) := At.head (zsX_18 hz)
theorem zsX_19 {h : List MC} (hz : ZX h) : At h 111 (bk7 (1 + 110) ++ (ob7 (1 + 136) :: (bk7 (1 + 136) ++ ([])))) := At.tail rfl (zsX_18 hz)
theorem zbX_19 {h : List MC} (hz : ZX h) : At h 111 (bk7 (1 + 110)) := At.left (zsX_19 hz)
theorem zx_111 {h : List MC} (hz : ZX h) : h[(111 : Nat)]? = some (.inl (0, 600, .inl (fun _ => 0))) := zbX_19 hz 0 _ rfl
theorem zx_112 {h : List MC} (hz : ZX h) : h[(112 : Nat)]? = some (.inl (4, 2, .inr (.inr (va_up (va_up (fun _ => none) ((0 : Int32).toNatClampNeg) (some (114))) ((1 : Int32).toNatClampNeg) (some (119)))))) := zbX_19 hz 1 _ rfl
theorem zx_113 {h : List MC} (hz : ZX h) : h[(113 : Nat)]? = some (.inl (6, 3, .inr (.inr (va_up (va_up (va_up (fun _ => none) ((0 : Int32).toNatClampNeg) (some (124))) ((1 : Int32).toNatClampNeg) (some (128))) ((2 : Int32).toNatClampNeg) (some (132)))))) := zbX_19 hz 2 _ rfl
theorem zx_114 {h : List MC} (hz : ZX h) : h[(114 : Nat)]? = some (.inr (1, [.int 0, .ref 115, .int 0, .ref 116, .ref 117, .ref 118])) := zbX_19 hz 3 _ rfl
theorem zx_115 {h : List MC} (hz : ZX h) : h[(115 : Nat)]? = some (.inl (1, 144, .inl (fun _ => 0))) := zbX_19 hz 4 _ rfl
theorem zx_116 {h : List MC} (hz : ZX h) : h[(116 : Nat)]? = some (.inl (1, 4, .inl (fun _ => 0))) := zbX_19 hz 5 _ rfl
theorem zx_117 {h : List MC} (hz : ZX h) : h[(117 : Nat)]? = some (.inl (1, 4, .inl (fun _ => 0))) := zbX_19 hz 6 _ rfl
theorem zx_118 {h : List MC} (hz : ZX h) : h[(118 : Nat)]? = some (.inl (1, 3, .inl (fun _ => 0))) := zbX_19 hz 7 _ rfl
theorem zx_119 {h : List MC} (hz : ZX h) : h[(119 : Nat)]? = some (.inr (1, [.int 0, .ref 120, .int 0, .ref 121, .ref 122, .ref 123])) := zbX_19 hz 8 _ rfl
theorem zx_120 {h : List MC} (hz : ZX h) : h[(120 : Nat)]? = some (.inl (1, 144, .inl (fun _ => 0))) := zbX_19 hz 9 _ rfl
theorem zx_121 {h : List MC} (hz : ZX h) : h[(121 : Nat)]? = some (.inl (1, 4, .inl (fun _ => 0))) := zbX_19 hz 10 _ rfl
theorem zx_122 {h : List MC} (hz : ZX h) : h[(122 : Nat)]? = some (.inl (1, 4, .inl (fun _ => 0))) := zbX_19 hz 11 _ rfl
theorem zx_123 {h : List MC} (hz : ZX h) : h[(123 : Nat)]? = some (.inl (1, 3, .inl (fun _ => 0))) := zbX_19 hz 12 _ rfl
theorem zx_124 {h : List MC} (hz : ZX h) : h[(124 : Nat)]? = some (.inr (8, [.int 0, .ref 125, .ref 126, .ref 127])) := zbX_19 hz 13 _ rfl
theorem zx_125 {h : List MC} (hz : ZX h) : h[(125 : Nat)]? = some (.inl (1, 12, .inl (fun _ => 0))) := zbX_19 hz 14 _ rfl
theorem zx_126 {h : List MC} (hz : ZX h) : h[(126 : Nat)]? = some (.inl (1, 12, .inl (fun _ => 0))) := zbX_19 hz 15 _ rfl
theorem zx_127 {h : List MC} (hz : ZX h) : h[(127 : Nat)]? = some (.inl (1, 12, .inl (fun _ => 0))) := zbX_19 hz 16 _ rfl
theorem zx_128 {h : List MC} (hz : ZX h) : h[(128 : Nat)]? = some (.inr (8, [.int 0, .ref 129, .ref 130, .ref 131])) := zbX_19 hz 17 _ rfl
theorem zx_129 {h : List MC} (hz : ZX h) : h[(129 : Nat)]? = some (.inl (1, 12, .inl (fun _ => 0))) := zbX_19 hz 18 _ rfl
theorem zx_130 {h : List MC} (hz : ZX h) : h[(130 : Nat)]? = some (.inl (1, 12, .inl (fun _ => 0))) := zbX_19 hz 19 _ rfl
theorem zx_131 {h : List MC} (hz : ZX h) : h[(131 : Nat)]? = some (.inl (1, 12, .inl (fun _ => 0))) := zbX_19 hz 20 _ rfl
theorem zx_132 {h : List MC} (hz : ZX h) : h[(132 : Nat)]? = some (.inr (8, [.int 0, .ref 133, .ref 134, .ref 135])) := zbX_19 hz 21 _ rfl
theorem zx_133 {h : List MC} (hz : ZX h) : h[(133 : Nat)]? = some (.inl (1, 12, .inl (fun _ => 0))) := zbX_19 hz 22 _ rfl
theorem zx_134 {h : List MC} (hz : ZX h) : h[(134 : Nat)]? = some (.inl (1, 12, .inl (fun _ => 0))) := zbX_19 hz 23 _ rfl
theorem zx_135 {h : List MC} (hz : ZX h) : h[(135 : Nat)]? = some (.inl (1, 12, .inl (fun _ => 0))) := zbX_19 hz 24 _ rfl
theorem zsX_20 {h : List MC} (hz : ZX h) : At h 136 (ob7 (1 + 136) :: (bk7 (1 + 136) ++ ([]))) := At.right bl7 rfl (zsX_19 hz)
theorem zx_136 {h : List MC} (hz : ZX h) : h[(136 : Nat)]? = some (.inr (7, [.ref 137, .int 0, .int 0, .int (-1), .ref 138, .int 0, .ref 139, .int 0])) := At.head (zsX_20 hz)
theorem zsX_21 {h : List MC} (hz : ZX h) : At h 137 (bk7 (1 + 136) ++ ([])) := At.tail rfl (zsX_20 hz)
theorem zbX_21 {h : List MC} (hz : ZX h) : At h 137 (bk7 (1 + 136)) := At.left (zsX_21 hz)
theorem zx_137 {h : List MC} (hz : ZX h) : h[(137 : Nat)]? = some (.inl (0, 600, .inl (fun _ => 0))) := zbX_21 hz 0 _ rfl
theorem zx_138 {h : List MC} (hz : ZX h) : h[(138 : Nat)]? = some (.inl (4, 2, .inr (.inr (va_up (va_up (fun _ => none) ((0 : Int32).toNatClampNeg) (some (140))) ((1 : Int32).toNatClampNeg) (some (145)))))) := zbX_21 hz 1 _ rfl
theorem zx_139 {h : List MC} (hz : ZX h) : h[(139 : Nat)]? = some (.inl (6, 3, .inr (.inr (va_up (va_up (va_up (fun _ => none) ((0 : Int32).toNatClampNeg) (some (150))) ((1 : Int32).toNatClampNeg) (some (154))) ((2 : Int32).toNatClampNeg) (some (158)))))) := zbX_21 hz 2 _ rfl
theorem zx_140 {h : List MC} (hz : ZX h) : h[(140 : Nat)]? = some (.inr (1, [.int 0, .ref 141, .int 0, .ref 142, .ref 143, .ref 144])) := zbX_21 hz 3 _ rfl
theorem zx_141 {h : List MC} (hz : ZX h) : h[(141 : Nat)]? = some (.inl (1, 144, .inl (fun _ => 0))) := zbX_21 hz 4 _ rfl
theorem zx_142 {h : List MC} (hz : ZX h) : h[(142 : Nat)]? = some (.inl (1, 4, .inl (fun _ => 0))) := zbX_21 hz 5 _ rfl
theorem zx_143 {h : List MC} (hz : ZX h) : h[(143 : Nat)]? = some (.inl (1, 4, .inl (fun _ => 0))) := zbX_21 hz 6 _ rfl
theorem zx_144 {h : List MC} (hz : ZX h) : h[(144 : Nat)]? = some (.inl (1, 3, .inl (fun _ => 0))) := zbX_21 hz 7 _ rfl
theorem zx_145 {h : List MC} (hz : ZX h) : h[(145 : Nat)]? = some (.inr (1, [.int 0, .ref 146, .int 0, .ref 147, .ref 148, .ref 149])) := zbX_21 hz 8 _ rfl
theorem zx_146 {h : List MC} (hz : ZX h) : h[(146 : Nat)]? = some (.inl (1, 144, .inl (fun _ => 0))) := zbX_21 hz 9 _ rfl
theorem zx_147 {h : List MC} (hz : ZX h) : h[(147 : Nat)]? = some (.inl (1, 4, .inl (fun _ => 0))) := zbX_21 hz 10 _ rfl
theorem zx_148 {h : List MC} (hz : ZX h) : h[(148 : Nat)]? = some (.inl (1, 4, .inl (fun _ => 0))) := zbX_21 hz 11 _ rfl
theorem zx_149 {h : List MC} (hz : ZX h) : h[(149 : Nat)]? = some (.inl (1, 3, .inl (fun _ => 0))) := zbX_21 hz 12 _ rfl
theorem zx_150 {h : List MC} (hz : ZX h) : h[(150 : Nat)]? = some (.inr (8, [.int 0, .ref 151, .ref 152, .ref 153])) := zbX_21 hz 13 _ rfl
theorem zx_151 {h : List MC} (hz : ZX h) : h[(151 : Nat)]? = some (.inl (1, 12, .inl (fun _ => 0))) := zbX_21 hz 14 _ rfl
theorem zx_152 {h : List MC} (hz : ZX h) : h[(152 : Nat)]? = some (.inl (1, 12, .inl (fun _ => 0))) := zbX_21 hz 15 _ rfl
theorem zx_153 {h : List MC} (hz : ZX h) : h[(153 : Nat)]? = some (.inl (1, 12, .inl (fun _ => 0))) := zbX_21 hz 16 _ rfl
theorem zx_154 {h : List MC} (hz : ZX h) : h[(154 : Nat)]? = some (.inr (8, [.int 0, .ref 155, .ref 156, .ref 157])) := zbX_21 hz 17 _ rfl
theorem zx_155 {h : List MC} (hz : ZX h) : h[(155 : Nat)]? = some (.inl (1, 12, .inl (fun _ => 0))) := zbX_21 hz 18 _ rfl
theorem zx_156 {h : List MC} (hz : ZX h) : h[(156 : Nat)]? = some (.inl (1, 12, .inl (fun _ => 0))) := zbX_21 hz 19 _ rfl
theorem zx_157 {h : List MC} (hz : ZX h) : h[(157 : Nat)]? = some (.inl (1, 12, .inl (fun _ => 0))) := zbX_21 hz 20 _ rfl
theorem zx_158 {h : List MC} (hz : ZX h) : h[(158 : Nat)]? = some (.inr (8, [.int 0, .ref 159, .ref 160, .ref 161])) := zbX_21 hz 21 _ rfl
theorem zx_159 {h : List MC} (hz : ZX h) : h[(159 : Nat)]? = some (.inl (1, 12, .inl (fun _ => 0))) := zbX_21 hz 22 _ rfl
theorem zx_160 {h : List MC} (hz : ZX h) : h[(160 : Nat)]? = some (.inl (1, 12, .inl (fun _ => 0))) := zbX_21 hz 23 _ rfl
theorem zx_161 {h : List MC} (hz : ZX h) : h[(161 : Nat)]? = some (.inl (1, 12, .inl (fun _ => 0))) := zbX_21 hz 24 _ rfl
theorem zm_162 {h : List MC} (hz : ZM h) : h[162]? = some (.inr (11, [.int 0, .ref 163, .ref 164, .ref 165, .ref 166, .ref 167, .ref 168, .ref 169, .int 0, .int 0, .int 0, .int 0, .int 0, .long 0, .int 0, .int 0, .int 0, .int 0, .int 0, .ref 170, .ref 171, .ref 172, .int 0, .int 0, .int 0, .int 0, .int 0, .int 0, .ref 173, .ref 174, .ref 175, .int 0, .int 0, .int 0, .ref 176, .ref 177, .ref 178, .ref 179, .ref 180, .int 0, .long 0, .int 0, .ref 181])) := hz.2.1
theorem zm_163 {h : List MC} (hz : ZM h) : h[(163 : Nat)]? = some (.inl (0, 2400, .inl (fun _ => 0))) := hz.2.2 0 _ rfl
theorem zm_164 {h : List MC} (hz : ZM h) : h[(164 : Nat)]? = some (.inl (1, 4, .inl (fun _ => 0))) := hz.2.2 1 _ rfl
theorem zm_165 {h : List MC} (hz : ZM h) : h[(165 : Nat)]? = some (.inl (1, 4, .inl (fun _ => 0))) := hz.2.2 2 _ rfl
theorem zm_166 {h : List MC} (hz : ZM h) : h[(166 : Nat)]? = some (.inl (1, 4, .inl (upd (fun _ => 0) ((0 : Int32).toNatClampNeg) (-1)))) := hz.2.2 3 _ rfl
theorem zm_167 {h : List MC} (hz : ZM h) : h[(167 : Nat)]? = some (.inl (1, 8, .inl (fun _ => 0))) := hz.2.2 4 _ rfl
theorem zm_168 {h : List MC} (hz : ZM h) : h[(168 : Nat)]? = some (.inl (1, 1256, .inl (fun _ => 0))) := hz.2.2 5 _ rfl
theorem zm_169 {h : List MC} (hz : ZM h) : h[(169 : Nat)]? = some (.inl (1, 444, .inl (fun _ => 0))) := hz.2.2 6 _ rfl
theorem zm_170 {h : List MC} (hz : ZM h) : h[(170 : Nat)]? = some (.inl (1, 157, .inl (fun _ => 0))) := hz.2.2 7 _ rfl
theorem zm_171 {h : List MC} (hz : ZM h) : h[(171 : Nat)]? = some (.inl (1, 3, .inl (fun _ => 0))) := hz.2.2 8 _ rfl
theorem zm_172 {h : List MC} (hz : ZM h) : h[(172 : Nat)]? = some (.inl (1, 157, .inl (fun _ => 0))) := hz.2.2 9 _ rfl
theorem zm_173 {h : List MC} (hz : ZM h) : h[(173 : Nat)]? = some (.inl (1, 9, .inl (fun _ => 0))) := hz.2.2 10 _ rfl
theorem zm_174 {h : List MC} (hz : ZM h) : h[(174 : Nat)]? = some (.inl (1, 9, .inl (fun _ => 0))) := hz.2.2 11 _ rfl
theorem zm_175 {h : List MC} (hz : ZM h) : h[(175 : Nat)]? = some (.inl (1, 9, .inl (fun _ => 0))) := hz.2.2 12 _ rfl
theorem zm_176 {h : List MC} (hz : ZM h) : h[(176 : Nat)]? = some (.inl (2, 512, .inr (.inl (fun _ => 0)))) := hz.2.2 13 _ rfl
theorem zm_177 {h : List MC} (hz : ZM h) : h[(177 : Nat)]? = some (.inl (1, 9, .inl (fun _ => 0))) := hz.2.2 14 _ rfl
theorem zm_178 {h : List MC} (hz : ZM h) : h[(178 : Nat)]? = some (.inl (1, 9, .inl (fun _ => 0))) := hz.2.2 15 _ rfl
theorem zm_179 {h : List MC} (hz : ZM h) : h[(179 : Nat)]? = some (.inl (1, 4, .inl (fun _ => 0))) := hz.2.2 16 _ rfl
theorem zm_180 {h : List MC} (hz : ZM h) : h[(180 : Nat)]? = some (.inl (1, 4, .inl (fun _ => 0))) := hz.2.2 17 _ rfl
theorem zm_181 {h : List MC} (hz : ZM h) : h[(181 : Nat)]? = some (.inl (3, 3, .inl (fun _ => 0))) := hz.2.2 18 _ rfl
theorem st_w {h : List MC} (hx : ZX h) (hm : ZM h) : h = Wd u0 g0 [] := by
  refine List.ext_getElem? (fun i => ?_)
  have a0 : ∀ i, i < 0 → h[i]? = (Wd u0 g0 [])[i]? := fun i hi => absurd hi (Nat.not_lt_zero i)
  have a1 : ∀ i, i < 1 → h[i]? = (Wd u0 g0 [])[i]? := ltS a0 ((zx_0 hx).trans (wc_0 (u := u0) (g := g0) (ex := [])).symm)
  have a2 : ∀ i, i < 2 → h[i]? = (Wd u0 g0 [])[i]? := ltS a1 ((zx_1 hx).trans (wc_1 (u := u0) (g := g0) (ex := [])).symm)
  have a3 : ∀ i, i < 3 → h[i]? = (Wd u0 g0 [])[i]? := ltS a2 ((zx_2 hx).trans (wc_2 (u := u0) (g := g0) (ex := [])).symm)
  have a4 : ∀ i, i < 4 → h[i]? = (Wd u0 g0 [])[i]? := ltS a3 ((zx_3 hx).trans (wc_3 (u := u0) (g := g0) (ex := [])).symm)
  have a5 : ∀ i, i < 5 → h[i]? = (Wd u0 g0 [])[i]? := ltS a4 ((zx_4 hx).trans (wc_4 (u := u0) (g := g0) (ex := [])).symm)
  have a6 : ∀ i, i < 6 → h[i]? = (Wd u0 g0 [])[i]? := ltS a5 ((zx_5 hx).trans (wc_5 (u := u0) (g := g0) (ex := [])).symm)
  have a7 : ∀ i, i < 7 → h[i]? = (Wd u0 g0 [])[i]? := ltS a6 ((zx_6 hx).trans (wc_6 (u := u0) (g := g0) (ex := [])).symm)
  have a8 : ∀ i, i < 8 → h[i]? = (Wd u0 g0 [])[i]? := ltS a7 ((zx_7 hx).trans (wc_7 (u := u0) (g := g0) (ex := [])).symm)
  have a9 : ∀ i, i < 9 → h[i]? = (Wd u0 g0 [])[i]? := ltS a8 ((zx_8 hx).trans (wc_8 (u := u0) (g := g0) (ex := [])).symm)
  have a10 : ∀ i, i < 10 → h[i]? = (Wd u0 g0 [])[i]? := ltS a9 ((zx_9 hx).trans (wc_9 (u := u0) (g := g0) (ex := [])).symm)
  have a11 : ∀ i, i < 11 → h[i]? = (Wd u0 g0 [])[i]? := ltS a10 ((zx_10 hx).trans (wc_10 (u := u0) (g := g0) (ex := [])).symm)
  have a12 : ∀ i, i < 12 → h[i]? = (Wd u0 g0 [])[i]? := ltS a11 ((zx_11 hx).trans (wc_11 (u := u0) (g := g0) (ex := [])).symm)
  have a13 : ∀ i, i < 13 → h[i]? = (Wd u0 g0 [])[i]? := ltS a12 ((zx_12 hx).trans (wc_12 (u := u0) (g := g0) (ex := [])).symm)
  have a14 : ∀ i, i < 14 → h[i]? = (Wd u0 g0 [])[i]? := ltS a13 ((zx_13 hx).trans (wc_13 (u := u0) (g := g0) (ex := [])).symm)
  have a15 : ∀ i, i < 15 → h[i]? = (Wd u0 g0 [])[i]? := ltS a14 ((zx_14 hx).trans (wc_14 (u := u0) (g := g0) (ex := [])).symm)
  have a16 : ∀ i, i < 16 → h[i]? = (Wd u0 g0 [])[i]? := ltS a15 ((zx_15 hx).trans (wc_15 (u := u0) (g := g0) (ex := [])).symm)
  have a17 : ∀ i, i < 17 → h[i]? = (Wd u0 g0 [])[i]? := ltS a16 ((zx_16 hx).trans (wc_16 (u := u0) (g := g0) (ex := [])).symm)
  have a18 : ∀ i, i < 18 → h[i]? = (Wd u0 g0 [])[i]? := ltS a17 ((zx_17 hx).trans (wc_17 (u := u0) (g := g0) (ex := [])).symm)
  have a19 : ∀ i, i < 19 → h[i]? = (Wd u0 g0 [])[i]? := ltS a18 ((zx_18 hx).trans (wc_18 (u := u0) (g := g0) (ex := [])).symm)
  have a20 : ∀ i, i < 20 → h[i]? = (Wd u0 g0 [])[i]? := ltS a19 ((zx_19 hx).trans (wc_19 (u := u0) (g := g0) (ex := [])).symm)
  have a21 : ∀ i, i < 21 → h[i]? = (Wd u0 g0 [])[i]? := ltS a20 ((zx_20 hx).trans (wc_20 (u := u0) (g := g0) (ex := [])).symm)
  have a22 : ∀ i, i < 22 → h[i]? = (Wd u0 g0 [])[i]? := ltS a21 ((zx_21 hx).trans (wc_21 (u := u0) (g := g0) (ex := [])).symm)
  have a23 : ∀ i, i < 23 → h[i]? = (Wd u0 g0 [])[i]? := ltS a22 ((zx_22 hx).trans (wc_22 (u := u0) (g := g0) (ex := [])).symm)
  have a24 : ∀ i, i < 24 → h[i]? = (Wd u0 g0 [])[i]? := ltS a23 ((zx_23 hx).trans (wc_23 (u := u0) (g := g0) (ex := [])).symm)
  have a25 : ∀ i, i < 25 → h[i]? = (Wd u0 g0 [])[i]? := ltS a24 ((zx_24 hx).trans (wc_24 (u := u0) (g := g0) (ex := [])).symm)
  have a26 : ∀ i, i < 26 → h[i]? = (Wd u0 g0 [])[i]? := ltS a25 ((zx_25 hx).trans (wc_25 (u := u0) (g := g0) (ex := [])).symm)
  have a27 : ∀ i, i < 27 → h[i]? = (Wd u0 g0 [])[i]? := ltS a26 ((zx_26 hx).trans (wc_26 (u := u0) (g := g0) (ex := [])).symm)
  have a28 : ∀ i, i < 28 → h[i]? = (Wd u0 g0 [])[i]? := ltS a27 ((zx_27 hx).trans (wc_27 (u := u0) (g := g0) (ex := [])).symm)
  have a29 : ∀ i, i < 29 → h[i]? = (Wd u0 g0 [])[i]? := ltS a28 ((zx_28 hx).trans (wc_28 (u := u0) (g := g0) (ex := [])).symm)
  have a30 : ∀ i, i < 30 → h[i]? = (Wd u0 g0 [])[i]? := ltS a29 ((zx_29 hx).trans (wc_29 (u := u0) (g := g0) (ex := [])).symm)
  have a31 : ∀ i, i < 31 → h[i]? = (Wd u0 g0 [])[i]? := ltS a30 ((zx_30 hx).trans (wc_30 (u := u0) (g := g0) (ex := [])).symm)
  have a32 : ∀ i, i < 32 → h[i]? = (Wd u0 g0 [])[i]? := ltS a31 ((zx_31 hx).trans (wc_31 (u := u0) (g := g0) (ex := [])).symm)
  have a33 : ∀ i, i < 33 → h[i]? = (Wd u0 g0 [])[i]? := ltS a32 ((zx_32 hx).trans (wc_32 (u := u0) (g := g0) (ex := [])).symm)
  have a34 : ∀ i, i < 34 → h[i]? = (Wd u0 g0 [])[i]? := ltS a33 ((zx_33 hx).trans (wc_33 (u := u0) (g := g0) (ex := [])).symm)
  have a35 : ∀ i, i < 35 → h[i]? = (Wd u0 g0 [])[i]? := ltS a34 ((zx_34 hx).trans (wc_34 (u := u0) (g := g0) (ex := [])).symm)
  have a36 : ∀ i, i < 36 → h[i]? = (Wd u0 g0 [])[i]? := ltS a35 ((zx_35 hx).trans (wc_35 (u := u0) (g := g0) (ex := [])).symm)
  have a37 : ∀ i, i < 37 → h[i]? = (Wd u0 g0 [])[i]? := ltS a36 ((zx_36 hx).trans (wc_36 (u := u0) (g := g0) (ex := [])).symm)
  have a38 : ∀ i, i < 38 → h[i]? = (Wd u0 g0 [])[i]? := ltS a37 ((zx_37 hx).trans (wc_37 (u := u0) (g := g0) (ex := [])).symm)
  have a39 : ∀ i, i < 39 → h[i]? = (Wd u0 g0 [])[i]? := ltS a38 ((zx_38 hx).trans (wc_38 (u := u0) (g := g0) (ex := [])).symm)
  have a40 : ∀ i, i < 40 → h[i]? = (Wd u0 g0 [])[i]? := ltS a39 ((zx_39 hx).trans (wc_39 (u := u0) (g := g0) (ex := [])).symm)
  have a41 : ∀ i, i < 41 → h[i]? = (Wd u0 g0 [])[i]? := ltS a40 ((zx_40 hx).trans (wc_40 (u := u0) (g := g0) (ex := [])).symm)
  have a42 : ∀ i, i < 42 → h[i]? = (Wd u0 g0 [])[i]? := ltS a41 ((zx_41 hx).trans (wc_41 (u := u0) (g := g0) (ex := [])).symm)
  have a43 : ∀ i, i < 43 → h[i]? = (Wd u0 g0 [])[i]? := ltS a42 ((zx_42 hx).trans (wc_42 (u := u0) (g := g0) (ex := [])).symm)
  have a44 : ∀ i, i < 44 → h[i]? = (Wd u0 g0 [])[i]? := ltS a43 ((zx_43 hx).trans (wc_43 (u := u0) (g := g0) (ex := [])).symm)
  have a45 : ∀ i, i < 45 → h[i]? = (Wd u0 g0 [])[i]? := ltS a44 ((zx_44 hx).trans (wc_44 (u := u0) (g := g0) (ex := [])).symm)
  have a46 : ∀ i, i < 46 → h[i]? = (Wd u0 g0 [])[i]? := ltS a45 ((zx_45 hx).trans (wc_45 (u := u0) (g := g0) (ex := [])).symm)
  have a47 : ∀ i, i < 47 → h[i]? = (Wd u0 g0 [])[i]? := ltS a46 ((zx_46 hx).trans (wc_46 (u := u0) (g := g0) (ex := [])).symm)
  have a48 : ∀ i, i < 48 → h[i]? = (Wd u0 g0 [])[i]? := ltS a47 ((zx_47 hx).trans (wc_47 (u := u0) (g := g0) (ex := [])).symm)
  have a49 : ∀ i, i < 49 → h[i]? = (Wd u0 g0 [])[i]? := ltS a48 ((zx_48 hx).trans (wc_48 (u := u0) (g := g0) (ex := [])).symm)
  have a50 : ∀ i, i < 50 → h[i]? = (Wd u0 g0 [])[i]? := ltS a49 ((zx_49 hx).trans (wc_49 (u := u0) (g := g0) (ex := [])).symm)
  have a51 : ∀ i, i < 51 → h[i]? = (Wd u0 g0 [])[i]? := ltS a50 ((zx_50 hx).trans (wc_50 (u := u0) (g := g0) (ex := [])).symm)
  have a52 : ∀ i, i < 52 → h[i]? = (Wd u0 g0 [])[i]? := ltS a51 ((zx_51 hx).trans (wc_51 (u := u0) (g := g0) (ex := [])).symm)
  have a53 : ∀ i, i < 53 → h[i]? = (Wd u0 g0 [])[i]? := ltS a52 ((zx_52 hx).trans (wc_52 (u := u0) (g := g0) (ex := [])).symm)
  have a54 : ∀ i, i < 54 → h[i]? = (Wd u0 g0 [])[i]? := ltS a53 ((zx_53 hx).trans (wc_53 (u := u0) (g := g0) (ex := [])).symm)
  have a55 : ∀ i, i < 55 → h[i]? = (Wd u0 g0 [])[i]? := ltS a54 ((zx_54 hx).trans (wc_54 (u := u0) (g := g0) (ex := [])).symm)
  have a56 : ∀ i, i < 56 → h[i]? = (Wd u0 g0 [])[i]? := ltS a55 ((zx_55 hx).trans (wc_55 (u := u0) (g := g0) (ex := [])).symm)
  have a57 : ∀ i, i < 57 → h[i]? = (Wd u0 g0 [])[i]? := ltS a56 ((zx_56 hx).trans (wc_56 (u := u0) (g := g0) (ex := [])).symm)
  have a58 : ∀ i, i < 58 → h[i]? = (Wd u0 g0 [])[i]? := ltS a57 ((zx_57 hx).trans (wc_57 (u := u0) (g := g0) (ex := [])).symm)
  have a59 : ∀ i, i < 59 → h[i]? = (Wd u0 g0 [])[i]? := ltS a58 ((zx_58 hx).trans (wc_58 (u := u0) (g := g0) (ex := [])).symm)
  have a60 : ∀ i, i < 60 → h[i]? = (Wd u0 g0 [])[i]? := ltS a59 ((zx_59 hx).trans (wc_59 (u := u0) (g := g0) (ex := [])).symm)
  have a61 : ∀ i, i < 61 → h[i]? = (Wd u0 g0 [])[i]? := ltS a60 ((zx_60 hx).trans (wc_60 (u := u0) (g := g0) (ex := [])).symm)
  have a62 : ∀ i, i < 62 → h[i]? = (Wd u0 g0 [])[i]? := ltS a61 ((zx_61 hx).trans (wc_61 (u := u0) (g := g0) (ex := [])).symm)
  have a63 : ∀ i, i < 63 → h[i]? = (Wd u0 g0 [])[i]? := ltS a62 ((zx_62 hx).trans (wc_62 (u := u0) (g := g0) (ex := [])).symm)
  have a64 : ∀ i, i < 64 → h[i]? = (Wd u0 g0 [])[i]? := ltS a63 ((zx_63 hx).trans (wc_63 (u := u0) (g := g0) (ex := [])).symm)
  have a65 : ∀ i, i < 65 → h[i]? = (Wd u0 g0 [])[i]? := ltS a64 ((zx_64 hx).trans (wc_64 (u := u0) (g := g0) (ex := [])).symm)
  have a66 : ∀ i, i < 66 → h[i]? = (Wd u0 g0 [])[i]? := ltS a65 ((zx_65 hx).trans (wc_65 (u := u0) (g := g0) (ex := [])).symm)
  have a67 : ∀ i, i < 67 → h[i]? = (Wd u0 g0 [])[i]? := ltS a66 ((zx_66 hx).trans (wc_66 (u := u0) (g := g0) (ex := [])).symm)
  have a68 : ∀ i, i < 68 → h[i]? = (Wd u0 g0 [])[i]? := ltS a67 ((zx_67 hx).trans (wc_67 (u := u0) (g := g0) (ex := [])).symm)
  have a69 : ∀ i, i < 69 → h[i]? = (Wd u0 g0 [])[i]? := ltS a68 ((zx_68 hx).trans (wc_68 (u := u0) (g := g0) (ex := [])).symm)
  have a70 : ∀ i, i < 70 → h[i]? = (Wd u0 g0 [])[i]? := ltS a69 ((zx_69 hx).trans (wc_69 (u := u0) (g := g0) (ex := [])).symm)
  have a71 : ∀ i, i < 71 → h[i]? = (Wd u0 g0 [])[i]? := ltS a70 ((zx_70 hx).trans (wc_70 (u := u0) (g := g0) (ex := [])).symm)
  have a72 : ∀ i, i < 72 → h[i]? = (Wd u0 g0 [])[i]? := ltS a71 ((zx_71 hx).trans (wc_71 (u := u0) (g := g0) (ex := [])).symm)
  have a73 : ∀ i, i < 73 → h[i]? = (Wd u0 g0 [])[i]? := ltS a72 ((zx_72 hx).trans (wc_72 (u := u0) (g := g0) (ex := [])).symm)
  have a74 : ∀ i, i < 74 → h[i]? = (Wd u0 g0 [])[i]? := ltS a73 ((zx_73 hx).trans (wc_73 (u := u0) (g := g0) (ex := [])).symm)
  have a75 : ∀ i, i < 75 → h[i]? = (Wd u0 g0 [])[i]? := ltS a74 ((zx_74 hx).trans (wc_74 (u := u0) (g := g0) (ex := [])).symm)
  have a76 : ∀ i, i < 76 → h[i]? = (Wd u0 g0 [])[i]? := ltS a75 ((zx_75 hx).trans (wc_75 (u := u0) (g := g0) (ex := [])).symm)
  have a77 : ∀ i, i < 77 → h[i]? = (Wd u0 g0 [])[i]? := ltS a76 ((zx_76 hx).trans (wc_76 (u := u0) (g := g0) (ex := [])).symm)
  have a78 : ∀ i, i < 78 → h[i]? = (Wd u0 g0 [])[i]? := ltS a77 ((zx_77 hx).trans (wc_77 (u := u0) (g := g0) (ex := [])).symm)
  have a79 : ∀ i, i < 79 → h[i]? = (Wd u0 g0 [])[i]? := ltS a78 ((zx_78 hx).trans (wc_78 (u := u0) (g := g0) (ex := [])).symm)
  have a80 : ∀ i, i < 80 → h[i]? = (Wd u0 g0 [])[i]? := ltS a79 ((zx_79 hx).trans (wc_79 (u := u0) (g := g0) (ex := [])).symm)
  have a81 : ∀ i, i < 81 → h[i]? = (Wd u0 g0 [])[i]? := ltS a80 ((zx_80 hx).trans (wc_80 (u := u0) (g := g0) (ex := [])).symm)
  have a82 : ∀ i, i < 82 → h[i]? = (Wd u0 g0 [])[i]? := ltS a81 ((zx_81 hx).trans (wc_81 (u := u0) (g := g0) (ex := [])).symm)
  have a83 : ∀ i, i < 83 → h[i]? = (Wd u0 g0 [])[i]? := ltS a82 ((zx_82 hx).trans (wc_82 (u := u0) (g := g0) (ex := [])).symm)
  have a84 : ∀ i, i < 84 → h[i]? = (Wd u0 g0 [])[i]? := ltS a83 ((zx_83 hx).trans (wc_83 (u := u0) (g := g0) (ex := [])).symm)
  have a85 : ∀ i, i < 85 → h[i]? = (Wd u0 g0 [])[i]? := ltS a84 ((zx_84 hx).trans (wc_84 (u := u0) (g := g0) (ex := [])).symm)
  have a86 : ∀ i, i < 86 → h[i]? = (Wd u0 g0 [])[i]? := ltS a85 ((zx_85 hx).trans (wc_85 (u := u0) (g := g0) (ex := [])).symm)
  have a87 : ∀ i, i < 87 → h[i]? = (Wd u0 g0 [])[i]? := ltS a86 ((zx_86 hx).trans (wc_86 (u := u0) (g := g0) (ex := [])).symm)
  have a88 : ∀ i, i < 88 → h[i]? = (Wd u0 g0 [])[i]? := ltS a87 ((zx_87 hx).trans (wc_87 (u := u0) (g := g0) (ex := [])).symm)
  have a89 : ∀ i, i < 89 → h[i]? = (Wd u0 g0 [])[i]? := ltS a88 ((zx_88 hx).trans (wc_88 (u := u0) (g := g0) (ex := [])).symm)
  have a90 : ∀ i, i < 90 → h[i]? = (Wd u0 g0 [])[i]? := ltS a89 ((zx_89 hx).trans (wc_89 (u := u0) (g := g0) (ex := [])).symm)
  have a91 : ∀ i, i < 91 → h[i]? = (Wd u0 g0 [])[i]? := ltS a90 ((zx_90 hx).trans (wc_90 (u := u0) (g := g0) (ex := [])).symm)
  have a92 : ∀ i, i < 92 → h[i]? = (Wd u0 g0 [])[i]? := ltS a91 ((zx_91 hx).trans (wc_91 (u := u0) (g := g0) (ex := [])).symm)
  have a93 : ∀ i, i < 93 → h[i]? = (Wd u0 g0 [])[i]? := ltS a92 ((zx_92 hx).trans (wc_92 (u := u0) (g := g0) (ex := [])).symm)
  have a94 : ∀ i, i < 94 → h[i]? = (Wd u0 g0 [])[i]? := ltS a93 ((zx_93 hx).trans (wc_93 (u := u0) (g := g0) (ex := [])).symm)
  have a95 : ∀ i, i < 95 → h[i]? = (Wd u0 g0 [])[i]? := ltS a94 ((zx_94 hx).trans (wc_94 (u := u0) (g := g0) (ex := [])).symm)
  have a96 : ∀ i, i < 96 → h[i]? = (Wd u0 g0 [])[i]? := ltS a95 ((zx_95 hx).trans (wc_95 (u := u0) (g := g0) (ex := [])).symm)
  have a97 : ∀ i, i < 97 → h[i]? = (Wd u0 g0 [])[i]? := ltS a96 ((zx_96 hx).trans (wc_96 (u := u0) (g := g0) (ex := [])).symm)
  have a98 : ∀ i, i < 98 → h[i]? = (Wd u0 g0 [])[i]? := ltS a97 ((zx_97 hx).trans (wc_97 (u := u0) (g := g0) (ex := [])).symm)
  have a99 : ∀ i, i < 99 → h[i]? = (Wd u0 g0 [])[i]? := ltS a98 ((zx_98 hx).trans (wc_98 (u := u0) (g := g0) (ex := [])).symm)
  have a100 : ∀ i, i < 100 → h[i]? = (Wd u0 g0 [])[i]? := ltS a99 ((zx_99 hx).trans (wc_99 (u := u0) (g := g0) (ex := [])).symm)
  have a101 : ∀ i, i < 101 → h[i]? = (Wd u0 g0 [])[i]? := ltS a100 ((zx_100 hx).trans (wc_100 (u := u0) (g := g0) (ex := [])).symm)
  have a102 : ∀ i, i < 102 → h[i]? = (Wd u0 g0 [])[i]? := ltS a101 ((zx_101 hx).trans (wc_101 (u := u0) (g := g0) (ex := [])).symm)
  have a103 : ∀ i, i < 103 → h[i]? = (Wd u0 g0 [])[i]? := ltS a102 ((zx_102 hx).trans (wc_102 (u := u0) (g := g0) (ex := [])).symm)
  have a104 : ∀ i, i < 104 → h[i]? = (Wd u0 g0 [])[i]? := ltS a103 ((zx_103 hx).trans (wc_103 (u := u0) (g := g0) (ex := [])).symm)
  have a105 : ∀ i, i < 105 → h[i]? = (Wd u0 g0 [])[i]? := ltS a104 ((zx_104 hx).trans (wc_104 (u := u0) (g := g0) (ex := [])).symm)
  have a106 : ∀ i, i < 106 → h[i]? = (Wd u0 g0 [])[i]? := ltS a105 ((zx_105 hx).trans (wc_105 (u := u0) (g := g0) (ex := [])).symm)
  have a107 : ∀ i, i < 107 → h[i]? = (Wd u0 g0 [])[i]? := ltS a106 ((zx_106 hx).trans (wc_106 (u := u0) (g := g0) (ex := [])).symm)
  have a108 : ∀ i, i < 108 → h[i]? = (Wd u0 g0 [])[i]? := ltS a107 ((zx_107 hx).trans (wc_107 (u := u0) (g := g0) (ex := [])).symm)
  have a109 : ∀ i, i < 109 → h[i]? = (Wd u0 g0 [])[i]? := ltS a108 ((zx_108 hx).trans (wc_108 (u := u0) (g := g0) (ex := [])).symm)
  have a110 : ∀ i, i < 110 → h[i]? = (Wd u0 g0 [])[i]? := ltS a109 ((zx_109 hx).trans (wc_109 (u := u0) (g := g0) (ex := [])).symm)
  have a111 : ∀ i, i < 111 → h[i]? = (Wd u0 g0 [])[i]? := ltS a110 ((zx_110 hx).trans (wc_110 (u := u0) (g := g0) (ex := [])).symm)
  have a112 : ∀ i, i < 112 → h[i]? = (Wd u0 g0 [])[i]? := ltS a111 ((zx_111 hx).trans (wc_111 (u := u0) (g := g0) (ex := [])).symm)
  have a113 : ∀ i, i < 113 → h[i]? = (Wd u0 g0 [])[i]? := ltS a112 ((zx_112 hx).trans (wc_112 (u := u0) (g := g0) (ex := [])).symm)
  have a114 : ∀ i, i < 114 → h[i]? = (Wd u0 g0 [])[i]? := ltS a113 ((zx_113 hx).trans (wc_113 (u := u0) (g := g0) (ex := [])).symm)
  have a115 : ∀ i, i < 115 → h[i]? = (Wd u0 g0 [])[i]? := ltS a114 ((zx_114 hx).trans (wc_114 (u := u0) (g := g0) (ex := [])).symm)
  have a116 : ∀ i, i < 116 → h[i]? = (Wd u0 g0 [])[i]? := ltS a115 ((zx_115 hx).trans (wc_115 (u := u0) (g := g0) (ex := [])).symm)
  have a117 : ∀ i, i < 117 → h[i]? = (Wd u0 g0 [])[i]? := ltS a116 ((zx_116 hx).trans (wc_116 (u := u0) (g := g0) (ex := [])).symm)
  have a118 : ∀ i, i < 118 → h[i]? = (Wd u0 g0 [])[i]? := ltS a117 ((zx_117 hx).trans (wc_117 (u := u0) (g := g0) (ex := [])).symm)
  have a119 : ∀ i, i < 119 → h[i]? = (Wd u0 g0 [])[i]? := ltS a118 ((zx_118 hx).trans (wc_118 (u := u0) (g := g0) (ex := [])).symm)
  have a120 : ∀ i, i < 120 → h[i]? = (Wd u0 g0 [])[i]? := ltS a119 ((zx_119 hx).trans (wc_119 (u := u0) (g := g0) (ex := [])).symm)
  have a121 : ∀ i, i < 121 → h[i]? = (Wd u0 g0 [])[i]? := ltS a120 ((zx_120 hx).trans (wc_120 (u := u0) (g := g0) (ex := [])).symm)
  have a122 : ∀ i, i < 122 → h[i]? = (Wd u0 g0 [])[i]? := ltS a121 ((zx_121 hx).trans (wc_121 (u := u0) (g := g0) (ex := [])).symm)
  have a123 : ∀ i, i < 123 → h[i]? = (Wd u0 g0 [])[i]? := ltS a122 ((zx_122 hx).trans (wc_122 (u := u0) (g := g0) (ex := [])).symm)
  have a124 : ∀ i, i < 124 → h[i]? = (Wd u0 g0 [])[i]? := ltS a123 ((zx_123 hx).trans (wc_123 (u := u0) (g := g0) (ex := [])).symm)
  have a125 : ∀ i, i < 125 → h[i]? = (Wd u0 g0 [])[i]? := ltS a124 ((zx_124 hx).trans (wc_124 (u := u0) (g := g0) (ex := [])).symm)
  have a126 : ∀ i, i < 126 → h[i]? = (Wd u0 g0 [])[i]? := ltS a125 ((zx_125 hx).trans (wc_125 (u := u0) (g := g0) (ex := [])).symm)
  have a127 : ∀ i, i < 127 → h[i]? = (Wd u0 g0 [])[i]? := ltS a126 ((zx_126 hx).trans (wc_126 (u := u0) (g := g0) (ex := [])).symm)
  have a128 : ∀ i, i < 128 → h[i]? = (Wd u0 g0 [])[i]? := ltS a127 ((zx_127 hx).trans (wc_127 (u := u0) (g := g0) (ex := [])).symm)
  have a129 : ∀ i, i < 129 → h[i]? = (Wd u0 g0 [])[i]? := ltS a128 ((zx_128 hx).trans (wc_128 (u := u0) (g := g0) (ex := [])).symm)
  have a130 : ∀ i, i < 130 → h[i]? = (Wd u0 g0 [])[i]? := ltS a129 ((zx_129 hx).trans (wc_129 (u := u0) (g := g0) (ex := [])).symm)
  have a131 : ∀ i, i < 131 → h[i]? = (Wd u0 g0 [])[i]? := ltS a130 ((zx_130 hx).trans (wc_130 (u := u0) (g := g0) (ex := [])).symm)
  have a132 : ∀ i, i < 132 → h[i]? = (Wd u0 g0 [])[i]? := ltS a131 ((zx_131 hx).trans (wc_131 (u := u0) (g := g0) (ex := [])).symm)
  have a133 : ∀ i, i < 133 → h[i]? = (Wd u0 g0 [])[i]? := ltS a132 ((zx_132 hx).trans (wc_132 (u := u0) (g := g0) (ex := [])).symm)
  have a134 : ∀ i, i < 134 → h[i]? = (Wd u0 g0 [])[i]? := ltS a133 ((zx_133 hx).trans (wc_133 (u := u0) (g := g0) (ex := [])).symm)
  have a135 : ∀ i, i < 135 → h[i]? = (Wd u0 g0 [])[i]? := ltS a134 ((zx_134 hx).trans (wc_134 (u := u0) (g := g0) (ex := [])).symm)
  have a136 : ∀ i, i < 136 → h[i]? = (Wd u0 g0 [])[i]? := ltS a135 ((zx_135 hx).trans (wc_135 (u := u0) (g := g0) (ex := [])).symm)
  have a137 : ∀ i, i < 137 → h[i]? = (Wd u0 g0 [])[i]? := ltS a136 ((zx_136 hx).trans (wc_136 (u := u0) (g := g0) (ex := [])).symm)
  have a138 : ∀ i, i < 138 → h[i]? = (Wd u0 g0 [])[i]? := ltS a137 ((zx_137 hx).trans (wc_137 (u := u0) (g := g0) (ex := [])).symm)
  have a139 : ∀ i, i < 139 → h[i]? = (Wd u0 g0 [])[i]? := ltS a138 ((zx_138 hx).trans (wc_138 (u := u0) (g := g0) (ex := [])).symm)
  have a140 : ∀ i, i < 140 → h[i]? = (Wd u0 g0 [])[i]? := ltS a139 ((zx_139 hx).trans (wc_139 (u := u0) (g := g0) (ex := [])).symm)
  have a141 : ∀ i, i < 141 → h[i]? = (Wd u0 g0 [])[i]? := ltS a140 ((zx_140 hx).trans (wc_140 (u := u0) (g := g0) (ex := [])).symm)
  have a142 : ∀ i, i < 142 → h[i]? = (Wd u0 g0 [])[i]? := ltS a141 ((zx_141 hx).trans (wc_141 (u := u0) (g := g0) (ex := [])).symm)
  have a143 : ∀ i, i < 143 → h[i]? = (Wd u0 g0 [])[i]? := ltS a142 ((zx_142 hx).trans (wc_142 (u := u0) (g := g0) (ex := [])).symm)
  have a144 : ∀ i, i < 144 → h[i]? = (Wd u0 g0 [])[i]? := ltS a143 ((zx_143 hx).trans (wc_143 (u := u0) (g := g0) (ex := [])).symm)
  have a145 : ∀ i, i < 145 → h[i]? = (Wd u0 g0 [])[i]? := ltS a144 ((zx_144 hx).trans (wc_144 (u := u0) (g := g0) (ex := [])).symm)
  have a146 : ∀ i, i < 146 → h[i]? = (Wd u0 g0 [])[i]? := ltS a145 ((zx_145 hx).trans (wc_145 (u := u0) (g := g0) (ex := [])).symm)
  have a147 : ∀ i, i < 147 → h[i]? = (Wd u0 g0 [])[i]? := ltS a146 ((zx_146 hx).trans (wc_146 (u := u0) (g := g0) (ex := [])).symm)
  have a148 : ∀ i, i < 148 → h[i]? = (Wd u0 g0 [])[i]? := ltS a147 ((zx_147 hx).trans (wc_147 (u := u0) (g := g0) (ex := [])).symm)
  have a149 : ∀ i, i < 149 → h[i]? = (Wd u0 g0 [])[i]? := ltS a148 ((zx_148 hx).trans (wc_148 (u := u0) (g := g0) (ex := [])).symm)
  have a150 : ∀ i, i < 150 → h[i]? = (Wd u0 g0 [])[i]? := ltS a149 ((zx_149 hx).trans (wc_149 (u := u0) (g := g0) (ex := [])).symm)
  have a151 : ∀ i, i < 151 → h[i]? = (Wd u0 g0 [])[i]? := ltS a150 ((zx_150 hx).trans (wc_150 (u := u0) (g := g0) (ex := [])).symm)
  have a152 : ∀ i, i < 152 → h[i]? = (Wd u0 g0 [])[i]? := ltS a151 ((zx_151 hx).trans (wc_151 (u := u0) (g := g0) (ex := [])).symm)
  have a153 : ∀ i, i < 153 → h[i]? = (Wd u0 g0 [])[i]? := ltS a152 ((zx_152 hx).trans (wc_152 (u := u0) (g := g0) (ex := [])).symm)
  have a154 : ∀ i, i < 154 → h[i]? = (Wd u0 g0 [])[i]? := ltS a153 ((zx_153 hx).trans (wc_153 (u := u0) (g := g0) (ex := [])).symm)
  have a155 : ∀ i, i < 155 → h[i]? = (Wd u0 g0 [])[i]? := ltS a154 ((zx_154 hx).trans (wc_154 (u := u0) (g := g0) (ex := [])).symm)
  have a156 : ∀ i, i < 156 → h[i]? = (Wd u0 g0 [])[i]? := ltS a155 ((zx_155 hx).trans (wc_155 (u := u0) (g := g0) (ex := [])).symm)
  have a157 : ∀ i, i < 157 → h[i]? = (Wd u0 g0 [])[i]? := ltS a156 ((zx_156 hx).trans (wc_156 (u := u0) (g := g0) (ex := [])).symm)
  have a158 : ∀ i, i < 158 → h[i]? = (Wd u0 g0 [])[i]? := ltS a157 ((zx_157 hx).trans (wc_157 (u := u0) (g := g0) (ex := [])).symm)
  have a159 : ∀ i, i < 159 → h[i]? = (Wd u0 g0 [])[i]? := ltS a158 ((zx_158 hx).trans (wc_158 (u := u0) (g := g0) (ex := [])).symm)
  have a160 : ∀ i, i < 160 → h[i]? = (Wd u0 g0 [])[i]? := ltS a159 ((zx_159 hx).trans (wc_159 (u := u0) (g := g0) (ex := [])).symm)
  have a161 : ∀ i, i < 161 → h[i]? = (Wd u0 g0 [])[i]? := ltS a160 ((zx_160 hx).trans (wc_160 (u := u0) (g := g0) (ex := [])).symm)
  have a162 : ∀ i, i < 162 → h[i]? = (Wd u0 g0 [])[i]? := ltS a161 ((zx_161 hx).trans (wc_161 (u := u0) (g := g0) (ex := [])).symm)
  have a163 : ∀ i, i < 163 → h[i]? = (Wd u0 g0 [])[i]? := ltS a162 ((zm_162 hm).trans (wc_162 (u := u0) (g := g0) (ex := [])).symm)
  have a164 : ∀ i, i < 164 → h[i]? = (Wd u0 g0 [])[i]? := ltS a163 ((zm_163 hm).trans (wc_163 (u := u0) (g := g0) (ex := [])).symm)
  have a165 : ∀ i, i < 165 → h[i]? = (Wd u0 g0 [])[i]? := ltS a164 ((zm_164 hm).trans (wc_164 (u := u0) (g := g0) (ex := [])).symm)
  have a166 : ∀ i, i < 166 → h[i]? = (Wd u0 g0 [])[i]? := ltS a165 ((zm_165 hm).trans (wc_165 (u := u0) (g := g0) (ex := [])).symm)
  have a167 : ∀ i, i < 167 → h[i]? = (Wd u0 g0 [])[i]? := ltS a166 ((zm_166 hm).trans (wc_166 (u := u0) (g := g0) (ex := [])).symm)
  have a168 : ∀ i, i < 168 → h[i]? = (Wd u0 g0 [])[i]? := ltS a167 ((zm_167 hm).trans (wc_167 (u := u0) (g := g0) (ex := [])).symm)
  have a169 : ∀ i, i < 169 → h[i]? = (Wd u0 g0 [])[i]? := ltS a168 ((zm_168 hm).trans (wc_168 (u := u0) (g := g0) (ex := [])).symm)
  have a170 : ∀ i, i < 170 → h[i]? = (Wd u0 g0 [])[i]? := ltS a169 ((zm_169 hm).trans (wc_169 (u := u0) (g := g0) (ex := [])).symm)
  have a171 : ∀ i, i < 171 → h[i]? = (Wd u0 g0 [])[i]? := ltS a170 ((zm_170 hm).trans (wc_170 (u := u0) (g := g0) (ex := [])).symm)
  have a172 : ∀ i, i < 172 → h[i]? = (Wd u0 g0 [])[i]? := ltS a171 ((zm_171 hm).trans (wc_171 (u := u0) (g := g0) (ex := [])).symm)
  have a173 : ∀ i, i < 173 → h[i]? = (Wd u0 g0 [])[i]? := ltS a172 ((zm_172 hm).trans (wc_172 (u := u0) (g := g0) (ex := [])).symm)
  have a174 : ∀ i, i < 174 → h[i]? = (Wd u0 g0 [])[i]? := ltS a173 ((zm_173 hm).trans (wc_173 (u := u0) (g := g0) (ex := [])).symm)
  have a175 : ∀ i, i < 175 → h[i]? = (Wd u0 g0 [])[i]? := ltS a174 ((zm_174 hm).trans (wc_174 (u := u0) (g := g0) (ex := [])).symm)
  have a176 : ∀ i, i < 176 → h[i]? = (Wd u0 g0 [])[i]? := ltS a175 ((zm_175 hm).trans (wc_175 (u := u0) (g := g0) (ex := [])).symm)
  have a177 : ∀ i, i < 177 → h[i]? = (Wd u0 g0 [])[i]? := ltS a176 ((zm_176 hm).trans (wc_176 (u := u0) (g := g0) (ex := [])).symm)
  have a178 : ∀ i, i < 178 → h[i]? = (Wd u0 g0 [])[i]? := ltS a177 ((zm_177 hm).trans (wc_177 (u := u0) (g := g0) (ex := [])).symm)
  have a179 : ∀ i, i < 179 → h[i]? = (Wd u0 g0 [])[i]? := ltS a178 ((zm_178 hm).trans (wc_178 (u := u0) (g := g0) (ex := [])).symm)
  have a180 : ∀ i, i < 180 → h[i]? = (Wd u0 g0 [])[i]? := ltS a179 ((zm_179 hm).trans (wc_179 (u := u0) (g := g0) (ex := [])).symm)
  have a181 : ∀ i, i < 181 → h[i]? = (Wd u0 g0 [])[i]? := ltS a180 ((zm_180 hm).trans (wc_180 (u := u0) (g := g0) (ex := [])).symm)
  have a182 : ∀ i, i < 182 → h[i]? = (Wd u0 g0 [])[i]? := ltS a181 ((zm_181 hm).trans (wc_181 (u := u0) (g := g0) (ex := [])).symm)
  by_cases hi : i < 182
  · exact a182 i hi
  · rw [List.getElem?_eq_none (by rw [hx.1]; omega), List.getElem?_eq_none (by rw [Wd_len]; exact Nat.le_of_not_lt hi)]
end
section
def IG0 (u : Nat → Nat → Int32) : Prop := Bd 0 2 (u 1 5) ∧ Bd 0 9 (u 5 0) ∧ Bd 0 4 (u 5 2) ∧ Bd 0 9 (u 10 0) ∧ Bd 0 4 (u 10 2) ∧ Bd 0 3 (u 1 7) ∧ Bd 0 12 (u 15 0) ∧ Bd 0 12 (u 19 0) ∧ Bd 0 12 (u 23 0) ∧ AB u 6 (-1) 999 ∧ AB u 11 (-1) 999 ∧ (KM u 15) ∧ (KM u 19) ∧ (KM u 23) ∧ Bd 0 600 (u 1 1) ∧ BF u 2
theorem ig0_c {u u2 : Nat → Nat → Int32} (e : ∀ c, 1 ≤ c ∧ c ≤ 26 → u2 c = u c) (h : IG0 u) : IG0 u2 := by
  obtain ⟨q0, q1, q2, q3, q4, q5, q6, q7, q8, q9, q10, q11, q12, q13, q14, q15⟩ := h
  exact ⟨(bd_r (congrFun (e 1 (by decide)) _) q0), (bd_r (congrFun (e 5 (by decide)) _) q1), (bd_r (congrFun (e 5 (by decide)) _) q2), (bd_r (congrFun (e 10 (by decide)) _) q3), (bd_r (congrFun (e 10 (by decide)) _) q4), (bd_r (congrFun (e 1 (by decide)) _) q5), (bd_r (congrFun (e 15 (by decide)) _) q6), (bd_r (congrFun (e 19 (by decide)) _) q7), (bd_r (congrFun (e 23 (by decide)) _) q8), (ab_c (e 6 (by decide)) q9), (ab_c (e 11 (by decide)) q10), (km_c (e 16 (by decide)) (e 18 (by decide)) q11), (km_c (e 20 (by decide)) (e 22 (by decide)) q12), (km_c (e 24 (by decide)) (e 26 (by decide)) q13), (bd_r (congrFun (e 1 (by decide)) _) q14), (bf_c (e 2 (by decide)) q15)⟩
def IG1 (u : Nat → Nat → Int32) : Prop := Bd 0 600 (u 84 1) ∧ Bd 0 2 (u 84 5) ∧ Bd 0 3 (u 84 7) ∧ BF u 85 ∧ Bd 0 9 (u 88 0) ∧ Bd 0 4 (u 88 2) ∧ Bd 0 9 (u 93 0) ∧ Bd 0 4 (u 93 2) ∧ AB u 89 (-1) 999 ∧ AB u 94 (-1) 999 ∧ Bd 0 12 (u 98 0) ∧ Bd 0 12 (u 102 0) ∧ Bd 0 12 (u 106 0) ∧ (KM u 98) ∧ (KM u 102) ∧ (KM u 106) ∧ Bd 0 600 (u 110 1) ∧ Bd 0 2 (u 110 5) ∧ Bd 0 3 (u 110 7) ∧ BF u 111 ∧ Bd 0 9 (u 114 0) ∧ Bd 0 4 (u 114 2) ∧ Bd 0 9 (u 119 0) ∧ Bd 0 4 (u 119 2) ∧ AB u 115 (-1) 999 ∧ AB u 120 (-1) 999 ∧ Bd 0 12 (u 124 0) ∧ Bd 0 12 (u 128 0) ∧ Bd 0 12 (u 132 0) ∧ (KM u 124) ∧ (KM u 128) ∧ (KM u 132) ∧ Bd 0 600 (u 136 1) ∧ Bd 0 2 (u 136 5) ∧ Bd 0 3 (u 136 7) ∧ BF u 137 ∧ Bd 0 9 (u 140 0) ∧ Bd 0 4 (u 140 2) ∧ Bd 0 9 (u 145 0) ∧ Bd 0 4 (u 145 2) ∧ AB u 141 (-1) 999 ∧ AB u 146 (-1) 999 ∧ Bd 0 12 (u 150 0) ∧ Bd 0 12 (u 154 0) ∧ Bd 0 12 (u 158 0) ∧ (KM u 150) ∧ (KM u 154) ∧ (KM u 158)
theorem ig1_c {u u2 : Nat → Nat → Int32} (e : ∀ c, 84 ≤ c ∧ c ≤ 161 → u2 c = u c) (h : IG1 u) : IG1 u2 := by
  obtain ⟨q0, q1, q2, q3, q4, q5, q6, q7, q8, q9, q10, q11, q12, q13, q14, q15, q16, q17, q18, q19, q20, q21, q22, q23, q24, q25, q26, q27, q28, q29, q30, q31, q32, q33, q34, q35, q36, q37, q38, q39, q40, q41, q42, q43, q44, q45, q46, q47⟩ := h
  exact ⟨(bd_r (congrFun (e 84 (by decide)) _) q0), (bd_r (congrFun (e 84 (by decide)) _) q1), (bd_r (congrFun (e 84 (by decide)) _) q2), (bf_c (e 85 (by decide)) q3), (bd_r (congrFun (e 88 (by decide)) _) q4), (bd_r (congrFun (e 88 (by decide)) _) q5), (bd_r (congrFun (e 93 (by decide)) _) q6), (bd_r (congrFun (e 93 (by decide)) _) q7), (ab_c (e 89 (by decide)) q8), (ab_c (e 94 (by decide)) q9), (bd_r (congrFun (e 98 (by decide)) _) q10), (bd_r (congrFun (e 102 (by decide)) _) q11), (bd_r (congrFun (e 106 (by decide)) _) q12), (km_c (e 99 (by decide)) (e 101 (by decide)) q13), (km_c (e 103 (by decide)) (e 105 (by decide)) q14), (km_c (e 107 (by decide)) (e 109 (by decide)) q15), (bd_r (congrFun (e 110 (by decide)) _) q16), (bd_r (congrFun (e 110 (by decide)) _) q17), (bd_r (congrFun (e 110 (by decide)) _) q18), (bf_c (e 111 (by decide)) q19), (bd_r (congrFun (e 114 (by decide)) _) q20), (bd_r (congrFun (e 114 (by decide)) _) q21), (bd_r (congrFun (e 119 (by decide)) _) q22), (bd_r (congrFun (e 119 (by decide)) _) q23), (ab_c (e 115 (by decide)) q24), (ab_c (e 120 (by decide)) q25), (bd_r (congrFun (e 124 (by decide)) _) q26), (bd_r (congrFun (e 128 (by decide)) _) q27), (bd_r (congrFun (e 132 (by decide)) _) q28), (km_c (e 125 (by decide)) (e 127 (by decide)) q29), (km_c (e 129 (by decide)) (e 131 (by decide)) q30), (km_c (e 133 (by decide)) (e 135 (by decide)) q31), (bd_r (congrFun (e 136 (by decide)) _) q32), (bd_r (congrFun (e 136 (by decide)) _) q33), (bd_r (congrFun (e 136 (by decide)) _) q34), (bf_c (e 137 (by decide)) q35), (bd_r (congrFun (e 140 (by decide)) _) q36), (bd_r (congrFun (e 140 (by decide)) _) q37), (bd_r (congrFun (e 145 (by decide)) _) q38), (bd_r (congrFun (e 145 (by decide)) _) q39), (ab_c (e 141 (by decide)) q40), (ab_c (e 146 (by decide)) q41), (bd_r (congrFun (e 150 (by decide)) _) q42), (bd_r (congrFun (e 154 (by decide)) _) q43), (bd_r (congrFun (e 158 (by decide)) _) q44), (km_c (e 151 (by decide)) (e 153 (by decide)) q45), (km_c (e 155 (by decide)) (e 157 (by decide)) q46), (km_c (e 159 (by decide)) (e 161 (by decide)) q47)⟩
def IG2 (u : Nat → Nat → Int32) : Prop := AB u 33 (-1) 999 ∧ (KM u 37) ∧ Bd 0 9 (u 32 0) ∧ Bd 0 4 (u 32 2) ∧ Bd 0 12 (u 37 0) ∧ AB u 41 0 999
theorem ig2_c {u u2 : Nat → Nat → Int32} (e : ∀ c, 29 ≤ c ∧ c ≤ 42 → u2 c = u c) (h : IG2 u) : IG2 u2 := by
  obtain ⟨q0, q1, q2, q3, q4, q5⟩ := h
  exact ⟨(ab_c (e 33 (by decide)) q0), (km_c (e 38 (by decide)) (e 40 (by decide)) q1), (bd_r (congrFun (e 32 (by decide)) _) q2), (bd_r (congrFun (e 32 (by decide)) _) q3), (bd_r (congrFun (e 37 (by decide)) _) q4), (ab_c (e 41 (by decide)) q5)⟩
def IG3 (u : Nat → Nat → Int32) : Prop := Bd 0 9 (u 44 0) ∧ Bd 0 4 (u 44 2) ∧ Bd 0 12 (u 49 0) ∧ AB u 45 (-1) 999 ∧ (KM u 49) ∧ Bd 0 9 (u 53 0) ∧ Bd 0 511 (u 53 1) ∧ Bd 0 9 (u 61 0) ∧ Bd 0 4 (u 61 2) ∧ AB u 66 0 511 ∧ Bd 0 9 (u 70 0) ∧ Bd 0 4 (u 70 2) ∧ Bd 0 9 (u 79 0) ∧ Bd 0 4 (u 79 2) ∧ Bd 0 4 (u 56 5) ∧ AB u 77 0 3 ∧ AB u 76 0 3
theorem ig3_c {u u2 : Nat → Nat → Int32} (e : ∀ c, 43 ≤ c ∧ c ≤ 83 → u2 c = u c) (h : IG3 u) : IG3 u2 := by
  obtain ⟨q0, q1, q2, q3, q4, q5, q6, q7, q8, q9, q10, q11, q12, q13, q14, q15, q16⟩ := h
  exact ⟨(bd_r (congrFun (e 44 (by decide)) _) q0), (bd_r (congrFun (e 44 (by decide)) _) q1), (bd_r (congrFun (e 49 (by decide)) _) q2), (ab_c (e 45 (by decide)) q3), (km_c (e 50 (by decide)) (e 52 (by decide)) q4), (bd_r (congrFun (e 53 (by decide)) _) q5), (bd_r (congrFun (e 53 (by decide)) _) q6), (bd_r (congrFun (e 61 (by decide)) _) q7), (bd_r (congrFun (e 61 (by decide)) _) q8), (ab_c (e 66 (by decide)) q9), (bd_r (congrFun (e 70 (by decide)) _) q10), (bd_r (congrFun (e 70 (by decide)) _) q11), (bd_r (congrFun (e 79 (by decide)) _) q12), (bd_r (congrFun (e 79 (by decide)) _) q13), (bd_r (congrFun (e 56 (by decide)) _) q14), (ab_c (e 77 (by decide)) q15), (ab_c (e 76 (by decide)) q16)⟩
def IG4 (u : Nat → Nat → Int32) : Prop := (MY u) ∧ AB u 168 (-1) 999 ∧ (HD u) ∧ (HC u) ∧ (PL u) ∧ AB u 164 0 600 ∧ AB u 169 (-1) 999
theorem ig4_c {u u2 : Nat → Nat → Int32} (e : ∀ c, 163 ≤ c ∧ c ≤ 169 → u2 c = u c) (h : IG4 u) : IG4 u2 := by
  obtain ⟨q0, q1, q2, q3, q4, q5, q6⟩ := h
  exact ⟨(my_c (e 167 (by decide)) q0), (ab_c (e 168 (by decide)) q1), (hd_c (e 168 (by decide)) q2), (hc_c (e 167 (by decide)) (e 168 (by decide)) q3), (pl_c (e 169 (by decide)) q4), (ab_c (e 164 (by decide)) q5), (ab_c (e 169 (by decide)) q6)⟩
def IG5 (u : Nat → Nat → Int32) : Prop := AB u 171 (-1) 999 ∧ AB u 170 (-1) 999
theorem ig5_c {u u2 : Nat → Nat → Int32} (e : ∀ c, 170 ≤ c ∧ c ≤ 171 → u2 c = u c) (h : IG5 u) : IG5 u2 := by
  obtain ⟨q0, q1⟩ := h
  exact ⟨(ab_c (e 171 (by decide)) q0), (ab_c (e 170 (by decide)) q1)⟩
def IG6 (u : Nat → Nat → Int32) : Prop := (N0 u) ∧ (DN u) ∧ AB u 177 (-1) 999 ∧ AB u 178 (-1) 999 ∧ AB u 179 0 8
theorem ig6_c {u u2 : Nat → Nat → Int32} (e : ∀ c, 172 ≤ c ∧ c ≤ 181 → u2 c = u c) (h : IG6 u) : IG6 u2 := by
  obtain ⟨q0, q1, q2, q3, q4⟩ := h
  exact ⟨(n0_c (e 172 (by decide)) q0), (dn_c (e 172 (by decide)) q1), (ab_c (e 177 (by decide)) q2), (ab_c (e 178 (by decide)) q3), (ab_c (e 179 (by decide)) q4)⟩
def INV (u : Nat → Nat → Int32) : Prop := IG0 u ∧ IG1 u ∧ IG2 u ∧ IG3 u ∧ IG4 u ∧ IG5 u ∧ IG6 u ∧ Bd 0 9 (u 162 22) ∧ Bd 0 511 (u 162 31) ∧ Bd 0 999 (u 162 12) ∧ Bd 0 999 (u 162 17)
theorem inv_0 : INV u0 := by
  have z : ∀ a j : Nat, ¬ (a = 1 ∨ a = 84 ∨ a = 110 ∨ a = 136) → a ≠ 29 → a ≠ 56 → a ≠ 166 → u0 a j = 0 := by
    intro a j h1 h2 h3 h4
    unfold u0
    rw [if_neg h1, if_neg h2, if_neg h3, if_neg h4]
  exact ⟨⟨(by decide), (by decide), (by decide), (by decide), (by decide), (by decide), (by decide), (by decide), (by decide), (fun j => bd_r (z 6 j (by decide) (by decide) (by decide) (by decide)) (by decide)), (fun j => bd_r (z 11 j (by decide) (by decide) (by decide) (by decide)) (by decide)), (fun j => Or.inr (bd_r (z 18 j (by decide) (by decide) (by decide) (by decide)) (by decide))), (fun j => Or.inr (bd_r (z 22 j (by decide) (by decide) (by decide) (by decide)) (by decide))), (fun j => Or.inr (bd_r (z 26 j (by decide) (by decide) (by decide) (by decide)) (by decide))), (by decide), (fun j => by rw [(z 2 j (by decide) (by decide) (by decide) (by decide))]; rfl)⟩, ⟨(by decide), (by decide), (by decide), (fun j => by rw [(z 85 j (by decide) (by decide) (by decide) (by decide))]; rfl), (by decide), (by decide), (by decide), (by decide), (fun j => bd_r (z 89 j (by decide) (by decide) (by decide) (by decide)) (by decide)), (fun j => bd_r (z 94 j (by decide) (by decide) (by decide) (by decide)) (by decide)), (by decide), (by decide), (by decide), (fun j => Or.inr (bd_r (z 101 j (by decide) (by decide) (by decide) (by decide)) (by decide))), (fun j => Or.inr (bd_r (z 105 j (by decide) (by decide) (by decide) (by decide)) (by decide))), (fun j => Or.inr (bd_r (z 109 j (by decide) (by decide) (by decide) (by decide)) (by decide))), (by decide), (by decide), (by decide), (fun j => by rw [(z 111 j (by decide) (by decide) (by decide) (by decide))]; rfl), (by decide), (by decide), (by decide), (by decide), (fun j => bd_r (z 115 j (by decide) (by decide) (by decide) (by decide)) (by decide)), (fun j => bd_r (z 120 j (by decide) (by decide) (by decide) (by decide)) (by decide)), (by decide), (by decide), (by decide), (fun j => Or.inr (bd_r (z 127 j (by decide) (by decide) (by decide) (by decide)) (by decide))), (fun j => Or.inr (bd_r (z 131 j (by decide) (by decide) (by decide) (by decide)) (by decide))), (fun j => Or.inr (bd_r (z 135 j (by decide) (by decide) (by decide) (by decide)) (by decide))), (by decide), (by decide), (by decide), (fun j => by rw [(z 137 j (by decide) (by decide) (by decide) (by decide))]; rfl), (by decide), (by decide), (by decide), (by decide), (fun j => bd_r (z 141 j (by decide) (by decide) (by decide) (by decide)) (by decide)), (fun j => bd_r (z 146 j (by decide) (by decide) (by decide) (by decide)) (by decide)), (by decide), (by decide), (by decide), (fun j => Or.inr (bd_r (z 153 j (by decide) (by decide) (by decide) (by decide)) (by decide))), (fun j => Or.inr (bd_r (z 157 j (by decide) (by decide) (by decide) (by decide)) (by decide))), (fun j => Or.inr (bd_r (z 161 j (by decide) (by decide) (by decide) (by decide)) (by decide)))⟩, ⟨(fun j => bd_r (z 33 j (by decide) (by decide) (by decide) (by decide)) (by decide)), (fun j => Or.inr (bd_r (z 40 j (by decide) (by decide) (by decide) (by decide)) (by decide))), (by decide), (by decide), (by decide), (fun j => bd_r (z 41 j (by decide) (by decide) (by decide) (by decide)) (by decide))⟩, ⟨(by decide), (by decide), (by decide), (fun j => bd_r (z 45 j (by decide) (by decide) (by decide) (by decide)) (by decide)), (fun j => Or.inr (bd_r (z 52 j (by decide) (by decide) (by decide) (by decide)) (by decide))), (by decide), (by decide), (by decide), (by decide), (fun j => bd_r (z 66 j (by decide) (by decide) (by decide) (by decide)) (by decide)), (by decide), (by decide), (by decide), (by decide), (by decide), (fun j => bd_r (z 77 j (by decide) (by decide) (by decide) (by decide)) (by decide)), (fun j => bd_r (z 76 j (by decide) (by decide) (by decide) (by decide)) (by decide))⟩, ⟨(fun j hj => ⟨bd_r (z 167 _ (by decide) (by decide) (by decide) (by decide)) (by decide), bd_r (z 167 _ (by decide) (by decide) (by decide) (by decide)) (by decide)⟩), (fun j => bd_r (z 168 j (by decide) (by decide) (by decide) (by decide)) (by decide)), (fun s hs => ⟨bd_r (z 168 _ (by decide) (by decide) (by decide) (by decide)) (by decide), fun p hp => ⟨bd_r (z 168 _ (by decide) (by decide) (by decide) (by decide)) (by decide), bd_r (z 168 _ (by decide) (by decide) (by decide) (by decide)) (by decide)⟩, bd_r (z 168 _ (by decide) (by decide) (by decide) (by decide)) (by decide)⟩), (fun j hj i hi hl => by rw [(z 167 _ (by decide) (by decide) (by decide) (by decide))] at hl; exact absurd hl (by have : (0 : Int32).toInt = 0 := rfl; omega)), (fun s hs => ⟨bd_r (z 169 _ (by decide) (by decide) (by decide) (by decide)) (by decide), fun i hi => ⟨Or.inr (bd_r (z 169 _ (by decide) (by decide) (by decide) (by decide)) (by decide)), bd_r (z 169 _ (by decide) (by decide) (by decide) (by decide)) (by decide)⟩⟩), (fun j => bd_r (z 164 j (by decide) (by decide) (by decide) (by decide)) (by decide)), (fun j => bd_r (z 169 j (by decide) (by decide) (by decide) (by decide)) (by decide))⟩, ⟨(fun j => bd_r (z 171 j (by decide) (by decide) (by decide) (by decide)) (by decide)), (fun j => bd_r (z 170 j (by decide) (by decide) (by decide) (by decide)) (by decide))⟩, ⟨(fun j hj => bd_r (z 172 _ (by decide) (by decide) (by decide) (by decide)) (by decide)), (fun p hp => ⟨bd_r (z 172 _ (by decide) (by decide) (by decide) (by decide)) (by decide), bd_r (z 172 _ (by decide) (by decide) (by decide) (by decide)) (by decide)⟩), (fun j => bd_r (z 177 j (by decide) (by decide) (by decide) (by decide)) (by decide)), (fun j => bd_r (z 178 j (by decide) (by decide) (by decide) (by decide)) (by decide)), (fun j => bd_r (z 179 j (by decide) (by decide) (by decide) (by decide)) (by decide))⟩, (by decide), (by decide), (by decide), (by decide)⟩
def INX (u : Nat → Nat → Int32) : Prop := INV u ∧ RLY u u
theorem rlx_0 : RLX u0 u0 := ⟨⟨fun j _ => rfl, rfl, rfl, rfl, rfl, rfl, fun k _ hl => absurd hl (Nat.not_lt_zero k), fun k _ hl => absurd hl (Nat.not_lt_zero k)⟩, rfl, fun k _ hn => absurd rfl hn⟩
theorem rly_0 : RLY u0 u0 := ⟨rlx_0, fun s _ h _ hl => absurd (show h < 0 from hl) (Nat.not_lt_zero h), rfl⟩
theorem inx_0 : INX u0 := ⟨inv_0, rly_0⟩
def LI (i : Int32) (L : Nat) : Prop := 0 ≤ i.toInt ∧ i.toInt + 8 ≤ L ∧ L ≤ 4096
theorem li_in {i c : Int32} {L : Nat} (h : LI i L) (hc : 0 ≤ c.toInt ∧ c.toInt ≤ 7) : vp_in (i + c) L := by
  obtain ⟨h1, h2, h3⟩ := h
  have e : (i + c).toInt = i.toInt + c.toInt := ti_add (by omega) (by omega)
  have e0 : (0 : Int32).toInt = 0 := rfl
  intro q
  rcases q with q | q
  · have := Int32.lt_iff_toInt_lt.mp q
    omega
  · have h4 : (i + c).toNatClampNeg = (i + c).toInt.toNat := rfl
    omega
theorem li_0 {i : Int32} {L : Nat} (h : LI i L) : vp_in i L := by
  obtain ⟨h1, h2, h3⟩ := h
  have e0 : (0 : Int32).toInt = 0 := rfl
  intro q
  rcases q with q | q
  · have := Int32.lt_iff_toInt_lt.mp q
    omega
  · have h4 : i.toNatClampNeg = i.toInt.toNat := rfl
    omega
theorem wlk {k : Nat} {u : Nat → Nat → Int32} {g : Nat → Nat → Int64} {ex : List MC} (h : k = 182 + ex.length) : k + 0 = (Wd u g ex).length := by rw [Wd_len, h]; rfl
theorem lk1 {k n : Nat} (h : k + 1 ≤ 600000 ∧ n + 1 ≤ 7302250) : k + 0 ≤ 600000 := by omega
theorem ln1 {k n : Nat} (h : k + 1 ≤ 600000 ∧ n + 1 ≤ 7302250) : n + 0 ≤ 7302250 := by omega
theorem rne {c a lo hi : Nat} (h : lo ≤ c ∧ c ≤ hi) (r : a < lo ∨ hi < a) : c ≠ a := by omega
theorem fit_X {p : Program} {l : Launch} {e : Env} {R : Room} {s : State} {m : MethodId} {args : Array Value} {below : List Frame} {meth : Method} {c : Code} {T : State} {locs : List Loc} {k k1 n : Nat} (X : Stand p l e R s m args below meth c T locs k n) (h : T.heap.size ≤ s.heap.size + k1) : Stand p l e R s m args below meth c T locs k1 n :=
  { X with same := ⟨X.same.1, X.same.2.1, h, X.same.2.2.2⟩ }
theorem J_callVx {x : JX} {y : MethodName} {cc : ByteArray} {nL : Nat} {rt : Option FieldType} {d M N L0 : Nat} {pc : Nat} {lv : List (Nat × Value)} {st : List Value} {h : List MC} {k n : Nat} {con0 : JK} {d1 M1 N1 nL1 ix : Nat} {y1 : MethodName} {cc1 : ByteArray} {rt1 : Option FieldType} {Post1 : Option Value → List MC → Prop} {As rest : List Value} {a ci : Nat} {fs : List Value} {q : vw_C} (hd : decode cc pc = .ok (.invokevirtual ix, 3)) (hM : CT con0 d1 M1 N1 y1 cc1 nL1 rt1 (.ref a :: As) h Post1) (hN : JN x con0) (hi1 : Cond.methodLink y.cls ix y1 ∈ gt) (hi2 : Cond.instanceMethod y1 ∈ gt) (hi3 : Cond.selects y1.cls y1 y1 ∈ gt) (ha : h[a]? = some (.inr (ci, fs))) (hc : vwCl[ci]? = some q) (hq : q.1 = y1.cls) (hi4 : Cond.initialized y1.cls ∈ gt) (hi5 : Cond.code y1 cc1 nL1 rt1 ∈ gt) (hdn : y1.cls ≠ "java/lang/invoke/MethodHandle" ∧ y1.cls ≠ "java/lang/invoke/VarHandle" ∧ (parseMethodDescriptor y1.desc).map (fun d => d.parameters.length) = some As.length) (hdd : d1 + 1 ≤ d) (hmx : nL1 ≤ 19) (hMM : k + M1 ≤ M) (hNN : n + N1 ≤ N) (hk : k + L0 = h.length) (hst : st = As.reverse ++ .ref a :: rest) (hw : (rest.map fun v => v.category).sum ≤ 8) (K : ∀ (r : Option Value) (h1 : List MC), Post1 r h1 → ∀ k1, k1 + L0 = h1.length → k1 ≤ k + M1 → J x y cc nL rt d M N L0 (pc + 3) lv (r.toList ++ rest) h1 k1 (n + N1)) : J x y cc nL rt d M N L0 pc lv st h k n := by
  obtain ⟨p, l, e, R, s, m, args, below, meth, c, b, ca, cA, D, con, Q⟩ := x
  intro O H locs ls hl hP hS
  have hx := O.1
  have hb := O.2.1
  have hts := O.2.2.2.2.1
  have hown := O.2.2.2.1
  have hK : va_K D vwCl (tz cA) s := O.2.2.2.2.2.2.2.2.1
  intro T hT X
  have hz := J_size X hT O.2.2.2.2.2.2.2.2.2.1 hk hP hS
  have hMet := hM l b ca cA D con hN
  have hG : GoodIn gt (Cond.code y1 cc1 nL1 rt1 :: gt) := fun w hw => (List.mem_cons.mp hw).elim (fun q => by rw [q]; exact gt_gt _ hi5) (gt_gt w)
  have hR : (RM d1 M1 N1).frames + 1 ≤ R.frames ∧ 8 + (nL1 + 11) + (RM d1 M1 N1).locals ≤ R.locals := by
    have h1 := O.2.2.2.2.2.2.2.2.2.2.1
    have h2 := O.2.2.2.2.2.2.2.2.2.2.2.1
    show d1 + 1 ≤ R.frames ∧ 8 + (nL1 + 11) + 38 * d1 ≤ R.locals
    omega
  have hB := callB_of (R := R) (mc := M1) (ms := N1) As.length hts hG rfl rfl rfl (hts _ hi4) (hts _ hi1) hdn hR
  have hpc : ∀ U : State, U.heap = H → s.WarmedH U.vm → PC b ca cA D con (.ref a :: As) h (((.ref a :: As)).map (rv b ca)).toArray U := fun U hU hW => ⟨rfl, by rw [hU]; exact hz, by rw [hU]; exact hP, va_K.moved hW.alike hK, CN.moved O.2.2.2.2.2.2.2.2.2.2.2.2.2.2.1 hW.alike hU hS, NW.warm hW hU hS O.2.2.2.2.2.2.2.2.2.2.2.2.2.2.2⟩
  have hcs : k + M1 ≤ R.cells ∧ n + N1 ≤ R.slots := ⟨Nat.le_trans hMM O.2.2.2.2.2.2.2.2.2.2.2.2.1, Nat.le_trans hNN O.2.2.2.2.2.2.2.2.2.2.2.2.2.1⟩
  subst hst
  have hsk : (As.reverse ++ .ref a :: rest).map (rv b ca) = (As.map (rv b ca)).reverse ++ .ref (b + a) :: rest.map (rv b ca) := by simp [rv]
  have hrm : 2 * (F0 m pc ls ((As.reverse ++ .ref a :: rest).map (rv b ca))).monitorRoom + ((rest.map (rv b ca)).map fun v => v.category).sum ≤ 8 := lv_room (by rw [rv_sum]; exact hw)
  have hrc := va_recv hK hP hc (wz_get ha)
  rw [hq] at hrc
  obtain ⟨v, st₀, t, T1, L, h0, X1, hL, e1, e2, ⟨⟨r, h1, hv, hp, hz1, hP1, hK1⟩, hF⟩, go⟩ := va_runV (Ts := gt) (As := As.map (rv b ca)) (rest := rest.map (rv b ca)) (g := F0 m pc ls ((As.reverse ++ .ref a :: rest).map (rv b ca))) ⟨hx, hb, O.2.2.1, hown, hts⟩ hMet ⟨hB, hts _ hi2, hts _ hi3⟩ ⟨PC_blind _ _ _ _ _ _ _, hrc, hpc⟩ rfl (by rw [List.length_map]) hl.1 hsk hrm hd hcs T hT X
  cases hv
  have hS1 : va_S (fun q => b ≤ q) s.heap T1.heap (locs ++ L) := by
    have hF1 : H.size ≤ t.heap.size := by rw [← h0]; exact hF.1
    refine ⟨Nat.le_trans hS.1 (by rw [e1]; exact hF1), fun q h1 h2 => ?_, fun q hq => ?_⟩
    · rw [e1, hF.2 q (by rw [h0]; exact Nat.lt_of_lt_of_le h1 hS.1) h2, h0]
      exact hS.2.1 q h1 h2
    · rcases List.mem_append.mp hq with h | h
      · exact hS.2.2 q h
      · exact hL q h
  have hs0 : s.heap.size = b + L0 := O.2.2.2.2.2.2.2.2.2.1
  have hs1 : T1.heap.size = b + h1.length := by rw [e1]; exact hz1
  have hs2 := X1.heapSize
  have hs3 : L0 ≤ h1.length := by have := hS1.1; omega
  have kk := K r h1 hp (h1.length - L0) (by omega) (by omega) O T1.heap (locs ++ L) ls hl (by rw [e1]; exact hP1) hS1 T1 rfl (fit_X X1 (by omega))
  obtain ⟨t2, a1, b1⟩ := kk
  refine ⟨t2, go t2 ?_, b1⟩
  cases r <;> exact a1
theorem lx1 {k n k1 : Nat} (h : k + 1 ≤ 600000 ∧ n + 1 ≤ 7302250) (q : k1 ≤ k + 1) : k1 + 0 ≤ 600000 := by omega
theorem lx2 {k n : Nat} (h : k + 1 ≤ 600000 ∧ n + 1 ≤ 7302250) : n + 1 + 0 ≤ 7302250 := by omega
end
