/-! THE CLAIM OUT OF ONE WALK OF THE LAW'S BODY. Your part is whole_start (and what it stands on); all else here is the same for every law, but numbers. -/
def R_law : String := "PondStairLaw"
def lw_P (b : Addr) (xs : List Int32) (args : Array Value) (s : State) : Prop := args = #[.ref b] ∧ s.IntsAt b xs ∧ xs.length ≤ 8 ∧ (Jvm.Cond.and given_1 narrow_1).before args s = true
def lw_Q (_ : Array Value) (s : State) (o : Outcome) (t : State) : Prop := o = .returned (some (.int 1)) ∧ Framed s o t [] 600000 7302250
def lw_Z (below : List Frame) (a : Array Value) (s : State) : State → Prop := fun t => ∃ o, t.status = .running ∧ Ended t below o ∧ lw_Q a s o t
/-- the law's own end, with 1 on the stack, nothing written that was there before, its room as the claim has it -/
theorem lw_ret {p : Program} {l : Launch} {e : Env} {s : State} {m : MethodId} {below : List Frame} {meth : Method} {c : Code} {b : Nat} (hx : p.tables.exec = Jvm.exec) (hb : c.code = code) (hr : meth.sig.returnType = ret) (hlocks : meth.locks = false) {pc : Nat} {H : Heap} {ls : Array Slot} (hdg : decode code pc = .ok (.ireturn, 1)) : W p l e room_1 s m #[Value.ref b] below meth c H [] 600000 7302250 (lw_Z below #[Value.ref b] s) (F0 m pc ls [.int 1]) := by
  intro T hT X
  obtain ⟨fs, hret, hrun, hended, hW, hframe⟩ := X.leave (v := some (.int 1)) (hlocks := hlocks) (fun h => by rw [hr] at h; cases h)
  have hmeth' : T.vm.method? m = some meth := X.method'
  refine ⟨T.setFrames fs, ?_, .returned (some (.int 1)), hrun, hended, rfl, ⟨_, rfl⟩, hW, hframe⟩
  jvm_step X.here [X.here.top, hx, hb, hdg, hmeth', hr, ret, narrow_b1]
  (try refine ⟨rfl, ?_⟩); (try refine ⟨rfl, ?_⟩)
  first | (intro acts; rw [hret _ acts rfl rfl rfl]) | rw [hret _ _ rfl rfl rfl]
  exact Steps.refl _
/-- what holds at the law's entry: the machine, the code, the tables' words (any of lw_tbl by 'hts w (by decide +kernel)'), the script of L ints xs at the cell b, what the Statement gives of the start (any of its parts by flat_of_before) -/
def lw_At (p : Program) (s : State) (m : MethodId) (meth : Method) (c : Code) (b L : Nat) (xs : Nat → Int32) : Prop :=
  p.tables.exec = Jvm.exec ∧ c.code = code ∧ meth.sig.returnType = ret ∧ c.maxLocals = 4 ∧ s.vm.findClass R_law = some m.cls ∧ (∀ w ∈ lw_tbl, w.before #[Value.ref b] s = true) ∧ va_X b L xs s s.heap ∧ b < s.heap.size ∧ meth.locks = false ∧ (Jvm.Cond.and given_1 narrow_1).before #[Value.ref b] s = true
/-- the law's own end -/
def LQ (x : JX) (bb : Nat) : Prop := match x with
  | (_, _, _, R, s, _, args, below, _, _, _, _, _, _, _, Q) => R = room_1 ∧ args = #[Value.ref bb] ∧ Q = lw_Z below #[Value.ref bb] s
theorem J_law1 {x : JX} {bb pc k n : Nat} {lv : List (Nat × Value)} {h : List MC} (hq : LQ x bb) (hd : decode code pc = .ok (.ireturn, 1)) (hk : k ≤ 600000) (hn : n ≤ 7302250) : J x yL_law code 4 ret 12 600000 7302250 0 pc lv [.int 1] h k n := by
  obtain ⟨p, l, e, R, s, m, args, below, meth, c, b, ca, cA, D, con, Q⟩ := x
  obtain ⟨rfl, rfl, rfl⟩ := hq
  intro O H locs ls hl hP hS
  refine va_forget (fun q hq => ?_) ?_
  · have h1 : b ≤ q.base := hS.2.2 q hq
    have h2 := O.2.2.2.2.2.2.2.2.2.1
    show s.heap.size ≤ q.base
    omega
  · refine W.widen (k := 600000) (n := 7302250) hk hn ?_
    exact lw_ret O.1 O.2.1 O.2.2.2.2.2.1 O.2.2.2.2.2.2.1 hd
theorem hk182 {w : List MC} (h : w.length = 182) : 182 + 0 = w.length := by omega
/-- a fresh class, a fresh reference -/
def ZX (h : List MC) : Prop := h.length = 182 ∧ h[0]? = some (ob10 1) ∧ At h 1 (bk10 1)
def ZM (h : List MC) : Prop := h.length = 182 ∧ h[162]? = some (ob11 163) ∧ At h 163 (bk11 163)
theorem ZM.fx {h h2 : List MC} (hz : ZM h) (hf : FX h h2) : ZM h2 := by
  refine ⟨hf.1.trans hz.1, (hf.2 162 (by decide)).trans hz.2.1, fun i c q => (hf.2 (163 + i) (by omega)).trans (hz.2.2 i c q)⟩
theorem At.head {h B : List MC} {n : Nat} {c : MC} (hb : At h n (c :: B)) : h[n]? = some c := hb 0 c rfl
theorem At.tail {h B : List MC} {n m : Nat} {c : MC} (hm : n + 1 = m) (hb : At h n (c :: B)) : At h m B := by
  subst hm
  intro i x q
  have := hb (i + 1) x q
  rwa [Nat.add_assoc, Nat.add_comm 1 i]
theorem At.left {h A B : List MC} {n : Nat} (hb : At h n (A ++ B)) : At h n A := by
  intro i x q
  exact hb i x (by rw [List.getElem?_append_left (List.getElem?_eq_some_iff.mp q).1]; exact q)
theorem At.right {h A B : List MC} {n m k : Nat} (hm : A.length = m) (hk : n + m = k) (hb : At h n (A ++ B)) : At h k B := by
  subst hk; subst hm
  intro i x q
  have := hb (A.length + i) x (by rw [List.getElem?_append_right (Nat.le_add_right _ _), Nat.add_sub_cancel_left]; exact q)
  rwa [Nat.add_assoc]
theorem zx_0 {h : List MC} (hz : ZX h) : h[0]? = some (.inr (10, [.ref 1, .ref 27, .ref 28, .ref 29, .ref 43, .ref 49, .ref 53, .ref 56, .ref 57, .ref 79])) := hz.2.1
theorem zsX_0 {h : List MC} (hz : ZX h) : At h 1 (ob7 (1 + 1) :: (bk7 (1 + 1) ++ ((.inl (5, 3, .inr (.inr (va_up (va_up (va_up (fun _ => none) ((0 : Int32).toNatClampNeg) (some (84))) ((1 : Int32).toNatClampNeg) (some (110))) ((2 : Int32).toNatClampNeg) (some (136)))))) :: ((.inl (3, 3, .inl (fun _ => 0))) :: (ob3 (1 + 29) :: (bk3 (1 + 29) ++ (ob4 (1 + 43) :: (bk4 (1 + 43) ++ (ob8 (1 + 49) :: (bk8 (1 + 49) ++ (ob5 (1 + 53) :: (bk5 (1 + 53) ++ (ob0 (1 + 56) :: (bk0 (1 + 56) ++ (ob1 (1 + 79) :: (bk1 (1 + 79) ++ (ob7 (1 + 84) :: (bk7 (1 + 84) ++ (ob7 (1 + 110) :: (bk7 (1 + 110) ++ (ob7 (1 + 136) :: (bk7 (1 + 136) ++ ([]))))))))))))))))))))))) := hz.2.2
theorem zx_1 {h : List MC} (hz : ZX h) : h[1]? = some (.inr (7, [.ref 2, .int 0, .int 0, .int (-1), .ref 3, .int 0, .ref 4, .int 0])) := At.head (zsX_0 hz)
theorem zsX_1 {h : List MC} (hz : ZX h) : At h 2 (bk7 (1 + 1) ++ ((.inl (5, 3, .inr (.inr (va_up (va_up (va_up (fun _ => none) ((0 : Int32).toNatClampNeg) (some (84))) ((1 : Int32).toNatClampNeg) (some (110))) ((2 : Int32).toNatClampNeg) (some (136)))))) :: ((.inl (3, 3, .inl (fun _ => 0))) :: (ob3 (1 + 29) :: (bk3 (1 + 29) ++ (ob4 (1 + 43) :: (bk4 (1 + 43) ++ (ob8 (1 + 49) :: (bk8 (1 + 49) ++ (ob5 (1 + 53) :: (bk5 (1 + 53) ++ (ob0 (1 + 56) :: (bk0 (1 + 56) ++ (ob1 (1 + 79) :: (bk1 (1 + 79) ++ (ob7 (1 + 84) :: (bk7 (1 + 84) ++ (ob7 (1 + 110) :: (bk7 (1 + 110) ++ (ob7 (1 + 136) :: (bk7 (1 + 136) ++ ([])))))))))))))))))))))) := At.tail rfl (zsX_0 hz)
theorem zbX_1 {h : List MC} (hz : ZX h) : At h 2 (bk7 (1 + 1)) := At.left (zsX_1 hz)
theorem zx_2 {h : List MC} (hz : ZX h) : h[2]? = some (.inl (0, 600, .inl (fun _ => 0))) := zbX_1 hz 0 _ rfl
theorem zx_3 {h : List MC} (hz : ZX h) : h[3]? = some (.inl (4, 2, .inr (.inr (va_up (va_up (fun _ => none) ((0 : Int32).toNatClampNeg) (some (5))) ((1 : Int32).toNatClampNeg) (some (10)))))) := zbX_1 hz 1 _ rfl
theorem zx_4 {h : List MC} (hz : ZX h) : h[4]? = some (.inl (6, 3, .inr (.inr (va_up (va_up (va_up (fun _ => none) ((0 : Int32).toNatClampNeg) (some (15))) ((1 : Int32).toNatClampNeg) (some (19))) ((2 : Int32).toNatClampNeg) (some (23)))))) := zbX_1 hz 2 _ rfl
theorem zx_5 {h : List MC} (hz : ZX h) : h[5]? = some (.inr (1, [.int 0, .ref 6, .int 0, .ref 7, .ref 8, .ref 9])) := zbX_1 hz 3 _ rfl
theorem zx_6 {h : List MC} (hz : ZX h) : h[6]? = some (.inl (1, 144, .inl (fun _ => 0))) := zbX_1 hz 4 _ rfl
theorem zx_7 {h : List MC} (hz : ZX h) : h[7]? = some (.inl (1, 4, .inl (fun _ => 0))) := zbX_1 hz 5 _ rfl
theorem zx_8 {h : List MC} (hz : ZX h) : h[8]? = some (.inl (1, 4, .inl (fun _ => 0))) := zbX_1 hz 6 _ rfl
theorem zx_9 {h : List MC} (hz : ZX h) : h[9]? = some (.inl (1, 3, .inl (fun _ => 0))) := zbX_1 hz 7 _ rfl
theorem zx_10 {h : List MC} (hz : ZX h) : h[10]? = some (.inr (1, [.int 0, .ref 11, .int 0, .ref 12, .ref 13, .ref 14])) := zbX_1 hz 8 _ rfl
theorem zx_11 {h : List MC} (hz : ZX h) : h[11]? = some (.inl (1, 144, .inl (fun _ => 0))) := zbX_1 hz 9 _ rfl
theorem zx_12 {h : List MC} (hz : ZX h) : h[12]? = some (.inl (1, 4, .inl (fun _ => 0))) := zbX_1 hz 10 _ rfl
theorem zx_13 {h : List MC} (hz : ZX h) : h[13]? = some (.inl (1, 4, .inl (fun _ => 0))) := zbX_1 hz 11 _ rfl
theorem zx_14 {h : List MC} (hz : ZX h) : h[14]? = some (.inl (1, 3, .inl (fun _ => 0))) := zbX_1 hz 12 _ rfl
theorem zx_15 {h : List MC} (hz : ZX h) : h[15]? = some (.inr (8, [.int 0, .ref 16, .ref 17, .ref 18])) := zbX_1 hz 13 _ rfl
theorem zx_16 {h : List MC} (hz : ZX h) : h[16]? = some (.inl (1, 12, .inl (fun _ => 0))) := zbX_1 hz 14 _ rfl
theorem zx_17 {h : List MC} (hz : ZX h) : h[17]? = some (.inl (1, 12, .inl (fun _ => 0))) := zbX_1 hz 15 _ rfl
theorem zx_18 {h : List MC} (hz : ZX h) : h[18]? = some (.inl (1, 12, .inl (fun _ => 0))) := zbX_1 hz 16 _ rfl
theorem zx_19 {h : List MC} (hz : ZX h) : h[19]? = some (.inr (8, [.int 0, .ref 20, .ref 21, .ref 22])) := zbX_1 hz 17 _ rfl
theorem zx_20 {h : List MC} (hz : ZX h) : h[20]? = some (.inl (1, 12, .inl (fun _ => 0))) := zbX_1 hz 18 _ rfl
theorem zx_21 {h : List MC} (hz : ZX h) : h[21]? = some (.inl (1, 12, .inl (fun _ => 0))) := zbX_1 hz 19 _ rfl
theorem zx_22 {h : List MC} (hz : ZX h) : h[22]? = some (.inl (1, 12, .inl (fun _ => 0))) := zbX_1 hz 20 _ rfl
theorem zx_23 {h : List MC} (hz : ZX h) : h[23]? = some (.inr (8, [.int 0, .ref 24, .ref 25, .ref 26])) := zbX_1 hz 21 _ rfl
theorem zx_24 {h : List MC} (hz : ZX h) : h[24]? = some (.inl (1, 12, .inl (fun _ => 0))) := zbX_1 hz 22 _ rfl
theorem zx_25 {h : List MC} (hz : ZX h) : h[25]? = some (.inl (1, 12, .inl (fun _ => 0))) := zbX_1 hz 23 _ rfl
theorem zx_26 {h : List MC} (hz : ZX h) : h[26]? = some (.inl (1, 12, .inl (fun _ => 0))) := zbX_1 hz 24 _ rfl
theorem zsX_2 {h : List MC} (hz : ZX h) : At h 27 ((.inl (5, 3, .inr (.inr (va_up (va_up (va_up (fun _ => none) ((0 : Int32).toNatClampNeg) (some (84))) ((1 : Int32).toNatClampNeg) (some (110))) ((2 : Int32).toNatClampNeg) (some (136)))))) :: ((.inl (3, 3, .inl (fun _ => 0))) :: (ob3 (1 + 29) :: (bk3 (1 + 29) ++ (ob4 (1 + 43) :: (bk4 (1 + 43) ++ (ob8 (1 + 49) :: (bk8 (1 + 49) ++ (ob5 (1 + 53) :: (bk5 (1 + 53) ++ (ob0 (1 + 56) :: (bk0 (1 + 56) ++ (ob1 (1 + 79) :: (bk1 (1 + 79) ++ (ob7 (1 + 84) :: (bk7 (1 + 84) ++ (ob7 (1 + 110) :: (bk7 (1 + 110) ++ (ob7 (1 + 136) :: (bk7 (1 + 136) ++ ([]))))))))))))))))))))) := At.right bl7 rfl (zsX_1 hz)
theorem zx_27 {h : List MC} (hz : ZX h) : h[27]? = some (.inl (5, 3, .inr (.inr (va_up (va_up (va_up (fun _ => none) ((0 : Int32).toNatClampNeg) (some (84))) ((1 : Int32).toNatClampNeg) (some (110))) ((2 : Int32).toNatClampNeg) (some (136)))))) := At.head (zsX_2 hz)
theorem zsX_3 {h : List MC} (hz : ZX h) : At h 28 ((.inl (3, 3, .inl (fun _ => 0))) :: (ob3 (1 + 29) :: (bk3 (1 + 29) ++ (ob4 (1 + 43) :: (bk4 (1 + 43) ++ (ob8 (1 + 49) :: (bk8 (1 + 49) ++ (ob5 (1 + 53) :: (bk5 (1 + 53) ++ (ob0 (1 + 56) :: (bk0 (1 + 56) ++ (ob1 (1 + 79) :: (bk1 (1 + 79) ++ (ob7 (1 + 84) :: (bk7 (1 + 84) ++ (ob7 (1 + 110) :: (bk7 (1 + 110) ++ (ob7 (1 + 136) :: (bk7 (1 + 136) ++ ([])))))))))))))))))))) := At.tail rfl (zsX_2 hz)
theorem zx_28 {h : List MC} (hz : ZX h) : h[28]? = some (.inl (3, 3, .inl (fun _ => 0))) := At.head (zsX_3 hz)
theorem zsX_4 {h : List MC} (hz : ZX h) : At h 29 (ob3 (1 + 29) :: (bk3 (1 + 29) ++ (ob4 (1 + 43) :: (bk4 (1 + 43) ++ (ob8 (1 + 49) :: (bk8 (1 + 49) ++ (ob5 (1 + 53) :: (bk5 (1 + 53) ++ (ob0 (1 + 56) :: (bk0 (1 + 56) ++ (ob1 (1 + 79) :: (bk1 (1 + 79) ++ (ob7 (1 + 84) :: (bk7 (1 + 84) ++ (ob7 (1 + 110) :: (bk7 (1 + 110) ++ (ob7 (1 + 136) :: (bk7 (1 + 136) ++ ([]))))))))))))))))))) := At.tail rfl (zsX_3 hz)
theorem zx_29 {h : List MC} (hz : ZX h) : h[29]? = some (.inr (3, [.ref 30, .ref 32, .ref 37, .ref 41, .ref 42, .int 0, .int (-1)])) := At.head (zsX_4 hz)
theorem zsX_5 {h : List MC} (hz : ZX h) : At h 30 (bk3 (1 + 29) ++ (ob4 (1 + 43) :: (bk4 (1 + 43) ++ (ob8 (1 + 49) :: (bk8 (1 + 49) ++ (ob5 (1 + 53) :: (bk5 (1 + 53) ++ (ob0 (1 + 56) :: (bk0 (1 + 56) ++ (ob1 (1 + 79) :: (bk1 (1 + 79) ++ (ob7 (1 + 84) :: (bk7 (1 + 84) ++ (ob7 (1 + 110) :: (bk7 (1 + 110) ++ (ob7 (1 + 136) :: (bk7 (1 + 136) ++ ([])))))))))))))))))) := At.tail rfl (zsX_4 hz)
theorem zbX_5 {h : List MC} (hz : ZX h) : At h 30 (bk3 (1 + 29)) := At.left (zsX_5 hz)
theorem zx_30 {h : List MC} (hz : ZX h) : h[30]? = some (.inr (6, [.ref 31, .int 0, .int 0, .int 0, .int 0, .int 0])) := zbX_5 hz 0 _ rfl
theorem zx_31 {h : List MC} (hz : ZX h) : h[31]? = some (.inl (0, 0, .inl (fun _ => 0))) := zbX_5 hz 1 _ rfl
theorem zx_32 {h : List MC} (hz : ZX h) : h[32]? = some (.inr (1, [.int 0, .ref 33, .int 0, .ref 34, .ref 35, .ref 36])) := zbX_5 hz 2 _ rfl
theorem zx_33 {h : List MC} (hz : ZX h) : h[33]? = some (.inl (1, 144, .inl (fun _ => 0))) := zbX_5 hz 3 _ rfl
theorem zx_34 {h : List MC} (hz : ZX h) : h[34]? = some (.inl (1, 4, .inl (fun _ => 0))) := zbX_5 hz 4 _ rfl
theorem zx_35 {h : List MC} (hz : ZX h) : h[35]? = some (.inl (1, 4, .inl (fun _ => 0))) := zbX_5 hz 5 _ rfl
theorem zx_36 {h : List MC} (hz : ZX h) : h[36]? = some (.inl (1, 3, .inl (fun _ => 0))) := zbX_5 hz 6 _ rfl
theorem zx_37 {h : List MC} (hz : ZX h) : h[37]? = some (.inr (8, [.int 0, .ref 38, .ref 39, .ref 40])) := zbX_5 hz 7 _ rfl
theorem zx_38 {h : List MC} (hz : ZX h) : h[38]? = some (.inl (1, 12, .inl (fun _ => 0))) := zbX_5 hz 8 _ rfl
theorem zx_39 {h : List MC} (hz : ZX h) : h[39]? = some (.inl (1, 12, .inl (fun _ => 0))) := zbX_5 hz 9 _ rfl
theorem zx_40 {h : List MC} (hz : ZX h) : h[40]? = some (.inl (1, 12, .inl (fun _ => 0))) := zbX_5 hz 10 _ rfl
theorem zx_41 {h : List MC} (hz : ZX h) : h[41]? = some (.inl (1, 3, .inl (fun _ => 0))) := zbX_5 hz 11 _ rfl
theorem zx_42 {h : List MC} (hz : ZX h) : h[42]? = some (.inl (1, 3, .inl (fun _ => 0))) := zbX_5 hz 12 _ rfl
theorem zsX_6 {h : List MC} (hz : ZX h) : At h 43 (ob4 (1 + 43) :: (bk4 (1 + 43) ++ (ob8 (1 + 49) :: (bk8 (1 + 49) ++ (ob5 (1 + 53) :: (bk5 (1 + 53) ++ (ob0 (1 + 56) :: (bk0 (1 + 56) ++ (ob1 (1 + 79) :: (bk1 (1 + 79) ++ (ob7 (1 + 84) :: (bk7 (1 + 84) ++ (ob7 (1 + 110) :: (bk7 (1 + 110) ++ (ob7 (1 + 136) :: (bk7 (1 + 136) ++ ([]))))))))))))))))) := At.right bl3 rfl (zsX_5 hz)
theorem zx_43 {h : List MC} (hz : ZX h) : h[43]? = some (.inr (4, [.ref 44, .int 0, .int 0, .int 0])) := At.head (zsX_6 hz)
theorem zsX_7 {h : List MC} (hz : ZX h) : At h 44 (bk4 (1 + 43) ++ (ob8 (1 + 49) :: (bk8 (1 + 49) ++ (ob5 (1 + 53) :: (bk5 (1 + 53) ++ (ob0 (1 + 56) :: (bk0 (1 + 56) ++ (ob1 (1 + 79) :: (bk1 (1 + 79) ++ (ob7 (1 + 84) :: (bk7 (1 + 84) ++ (ob7 (1 + 110) :: (bk7 (1 + 110) ++ (ob7 (1 + 136) :: (bk7 (1 + 136) ++ ([])))))))))))))))) := At.tail rfl (zsX_6 hz)
theorem zbX_7 {h : List MC} (hz : ZX h) : At h 44 (bk4 (1 + 43)) := At.left (zsX_7 hz)
theorem zx_44 {h : List MC} (hz : ZX h) : h[44]? = some (.inr (1, [.int 0, .ref 45, .int 0, .ref 46, .ref 47, .ref 48])) := zbX_7 hz 0 _ rfl
theorem zx_45 {h : List MC} (hz : ZX h) : h[45]? = some (.inl (1, 144, .inl (fun _ => 0))) := zbX_7 hz 1 _ rfl
theorem zx_46 {h : List MC} (hz : ZX h) : h[46]? = some (.inl (1, 4, .inl (fun _ => 0))) := zbX_7 hz 2 _ rfl
theorem zx_47 {h : List MC} (hz : ZX h) : h[47]? = some (.inl (1, 4, .inl (fun _ => 0))) := zbX_7 hz 3 _ rfl
theorem zx_48 {h : List MC} (hz : ZX h) : h[48]? = some (.inl (1, 3, .inl (fun _ => 0))) := zbX_7 hz 4 _ rfl
theorem zsX_8 {h : List MC} (hz : ZX h) : At h 49 (ob8 (1 + 49) :: (bk8 (1 + 49) ++ (ob5 (1 + 53) :: (bk5 (1 + 53) ++ (ob0 (1 + 56) :: (bk0 (1 + 56) ++ (ob1 (1 + 79) :: (bk1 (1 + 79) ++ (ob7 (1 + 84) :: (bk7 (1 + 84) ++ (ob7 (1 + 110) :: (bk7 (1 + 110) ++ (ob7 (1 + 136) :: (bk7 (1 + 136) ++ ([]))))))))))))))) := At.right bl4 rfl (zsX_7 hz)
theorem zx_49 {h : List MC} (hz : ZX h) : h[49]? = some (.inr (8, [.int 0, .ref 50, .ref 51, .ref 52])) := At.head (zsX_8 hz)
theorem zsX_9 {h : List MC} (hz : ZX h) : At h 50 (bk8 (1 + 49) ++ (ob5 (1 + 53) :: (bk5 (1 + 53) ++ (ob0 (1 + 56) :: (bk0 (1 + 56) ++ (ob1 (1 + 79) :: (bk1 (1 + 79) ++ (ob7 (1 + 84) :: (bk7 (1 + 84) ++ (ob7 (1 + 110) :: (bk7 (1 + 110) ++ (ob7 (1 + 136) :: (bk7 (1 + 136) ++ ([])))))))))))))) := At.tail rfl (zsX_8 hz)
theorem zbX_9 {h : List MC} (hz : ZX h) : At h 50 (bk8 (1 + 49)) := At.left (zsX_9 hz)
theorem zx_50 {h : List MC} (hz : ZX h) : h[50]? = some (.inl (1, 12, .inl (fun _ => 0))) := zbX_9 hz 0 _ rfl
theorem zx_51 {h : List MC} (hz : ZX h) : h[51]? = some (.inl (1, 12, .inl (fun _ => 0))) := zbX_9 hz 1 _ rfl
theorem zx_52 {h : List MC} (hz : ZX h) : h[52]? = some (.inl (1, 12, .inl (fun _ => 0))) := zbX_9 hz 2 _ rfl
theorem zsX_10 {h : List MC} (hz : ZX h) : At h 53 (ob5 (1 + 53) :: (bk5 (1 + 53) ++ (ob0 (1 + 56) :: (bk0 (1 + 56) ++ (ob1 (1 + 79) :: (bk1 (1 + 79) ++ (ob7 (1 + 84) :: (bk7 (1 + 84) ++ (ob7 (1 + 110) :: (bk7 (1 + 110) ++ (ob7 (1 + 136) :: (bk7 (1 + 136) ++ ([]))))))))))))) := At.right bl8 rfl (zsX_9 hz)
theorem zx_53 {h : List MC} (hz : ZX h) : h[53]? = some (.inr (5, [.int 0, .int 0, .int 0, .int 0, .int 0, .ref 54, .ref 55])) := At.head (zsX_10 hz)
theorem zsX_11 {h : List MC} (hz : ZX h) : At h 54 (bk5 (1 + 53) ++ (ob0 (1 + 56) :: (bk0 (1 + 56) ++ (ob1 (1 + 79) :: (bk1 (1 + 79) ++ (ob7 (1 + 84) :: (bk7 (1 + 84) ++ (ob7 (1 + 110) :: (bk7 (1 + 110) ++ (ob7 (1 + 136) :: (bk7 (1 + 136) ++ ([])))))))))))) := At.tail rfl (zsX_10 hz)
theorem zbX_11 {h : List MC} (hz : ZX h) : At h 54 (bk5 (1 + 53)) := At.left (zsX_11 hz)
theorem zx_54 {h : List MC} (hz : ZX h) : h[54]? = some (.inl (1, 9, .inl (fun _ => 0))) := zbX_11 hz 0 _ rfl
theorem zx_55 {h : List MC} (hz : ZX h) : h[55]? = some (.inl (1, 9, .inl (fun _ => 0))) := zbX_11 hz 1 _ rfl
theorem zsX_12 {h : List MC} (hz : ZX h) : At h 56 (ob0 (1 + 56) :: (bk0 (1 + 56) ++ (ob1 (1 + 79) :: (bk1 (1 + 79) ++ (ob7 (1 + 84) :: (bk7 (1 + 84) ++ (ob7 (1 + 110) :: (bk7 (1 + 110) ++ (ob7 (1 + 136) :: (bk7 (1 + 136) ++ ([]))))))))))) := At.right bl5 rfl (zsX_11 hz)
theorem zx_56 {h : List MC} (hz : ZX h) : h[56]? = some (.inr (0, [.ref 57, .ref 70, .int (-1), .int (-1), .long 0, .int 0, .ref 75, .ref 76, .ref 77, .ref 78])) := At.head (zsX_12 hz)
theorem zsX_13 {h : List MC} (hz : ZX h) : At h 57 (bk0 (1 + 56) ++ (ob1 (1 + 79) :: (bk1 (1 + 79) ++ (ob7 (1 + 84) :: (bk7 (1 + 84) ++ (ob7 (1 + 110) :: (bk7 (1 + 110) ++ (ob7 (1 + 136) :: (bk7 (1 + 136) ++ ([])))))))))) := At.tail rfl (zsX_12 hz)
theorem zbX_13 {h : List MC} (hz : ZX h) : At h 57 (bk0 (1 + 56)) := At.left (zsX_13 hz)
theorem zx_57 {h : List MC} (hz : ZX h) : h[57]? = some (.inr (2, [.ref 58, .ref 61, .ref 66, .ref 67, .ref 68, .ref 69])) := zbX_13 hz 0 _ rfl
theorem zx_58 {h : List MC} (hz : ZX h) : h[58]? = some (.inr (5, [.int 0, .int 0, .int 0, .int 0, .int 0, .ref 59, .ref 60])) := zbX_13 hz 1 _ rfl
theorem zx_59 {h : List MC} (hz : ZX h) : h[59]? = some (.inl (1, 9, .inl (fun _ => 0))) := zbX_13 hz 2 _ rfl
theorem zx_60 {h : List MC} (hz : ZX h) : h[60]? = some (.inl (1, 9, .inl (fun _ => 0))) := zbX_13 hz 3 _ rfl
theorem zx_61 {h : List MC} (hz : ZX h) : h[61]? = some (.inr (1, [.int 0, .ref 62, .int 0, .ref 63, .ref 64, .ref 65])) := zbX_13 hz 4 _ rfl
theorem zx_62 {h : List MC} (hz : ZX h) : h[62]? = some (.inl (1, 144, .inl (fun _ => 0))) := zbX_13 hz 5 _ rfl
theorem zx_63 {h : List MC} (hz : ZX h) : h[63]? = some (.inl (1, 4, .inl (fun _ => 0))) := zbX_13 hz 6 _ rfl
theorem zx_64 {h : List MC} (hz : ZX h) : h[64]? = some (.inl (1, 4, .inl (fun _ => 0))) := zbX_13 hz 7 _ rfl
theorem zx_65 {h : List MC} (hz : ZX h) : h[65]? = some (.inl (1, 3, .inl (fun _ => 0))) := zbX_13 hz 8 _ rfl
theorem zx_66 {h : List MC} (hz : ZX h) : h[66]? = some (.inl (1, 2048, .inl (fun _ => 0))) := zbX_13 hz 9 _ rfl
theorem zx_67 {h : List MC} (hz : ZX h) : h[67]? = some (.inl (1, 512, .inl (fun _ => 0))) := zbX_13 hz 10 _ rfl
theorem zx_68 {h : List MC} (hz : ZX h) : h[68]? = some (.inl (2, 512, .inr (.inl (fun _ => 0)))) := zbX_13 hz 11 _ rfl
theorem zx_69 {h : List MC} (hz : ZX h) : h[69]? = some (.inl (2, 512, .inr (.inl (fun _ => 0)))) := zbX_13 hz 12 _ rfl
theorem zx_70 {h : List MC} (hz : ZX h) : h[70]? = some (.inr (1, [.int 0, .ref 71, .int 0, .ref 72, .ref 73, .ref 74])) := zbX_13 hz 13 _ rfl
theorem zx_71 {h : List MC} (hz : ZX h) : h[71]? = some (.inl (1, 144, .inl (fun _ => 0))) := zbX_13 hz 14 _ rfl
theorem zx_72 {h : List MC} (hz : ZX h) : h[72]? = some (.inl (1, 4, .inl (fun _ => 0))) := zbX_13 hz 15 _ rfl
theorem zx_73 {h : List MC} (hz : ZX h) : h[73]? = some (.inl (1, 4, .inl (fun _ => 0))) := zbX_13 hz 16 _ rfl
theorem zx_74 {h : List MC} (hz : ZX h) : h[74]? = some (.inl (1, 3, .inl (fun _ => 0))) := zbX_13 hz 17 _ rfl
theorem zx_75 {h : List MC} (hz : ZX h) : h[75]? = some (.inl (1, 4, .inl (fun _ => 0))) := zbX_13 hz 18 _ rfl
theorem zx_76 {h : List MC} (hz : ZX h) : h[76]? = some (.inl (1, 4, .inl (fun _ => 0))) := zbX_13 hz 19 _ rfl
theorem zx_77 {h : List MC} (hz : ZX h) : h[77]? = some (.inl (1, 4, .inl (fun _ => 0))) := zbX_13 hz 20 _ rfl
theorem zx_78 {h : List MC} (hz : ZX h) : h[78]? = some (.inl (2, 16, .inr (.inl (fun _ => 0)))) := zbX_13 hz 21 _ rfl
theorem zsX_14 {h : List MC} (hz : ZX h) : At h 79 (ob1 (1 + 79) :: (bk1 (1 + 79) ++ (ob7 (1 + 84) :: (bk7 (1 + 84) ++ (ob7 (1 + 110) :: (bk7 (1 + 110) ++ (ob7 (1 + 136) :: (bk7 (1 + 136) ++ ([]))))))))) := At.right bl0 rfl (zsX_13 hz)
theorem zx_79 {h : List MC} (hz : ZX h) : h[79]? = some (.inr (1, [.int 0, .ref 80, .int 0, .ref 81, .ref 82, .ref 83])) := At.head (zsX_14 hz)
theorem zsX_15 {h : List MC} (hz : ZX h) : At h 80 (bk1 (1 + 79) ++ (ob7 (1 + 84) :: (bk7 (1 + 84) ++ (ob7 (1 + 110) :: (bk7 (1 + 110) ++ (ob7 (1 + 136) :: (bk7 (1 + 136) ++ ([])))))))) := At.tail rfl (zsX_14 hz)
theorem zbX_15 {h : List MC} (hz : ZX h) : At h 80 (bk1 (1 + 79)) := At.left (zsX_15 hz)
theorem zx_80 {h : List MC} (hz : ZX h) : h[80]? = some (.inl (1, 144, .inl (fun _ => 0))) := zbX_15 hz 0 _ rfl
theorem zx_81 {h : List MC} (hz : ZX h) : h[81]? = some (.inl (1, 4, .inl (fun _ => 0))) := zbX_15 hz 1 _ rfl
theorem zx_82 {h : List MC} (hz : ZX h) : h[82]? = some (.inl (1, 4, .inl (fun _ => 0))) := zbX_15 hz 2 _ rfl
theorem zx_83 {h : List MC} (hz : ZX h) : h[83]? = some (.inl (1, 3, .inl (fun _ => 0))) := zbX_15 hz 3 _ rfl
theorem zsX_16 {h : List MC} (hz : ZX h) : At h 84 (ob7 (1 + 84) :: (bk7 (1 + 84) ++ (ob7 (1 + 110) :: (bk7 (1 + 110) ++ (ob7 (1 + 136) :: (bk7 (1 + 136) ++ ([]))))))) := At.right bl1 rfl (zsX_15 hz)
theorem zx_84 {h : List MC} (hz : ZX h) : h[84]? = some (.inr (7, [.ref 85, .int 0, .int 0, .int (-1), .ref 86, .int 0, .ref 87, .int 0])) := At.head (zsX_16 hz)
theorem zsX_17 {h : List MC} (hz : ZX h) : At h 85 (bk7 (1 + 84) ++ (ob7 (1 + 110) :: (bk7 (1 + 110) ++ (ob7 (1 + 136) :: (bk7 (1 + 136) ++ ([])))))) := At.tail rfl (zsX_16 hz)
theorem zbX_17 {h : List MC} (hz : ZX h) : At h 85 (bk7 (1 + 84)) := At.left (zsX_17 hz)
theorem zx_85 {h : List MC} (hz : ZX h) : h[85]? = some (.inl (0, 600, .inl (fun _ => 0))) := zbX_17 hz 0 _ rfl
theorem zx_86 {h : List MC} (hz : ZX h) : h[86]? = some (.inl (4, 2, .inr (.inr (va_up (va_up (fun _ => none) ((0 : Int32).toNatClampNeg) (some (88))) ((1 : Int32).toNatClampNeg) (some (93)))))) := zbX_17 hz 1 _ rfl
theorem zx_87 {h : List MC} (hz : ZX h) : h[87]? = some (.inl (6, 3, .inr (.inr (va_up (va_up (va_up (fun _ => none) ((0 : Int32).toNatClampNeg) (some (98))) ((1 : Int32).toNatClampNeg) (some (102))) ((2 : Int32).toNatClampNeg) (some (106)))))) := zbX_17 hz 2 _ rfl
theorem zx_88 {h : List MC} (hz : ZX h) : h[88]? = some (.inr (1, [.int 0, .ref 89, .int 0, .ref 90, .ref 91, .ref 92])) := zbX_17 hz 3 _ rfl
theorem zx_89 {h : List MC} (hz : ZX h) : h[89]? = some (.inl (1, 144, .inl (fun _ => 0))) := zbX_17 hz 4 _ rfl
theorem zx_90 {h : List MC} (hz : ZX h) : h[90]? = some (.inl (1, 4, .inl (fun _ => 0))) := zbX_17 hz 5 _ rfl
theorem zx_91 {h : List MC} (hz : ZX h) : h[91]? = some (.inl (1, 4, .inl (fun _ => 0))) := zbX_17 hz 6 _ rfl
theorem zx_92 {h : List MC} (hz : ZX h) : h[92]? = some (.inl (1, 3, .inl (fun _ => 0))) := zbX_17 hz 7 _ rfl
theorem zx_93 {h : List MC} (hz : ZX h) : h[93]? = some (.inr (1, [.int 0, .ref 94, .int 0, .ref 95, .ref 96, .ref 97])) := zbX_17 hz 8 _ rfl
theorem zx_94 {h : List MC} (hz : ZX h) : h[94]? = some (.inl (1, 144, .inl (fun _ => 0))) := zbX_17 hz 9 _ rfl
theorem zx_95 {h : List MC} (hz : ZX h) : h[95]? = some (.inl (1, 4, .inl (fun _ => 0))) := zbX_17 hz 10 _ rfl
theorem zx_96 {h : List MC} (hz : ZX h) : h[96]? = some (.inl (1, 4, .inl (fun _ => 0))) := zbX_17 hz 11 _ rfl
theorem zx_97 {h : List MC} (hz : ZX h) : h[97]? = some (.inl (1, 3, .inl (fun _ => 0))) := zbX_17 hz 12 _ rfl
theorem zx_98 {h : List MC} (hz : ZX h) : h[98]? = some (.inr (8, [.int 0, .ref 99, .ref 100, .ref 101])) := zbX_17 hz 13 _ rfl
theorem zx_99 {h : List MC} (hz : ZX h) : h[99]? = some (.inl (1, 12, .inl (fun _ => 0))) := zbX_17 hz 14 _ rfl
theorem zx_100 {h : List MC} (hz : ZX h) : h[100]? = some (.inl (1, 12, .inl (fun _ => 0))) := zbX_17 hz 15 _ rfl
theorem zx_101 {h : List MC} (hz : ZX h) : h[101]? = some (.inl (1, 12, .inl (fun _ => 0))) := zbX_17 hz 16 _ rfl
theorem zx_102 {h : List MC} (hz : ZX h) : h[102]? = some (.inr (8, [.int 0, .ref 103, .ref 104, .ref 105])) := zbX_17 hz 17 _ rfl
theorem zx_103 {h : List MC} (hz : ZX h) : h[103]? = some (.inl (1, 12, .inl (fun _ => 0))) := zbX_17 hz 18 _ rfl
theorem zx_104 {h : List MC} (hz : ZX h) : h[104]? = some (.inl (1, 12, .inl (fun _ => 0))) := zbX_17 hz 19 _ rfl
theorem zx_105 {h : List MC} (hz : ZX h) : h[105]? = some (.inl (1, 12, .inl (fun _ => 0))) := zbX_17 hz 20 _ rfl
theorem zx_106 {h : List MC} (hz : ZX h) : h[106]? = some (.inr (8, [.int 0, .ref 107, .ref 108, .ref 109])) := zbX_17 hz 21 _ rfl
theorem zx_107 {h : List MC} (hz : ZX h) : h[107]? = some (.inl (1, 12, .inl (fun _ => 0))) := zbX_17 hz 22 _ rfl
theorem zx_108 {h : List MC} (hz : ZX h) : h[108]? = some (.inl (1, 12, .inl (fun _ => 0))) := zbX_17 hz 23 _ rfl
theorem zx_109 {h : List MC} (hz : ZX h) : h[109]? = some (.inl (1, 12, .inl (fun _ => 0))) := zbX_17 hz 24 _ rfl
theorem zsX_18 {h : List MC} (hz : ZX h) : At h 110 (ob7 (1 + 110) :: (bk7 (1 + 110) ++ (ob7 (1 + 136) :: (bk7 (1 + 136) ++ ([]))))) := At.right bl7 rfl (zsX_17 hz)
theorem zx_110 {h : List MC} (hz : ZX h) : h[110]? = some (.inr (7, [.ref 111, .int 0, .int 0, .int (-1), .ref 112, .int 0, .ref 113, .int 0])) := At.head (zsX_18 hz)
theorem zsX_19 {h : List MC} (hz : ZX h) : At h 111 (bk7 (1 + 110) ++ (ob7 (1 + 136) :: (bk7 (1 + 136) ++ ([])))) := At.tail rfl (zsX_18 hz)
theorem zbX_19 {h : List MC} (hz : ZX h) : At h 111 (bk7 (1 + 110)) := At.left (zsX_19 hz)
theorem zx_111 {h : List MC} (hz : ZX h) : h[111]? = some (.inl (0, 600, .inl (fun _ => 0))) := zbX_19 hz 0 _ rfl
theorem zx_112 {h : List MC} (hz : ZX h) : h[112]? = some (.inl (4, 2, .inr (.inr (va_up (va_up (fun _ => none) ((0 : Int32).toNatClampNeg) (some (114))) ((1 : Int32).toNatClampNeg) (some (119)))))) := zbX_19 hz 1 _ rfl
theorem zx_113 {h : List MC} (hz : ZX h) : h[113]? = some (.inl (6, 3, .inr (.inr (va_up (va_up (va_up (fun _ => none) ((0 : Int32).toNatClampNeg) (some (124))) ((1 : Int32).toNatClampNeg) (some (128))) ((2 : Int32).toNatClampNeg) (some (132)))))) := zbX_19 hz 2 _ rfl
theorem zx_114 {h : List MC} (hz : ZX h) : h[114]? = some (.inr (1, [.int 0, .ref 115, .int 0, .ref 116, .ref 117, .ref 118])) := zbX_19 hz 3 _ rfl
theorem zx_115 {h : List MC} (hz : ZX h) : h[115]? = some (.inl (1, 144, .inl (fun _ => 0))) := zbX_19 hz 4 _ rfl
theorem zx_116 {h : List MC} (hz : ZX h) : h[116]? = some (.inl (1, 4, .inl (fun _ => 0))) := zbX_19 hz 5 _ rfl
theorem zx_117 {h : List MC} (hz : ZX h) : h[117]? = some (.inl (1, 4, .inl (fun _ => 0))) := zbX_19 hz 6 _ rfl
theorem zx_118 {h : List MC} (hz : ZX h) : h[118]? = some (.inl (1, 3, .inl (fun _ => 0))) := zbX_19 hz 7 _ rfl
theorem zx_119 {h : List MC} (hz : ZX h) : h[119]? = some (.inr (1, [.int 0, .ref 120, .int 0, .ref 121, .ref 122, .ref 123])) := zbX_19 hz 8 _ rfl
theorem zx_120 {h : List MC} (hz : ZX h) : h[120]? = some (.inl (1, 144, .inl (fun _ => 0))) := zbX_19 hz 9 _ rfl
theorem zx_121 {h : List MC} (hz : ZX h) : h[121]? = some (.inl (1, 4, .inl (fun _ => 0))) := zbX_19 hz 10 _ rfl
theorem zx_122 {h : List MC} (hz : ZX h) : h[122]? = some (.inl (1, 4, .inl (fun _ => 0))) := zbX_19 hz 11 _ rfl
theorem zx_123 {h : List MC} (hz : ZX h) : h[123]? = some (.inl (1, 3, .inl (fun _ => 0))) := zbX_19 hz 12 _ rfl
theorem zx_124 {h : List MC} (hz : ZX h) : h[124]? = some (.inr (8, [.int 0, .ref 125, .ref 126, .ref 127])) := zbX_19 hz 13 _ rfl
theorem zx_125 {h : List MC} (hz : ZX h) : h[125]? = some (.inl (1, 12, .inl (fun _ => 0))) := zbX_19 hz 14 _ rfl
theorem zx_126 {h : List MC} (hz : ZX h) : h[126]? = some (.inl (1, 12, .inl (fun _ => 0))) := zbX_19 hz 15 _ rfl
theorem zx_127 {h : List MC} (hz : ZX h) : h[127]? = some (.inl (1, 12, .inl (fun _ => 0))) := zbX_19 hz 16 _ rfl
theorem zx_128 {h : List MC} (hz : ZX h) : h[128]? = some (.inr (8, [.int 0, .ref 129, .ref 130, .ref 131])) := zbX_19 hz 17 _ rfl
theorem zx_129 {h : List MC} (hz : ZX h) : h[129]? = some (.inl (1, 12, .inl (fun _ => 0))) := zbX_19 hz 18 _ rfl
theorem zx_130 {h : List MC} (hz : ZX h) : h[130]? = some (.inl (1, 12, .inl (fun _ => 0))) := zbX_19 hz 19 _ rfl
theorem zx_131 {h : List MC} (hz : ZX h) : h[131]? = some (.inl (1, 12, .inl (fun _ => 0))) := zbX_19 hz 20 _ rfl
theorem zx_132 {h : List MC} (hz : ZX h) : h[132]? = some (.inr (8, [.int 0, .ref 133, .ref 134, .ref 135])) := zbX_19 hz 21 _ rfl
theorem zx_133 {h : List MC} (hz : ZX h) : h[133]? = some (.inl (1, 12, .inl (fun _ => 0))) := zbX_19 hz 22 _ rfl
theorem zx_134 {h : List MC} (hz : ZX h) : h[134]? = some (.inl (1, 12, .inl (fun _ => 0))) := zbX_19 hz 23 _ rfl
theorem zx_135 {h : List MC} (hz : ZX h) : h[135]? = some (.inl (1, 12, .inl (fun _ => 0))) := zbX_19 hz 24 _ rfl
theorem zsX_20 {h : List MC} (hz : ZX h) : At h 136 (ob7 (1 + 136) :: (bk7 (1 + 136) ++ ([]))) := At.right bl7 rfl (zsX_19 hz)
theorem zx_136 {h : List MC} (hz : ZX h) : h[136]? = some (.inr (7, [.ref 137, .int 0, .int 0, .int (-1), .ref 138, .int 0, .ref 139, .int 0])) := At.head (zsX_20 hz)
theorem zsX_21 {h : List MC} (hz : ZX h) : At h 137 (bk7 (1 + 136) ++ ([])) := At.tail rfl (zsX_20 hz)
theorem zbX_21 {h : List MC} (hz : ZX h) : At h 137 (bk7 (1 + 136)) := At.left (zsX_21 hz)
theorem zx_137 {h : List MC} (hz : ZX h) : h[137]? = some (.inl (0, 600, .inl (fun _ => 0))) := zbX_21 hz 0 _ rfl
theorem zx_138 {h : List MC} (hz : ZX h) : h[138]? = some (.inl (4, 2, .inr (.inr (va_up (va_up (fun _ => none) ((0 : Int32).toNatClampNeg) (some (140))) ((1 : Int32).toNatClampNeg) (some (145)))))) := zbX_21 hz 1 _ rfl
theorem zx_139 {h : List MC} (hz : ZX h) : h[139]? = some (.inl (6, 3, .inr (.inr (va_up (va_up (va_up (fun _ => none) ((0 : Int32).toNatClampNeg) (some (150))) ((1 : Int32).toNatClampNeg) (some (154))) ((2 : Int32).toNatClampNeg) (some (158)))))) := zbX_21 hz 2 _ rfl
theorem zx_140 {h : List MC} (hz : ZX h) : h[140]? = some (.inr (1, [.int 0, .ref 141, .int 0, .ref 142, .ref 143, .ref 144])) := zbX_21 hz 3 _ rfl
theorem zx_141 {h : List MC} (hz : ZX h) : h[141]? = some (.inl (1, 144, .inl (fun _ => 0))) := zbX_21 hz 4 _ rfl
theorem zx_142 {h : List MC} (hz : ZX h) : h[142]? = some (.inl (1, 4, .inl (fun _ => 0))) := zbX_21 hz 5 _ rfl
theorem zx_143 {h : List MC} (hz : ZX h) : h[143]? = some (.inl (1, 4, .inl (fun _ => 0))) := zbX_21 hz 6 _ rfl
theorem zx_144 {h : List MC} (hz : ZX h) : h[144]? = some (.inl (1, 3, .inl (fun _ => 0))) := zbX_21 hz 7 _ rfl
theorem zx_145 {h : List MC} (hz : ZX h) : h[145]? = some (.inr (1, [.int 0, .ref 146, .int 0, .ref 147, .ref 148, .ref 149])) := zbX_21 hz 8 _ rfl
theorem zx_146 {h : List MC} (hz : ZX h) : h[146]? = some (.inl (1, 144, .inl (fun _ => 0))) := zbX_21 hz 9 _ rfl
theorem zx_147 {h : List MC} (hz : ZX h) : h[147]? = some (.inl (1, 4, .inl (fun _ => 0))) := zbX_21 hz 10 _ rfl
theorem zx_148 {h : List MC} (hz : ZX h) : h[148]? = some (.inl (1, 4, .inl (fun _ => 0))) := zbX_21 hz 11 _ rfl
theorem zx_149 {h : List MC} (hz : ZX h) : h[149]? = some (.inl (1, 3, .inl (fun _ => 0))) := zbX_21 hz 12 _ rfl
theorem zx_150 {h : List MC} (hz : ZX h) : h[150]? = some (.inr (8, [.int 0, .ref 151, .ref 152, .ref 153])) := zbX_21 hz 13 _ rfl
theorem zx_151 {h : List MC} (hz : ZX h) : h[151]? = some (.inl (1, 12, .inl (fun _ => 0))) := zbX_21 hz 14 _ rfl
theorem zx_152 {h : List MC} (hz : ZX h) : h[152]? = some (.inl (1, 12, .inl (fun _ => 0))) := zbX_21 hz 15 _ rfl
theorem zx_153 {h : List MC} (hz : ZX h) : h[153]? = some (.inl (1, 12, .inl (fun _ => 0))) := zbX_21 hz 16 _ rfl
theorem zx_154 {h : List MC} (hz : ZX h) : h[154]? = some (.inr (8, [.int 0, .ref 155, .ref 156, .ref 157])) := zbX_21 hz 17 _ rfl
theorem zx_155 {h : List MC} (hz : ZX h) : h[155]? = some (.inl (1, 12, .inl (fun _ => 0))) := zbX_21 hz 18 _ rfl
theorem zx_156 {h : List MC} (hz : ZX h) : h[156]? = some (.inl (1, 12, .inl (fun _ => 0))) := zbX_21 hz 19 _ rfl
theorem zx_157 {h : List MC} (hz : ZX h) : h[157]? = some (.inl (1, 12, .inl (fun _ => 0))) := zbX_21 hz 20 _ rfl
theorem zx_158 {h : List MC} (hz : ZX h) : h[158]? = some (.inr (8, [.int 0, .ref 159, .ref 160, .ref 161])) := zbX_21 hz 21 _ rfl
theorem zx_159 {h : List MC} (hz : ZX h) : h[159]? = some (.inl (1, 12, .inl (fun _ => 0))) := zbX_21 hz 22 _ rfl
theorem zx_160 {h : List MC} (hz : ZX h) : h[160]? = some (.inl (1, 12, .inl (fun _ => 0))) := zbX_21 hz 23 _ rfl
theorem zx_161 {h : List MC} (hz : ZX h) : h[161]? = some (.inl (1, 12, .inl (fun _ => 0))) := zbX_21 hz 24 _ rfl
theorem zm_162 {h : List MC} (hz : ZM h) : h[162]? = some (.inr (11, [.int 0, .ref 163, .ref 164, .ref 165, .ref 166, .ref 167, .ref 168, .ref 169, .int 0, .int 0, .int 0, .int 0, .int 0, .long 0, .int 0, .int 0, .int 0, .int 0, .int 0, .ref 170, .ref 171, .ref 172, .int 0, .int 0, .int 0, .int 0, .int 0, .int 0, .ref 173, .ref 174, .ref 175, .int 0, .int 0, .int 0, .ref 176, .ref 177, .ref 178, .ref 179, .ref 180, .int 0, .long 0, .int 0, .ref 181])) := hz.2.1
theorem zm_163 {h : List MC} (hz : ZM h) : h[163]? = some (.inl (0, 2400, .inl (fun _ => 0))) := hz.2.2 0 _ rfl
theorem zm_164 {h : List MC} (hz : ZM h) : h[164]? = some (.inl (1, 4, .inl (fun _ => 0))) := hz.2.2 1 _ rfl
theorem zm_165 {h : List MC} (hz : ZM h) : h[165]? = some (.inl (1, 4, .inl (fun _ => 0))) := hz.2.2 2 _ rfl
theorem zm_166 {h : List MC} (hz : ZM h) : h[166]? = some (.inl (1, 4, .inl (upd (fun _ => 0) ((0 : Int32).toNatClampNeg) (-1)))) := hz.2.2 3 _ rfl
theorem zm_167 {h : List MC} (hz : ZM h) : h[167]? = some (.inl (1, 8, .inl (fun _ => 0))) := hz.2.2 4 _ rfl
theorem zm_168 {h : List MC} (hz : ZM h) : h[168]? = some (.inl (1, 1256, .inl (fun _ => 0))) := hz.2.2 5 _ rfl
theorem zm_169 {h : List MC} (hz : ZM h) : h[169]? = some (.inl (1, 444, .inl (fun _ => 0))) := hz.2.2 6 _ rfl
theorem zm_170 {h : List MC} (hz : ZM h) : h[170]? = some (.inl (1, 157, .inl (fun _ => 0))) := hz.2.2 7 _ rfl
theorem zm_171 {h : List MC} (hz : ZM h) : h[171]? = some (.inl (1, 3, .inl (fun _ => 0))) := hz.2.2 8 _ rfl
theorem zm_172 {h : List MC} (hz : ZM h) : h[172]? = some (.inl (1, 157, .inl (fun _ => 0))) := hz.2.2 9 _ rfl
theorem zm_173 {h : List MC} (hz : ZM h) : h[173]? = some (.inl (1, 9, .inl (fun _ => 0))) := hz.2.2 10 _ rfl
theorem zm_174 {h : List MC} (hz : ZM h) : h[174]? = some (.inl (1, 9, .inl (fun _ => 0))) := hz.2.2 11 _ rfl
theorem zm_175 {h : List MC} (hz : ZM h) : h[175]? = some (.inl (1, 9, .inl (fun _ => 0))) := hz.2.2 12 _ rfl
theorem zm_176 {h : List MC} (hz : ZM h) : h[176]? = some (.inl (2, 512, .inr (.inl (fun _ => 0)))) := hz.2.2 13 _ rfl
theorem zm_177 {h : List MC} (hz : ZM h) : h[177]? = some (.inl (1, 9, .inl (fun _ => 0))) := hz.2.2 14 _ rfl
theorem zm_178 {h : List MC} (hz : ZM h) : h[178]? = some (.inl (1, 9, .inl (fun _ => 0))) := hz.2.2 15 _ rfl
theorem zm_179 {h : List MC} (hz : ZM h) : h[179]? = some (.inl (1, 4, .inl (fun _ => 0))) := hz.2.2 16 _ rfl
theorem zm_180 {h : List MC} (hz : ZM h) : h[180]? = some (.inl (1, 4, .inl (fun _ => 0))) := hz.2.2 17 _ rfl
theorem zm_181 {h : List MC} (hz : ZM h) : h[181]? = some (.inl (3, 3, .inl (fun _ => 0))) := hz.2.2 18 _ rfl
theorem k454 : Cond.methodLink RL 13 yX10_feed ∈ gt := gt_in 454 (by decide +kernel) (by decide +kernel)
theorem k455 : Cond.instanceMethod yX10_feed ∈ gt := gt_in 455 (by decide +kernel) (by decide +kernel)
theorem k456 : Cond.selects RX10 yX10_feed yX10_feed ∈ gt := gt_in 456 (by decide +kernel) (by decide +kernel)
theorem k457 : Cond.code yX10_feed cX10_feed 6 (some .int) ∈ gt := gt_in 457 (by decide +kernel) (by decide +kernel)
theorem np_X10_feed : yX10_feed.cls ≠ "java/lang/invoke/MethodHandle" ∧ yX10_feed.cls ≠ "java/lang/invoke/VarHandle" ∧ (parseMethodDescriptor yX10_feed.desc).map (fun d => d.parameters.length) = some 5 := by decide +kernel
theorem k1394 : Cond.methodLink RL 17 yX11_feed ∈ gt := gt_in 1394 (by decide +kernel) (by decide +kernel)
theorem k1395 : Cond.instanceMethod yX11_feed ∈ gt := gt_in 1395 (by decide +kernel) (by decide +kernel)
theorem k1396 : Cond.selects RX11 yX11_feed yX11_feed ∈ gt := gt_in 1396 (by decide +kernel) (by decide +kernel)
theorem k1397 : Cond.code yX11_feed cX11_feed 6 (some .int) ∈ gt := gt_in 1397 (by decide +kernel) (by decide +kernel)
theorem np_X11_feed : yX11_feed.cls ≠ "java/lang/invoke/MethodHandle" ∧ yX11_feed.cls ≠ "java/lang/invoke/VarHandle" ∧ (parseMethodDescriptor yX11_feed.desc).map (fun d => d.parameters.length) = some 5 := by decide +kernel
theorem k462 : Cond.methodLink RL 18 yX10_end ∈ gt := gt_in 462 (by decide +kernel) (by decide +kernel)
theorem k463 : Cond.instanceMethod yX10_end ∈ gt := gt_in 463 (by decide +kernel) (by decide +kernel)
theorem k464 : Cond.selects RX10 yX10_end yX10_end ∈ gt := gt_in 464 (by decide +kernel) (by decide +kernel)
theorem k465 : Cond.code yX10_end cX10_end 2 (some .int) ∈ gt := gt_in 465 (by decide +kernel) (by decide +kernel)
theorem np_X10_end : yX10_end.cls ≠ "java/lang/invoke/MethodHandle" ∧ yX10_end.cls ≠ "java/lang/invoke/VarHandle" ∧ (parseMethodDescriptor yX10_end.desc).map (fun d => d.parameters.length) = some 1 := by decide +kernel
theorem k1402 : Cond.methodLink RL 22 yX11_end ∈ gt := gt_in 1402 (by decide +kernel) (by decide +kernel)
theorem k1403 : Cond.instanceMethod yX11_end ∈ gt := gt_in 1403 (by decide +kernel) (by decide +kernel)
theorem k1404 : Cond.selects RX11 yX11_end yX11_end ∈ gt := gt_in 1404 (by decide +kernel) (by decide +kernel)
theorem k1405 : Cond.code yX11_end cX11_end 2 (some .int) ∈ gt := gt_in 1405 (by decide +kernel) (by decide +kernel)
theorem np_X11_end : yX11_end.cls ≠ "java/lang/invoke/MethodHandle" ∧ yX11_end.cls ≠ "java/lang/invoke/VarHandle" ∧ (parseMethodDescriptor yX11_end.desc).map (fun d => d.parameters.length) = some 1 := by decide +kernel
theorem k466 : Cond.methodLink RL 23 yX10_text ∈ gt := gt_in 466 (by decide +kernel) (by decide +kernel)
theorem k467 : Cond.instanceMethod yX10_text ∈ gt := gt_in 467 (by decide +kernel) (by decide +kernel)
theorem k468 : Cond.selects RX10 yX10_text yX10_text ∈ gt := gt_in 468 (by decide +kernel) (by decide +kernel)
theorem k469 : Cond.code yX10_text cX10_text 5 (some .int) ∈ gt := gt_in 469 (by decide +kernel) (by decide +kernel)
theorem np_X10_text : yX10_text.cls ≠ "java/lang/invoke/MethodHandle" ∧ yX10_text.cls ≠ "java/lang/invoke/VarHandle" ∧ (parseMethodDescriptor yX10_text.desc).map (fun d => d.parameters.length) = some 2 := by decide +kernel
theorem k1409 : Cond.methodLink RL 27 yX11_text ∈ gt := gt_in 1409 (by decide +kernel) (by decide +kernel)
theorem k1410 : Cond.instanceMethod yX11_text ∈ gt := gt_in 1410 (by decide +kernel) (by decide +kernel)
theorem k1411 : Cond.selects RX11 yX11_text yX11_text ∈ gt := gt_in 1411 (by decide +kernel) (by decide +kernel)
theorem k1412 : Cond.code yX11_text cX11_text 5 (some .int) ∈ gt := gt_in 1412 (by decide +kernel) (by decide +kernel)
theorem np_X11_text : yX11_text.cls ≠ "java/lang/invoke/MethodHandle" ∧ yX11_text.cls ≠ "java/lang/invoke/VarHandle" ∧ (parseMethodDescriptor yX11_text.desc).map (fun d => d.parameters.length) = some 2 := by decide +kernel
theorem k695 : Cond.methodLink RL 28 yX10_fault ∈ gt := gt_in 695 (by decide +kernel) (by decide +kernel)
theorem k696 : Cond.instanceMethod yX10_fault ∈ gt := gt_in 696 (by decide +kernel) (by decide +kernel)
theorem k697 : Cond.selects RX10 yX10_fault yX10_fault ∈ gt := gt_in 697 (by decide +kernel) (by decide +kernel)
theorem k698 : Cond.code yX10_fault cX10_fault 2 (some .int) ∈ gt := gt_in 698 (by decide +kernel) (by decide +kernel)
theorem np_X10_fault : yX10_fault.cls ≠ "java/lang/invoke/MethodHandle" ∧ yX10_fault.cls ≠ "java/lang/invoke/VarHandle" ∧ (parseMethodDescriptor yX10_fault.desc).map (fun d => d.parameters.length) = some 1 := by decide +kernel
theorem k1487 : Cond.methodLink RL 31 yX11_fault ∈ gt := gt_in 1487 (by decide +kernel) (by decide +kernel)
theorem k1488 : Cond.instanceMethod yX11_fault ∈ gt := gt_in 1488 (by decide +kernel) (by decide +kernel)
theorem k1489 : Cond.selects RX11 yX11_fault yX11_fault ∈ gt := gt_in 1489 (by decide +kernel) (by decide +kernel)
theorem k1490 : Cond.code yX11_fault cX11_fault 2 (some .int) ∈ gt := gt_in 1490 (by decide +kernel) (by decide +kernel)
theorem np_X11_fault : yX11_fault.cls ≠ "java/lang/invoke/MethodHandle" ∧ yX11_fault.cls ≠ "java/lang/invoke/VarHandle" ∧ (parseMethodDescriptor yX11_fault.desc).map (fun d => d.parameters.length) = some 1 := by decide +kernel
theorem k699 : Cond.methodLink RL 32 yX10_hill ∈ gt := gt_in 699 (by decide +kernel) (by decide +kernel)
theorem k700 : Cond.instanceMethod yX10_hill ∈ gt := gt_in 700 (by decide +kernel) (by decide +kernel)
theorem k701 : Cond.selects RX10 yX10_hill yX10_hill ∈ gt := gt_in 701 (by decide +kernel) (by decide +kernel)
theorem k702 : Cond.code yX10_hill cX10_hill 3 (some .int) ∈ gt := gt_in 702 (by decide +kernel) (by decide +kernel)
theorem np_X10_hill : yX10_hill.cls ≠ "java/lang/invoke/MethodHandle" ∧ yX10_hill.cls ≠ "java/lang/invoke/VarHandle" ∧ (parseMethodDescriptor yX10_hill.desc).map (fun d => d.parameters.length) = some 2 := by decide +kernel
theorem k1491 : Cond.methodLink RL 35 yX11_hill ∈ gt := gt_in 1491 (by decide +kernel) (by decide +kernel)
theorem k1492 : Cond.instanceMethod yX11_hill ∈ gt := gt_in 1492 (by decide +kernel) (by decide +kernel)
theorem k1493 : Cond.selects RX11 yX11_hill yX11_hill ∈ gt := gt_in 1493 (by decide +kernel) (by decide +kernel)
theorem k1494 : Cond.code yX11_hill cX11_hill 4 (some .int) ∈ gt := gt_in 1494 (by decide +kernel) (by decide +kernel)
theorem np_X11_hill : yX11_hill.cls ≠ "java/lang/invoke/MethodHandle" ∧ yX11_hill.cls ≠ "java/lang/invoke/VarHandle" ∧ (parseMethodDescriptor yX11_hill.desc).map (fun d => d.parameters.length) = some 2 := by decide +kernel
theorem k719 : Cond.methodLink RL 36 yX10_pond ∈ gt := gt_in 719 (by decide +kernel) (by decide +kernel)
theorem k720 : Cond.instanceMethod yX10_pond ∈ gt := gt_in 720 (by decide +kernel) (by decide +kernel)
theorem k721 : Cond.selects RX10 yX10_pond yX10_pond ∈ gt := gt_in 721 (by decide +kernel) (by decide +kernel)
theorem k722 : Cond.code yX10_pond cX10_pond 5 (some .int) ∈ gt := gt_in 722 (by decide +kernel) (by decide +kernel)
theorem np_X10_pond : yX10_pond.cls ≠ "java/lang/invoke/MethodHandle" ∧ yX10_pond.cls ≠ "java/lang/invoke/VarHandle" ∧ (parseMethodDescriptor yX10_pond.desc).map (fun d => d.parameters.length) = some 4 := by decide +kernel
theorem k1499 : Cond.methodLink RL 40 yX11_pond ∈ gt := gt_in 1499 (by decide +kernel) (by decide +kernel)
theorem k1500 : Cond.instanceMethod yX11_pond ∈ gt := gt_in 1500 (by decide +kernel) (by decide +kernel)
theorem k1501 : Cond.selects RX11 yX11_pond yX11_pond ∈ gt := gt_in 1501 (by decide +kernel) (by decide +kernel)
theorem k1502 : Cond.code yX11_pond cX11_pond 5 (some .int) ∈ gt := gt_in 1502 (by decide +kernel) (by decide +kernel)
theorem np_X11_pond : yX11_pond.cls ≠ "java/lang/invoke/MethodHandle" ∧ yX11_pond.cls ≠ "java/lang/invoke/VarHandle" ∧ (parseMethodDescriptor yX11_pond.desc).map (fun d => d.parameters.length) = some 4 := by decide +kernel
theorem k776 : Cond.methodLink RL 41 yX10_work ∈ gt := gt_in 776 (by decide +kernel) (by decide +kernel)
theorem k777 : Cond.instanceMethod yX10_work ∈ gt := gt_in 777 (by decide +kernel) (by decide +kernel)
theorem k778 : Cond.selects RX10 yX10_work yX10_work ∈ gt := gt_in 778 (by decide +kernel) (by decide +kernel)
theorem k779 : Cond.code yX10_work cX10_work 4 (some .int) ∈ gt := gt_in 779 (by decide +kernel) (by decide +kernel)
theorem np_X10_work : yX10_work.cls ≠ "java/lang/invoke/MethodHandle" ∧ yX10_work.cls ≠ "java/lang/invoke/VarHandle" ∧ (parseMethodDescriptor yX10_work.desc).map (fun d => d.parameters.length) = some 3 := by decide +kernel
theorem k1527 : Cond.methodLink RL 45 yX11_work ∈ gt := gt_in 1527 (by decide +kernel) (by decide +kernel)
theorem k1528 : Cond.instanceMethod yX11_work ∈ gt := gt_in 1528 (by decide +kernel) (by decide +kernel)
theorem k1529 : Cond.selects RX11 yX11_work yX11_work ∈ gt := gt_in 1529 (by decide +kernel) (by decide +kernel)
theorem k1530 : Cond.code yX11_work cX11_work 4 (some .int) ∈ gt := gt_in 1530 (by decide +kernel) (by decide +kernel)
theorem np_X11_work : yX11_work.cls ≠ "java/lang/invoke/MethodHandle" ∧ yX11_work.cls ≠ "java/lang/invoke/VarHandle" ∧ (parseMethodDescriptor yX11_work.desc).map (fun d => d.parameters.length) = some 3 := by decide +kernel
theorem k784 : Cond.methodLink RL 46 yX10_plan ∈ gt := gt_in 784 (by decide +kernel) (by decide +kernel)
theorem k785 : Cond.instanceMethod yX10_plan ∈ gt := gt_in 785 (by decide +kernel) (by decide +kernel)
theorem k786 : Cond.selects RX10 yX10_plan yX10_plan ∈ gt := gt_in 786 (by decide +kernel) (by decide +kernel)
theorem k787 : Cond.code yX10_plan cX10_plan 4 (some .int) ∈ gt := gt_in 787 (by decide +kernel) (by decide +kernel)
theorem np_X10_plan : yX10_plan.cls ≠ "java/lang/invoke/MethodHandle" ∧ yX10_plan.cls ≠ "java/lang/invoke/VarHandle" ∧ (parseMethodDescriptor yX10_plan.desc).map (fun d => d.parameters.length) = some 3 := by decide +kernel
theorem k1531 : Cond.methodLink RL 49 yX11_plan ∈ gt := gt_in 1531 (by decide +kernel) (by decide +kernel)
theorem k1532 : Cond.instanceMethod yX11_plan ∈ gt := gt_in 1532 (by decide +kernel) (by decide +kernel)
theorem k1533 : Cond.selects RX11 yX11_plan yX11_plan ∈ gt := gt_in 1533 (by decide +kernel) (by decide +kernel)
theorem k1534 : Cond.code yX11_plan cX11_plan 4 (some .int) ∈ gt := gt_in 1534 (by decide +kernel) (by decide +kernel)
theorem np_X11_plan : yX11_plan.cls ≠ "java/lang/invoke/MethodHandle" ∧ yX11_plan.cls ≠ "java/lang/invoke/VarHandle" ∧ (parseMethodDescriptor yX11_plan.desc).map (fun d => d.parameters.length) = some 3 := by decide +kernel
theorem k788 : Cond.methodLink RL 50 yX10_storm ∈ gt := gt_in 788 (by decide +kernel) (by decide +kernel)
theorem k789 : Cond.instanceMethod yX10_storm ∈ gt := gt_in 789 (by decide +kernel) (by decide +kernel)
theorem k790 : Cond.selects RX10 yX10_storm yX10_storm ∈ gt := gt_in 790 (by decide +kernel) (by decide +kernel)
theorem k791 : Cond.code yX10_storm cX10_storm 6 (some .int) ∈ gt := gt_in 791 (by decide +kernel) (by decide +kernel)
theorem np_X10_storm : yX10_storm.cls ≠ "java/lang/invoke/MethodHandle" ∧ yX10_storm.cls ≠ "java/lang/invoke/VarHandle" ∧ (parseMethodDescriptor yX10_storm.desc).map (fun d => d.parameters.length) = some 5 := by decide +kernel
theorem k1535 : Cond.methodLink RL 53 yX11_storm ∈ gt := gt_in 1535 (by decide +kernel) (by decide +kernel)
theorem k1536 : Cond.instanceMethod yX11_storm ∈ gt := gt_in 1536 (by decide +kernel) (by decide +kernel)
theorem k1537 : Cond.selects RX11 yX11_storm yX11_storm ∈ gt := gt_in 1537 (by decide +kernel) (by decide +kernel)
theorem k1538 : Cond.code yX11_storm cX11_storm 6 (some .int) ∈ gt := gt_in 1538 (by decide +kernel) (by decide +kernel)
theorem np_X11_storm : yX11_storm.cls ≠ "java/lang/invoke/MethodHandle" ∧ yX11_storm.cls ≠ "java/lang/invoke/VarHandle" ∧ (parseMethodDescriptor yX11_storm.desc).map (fun d => d.parameters.length) = some 5 := by decide +kernel
theorem k848 : Cond.methodLink RL 54 yX10_likely ∈ gt := gt_in 848 (by decide +kernel) (by decide +kernel)
theorem k849 : Cond.instanceMethod yX10_likely ∈ gt := gt_in 849 (by decide +kernel) (by decide +kernel)
theorem k850 : Cond.selects RX10 yX10_likely yX10_likely ∈ gt := gt_in 850 (by decide +kernel) (by decide +kernel)
theorem k851 : Cond.code yX10_likely cX10_likely 4 (some .long) ∈ gt := gt_in 851 (by decide +kernel) (by decide +kernel)
theorem np_X10_likely : yX10_likely.cls ≠ "java/lang/invoke/MethodHandle" ∧ yX10_likely.cls ≠ "java/lang/invoke/VarHandle" ∧ (parseMethodDescriptor yX10_likely.desc).map (fun d => d.parameters.length) = some 3 := by decide +kernel
theorem k1574 : Cond.methodLink RL 58 yX11_likely ∈ gt := gt_in 1574 (by decide +kernel) (by decide +kernel)
theorem k1575 : Cond.instanceMethod yX11_likely ∈ gt := gt_in 1575 (by decide +kernel) (by decide +kernel)
theorem k1576 : Cond.selects RX11 yX11_likely yX11_likely ∈ gt := gt_in 1576 (by decide +kernel) (by decide +kernel)
theorem k1577 : Cond.code yX11_likely cX11_likely 10 (some .long) ∈ gt := gt_in 1577 (by decide +kernel) (by decide +kernel)
theorem np_X11_likely : yX11_likely.cls ≠ "java/lang/invoke/MethodHandle" ∧ yX11_likely.cls ≠ "java/lang/invoke/VarHandle" ∧ (parseMethodDescriptor yX11_likely.desc).map (fun d => d.parameters.length) = some 3 := by decide +kernel
theorem k895 : Cond.methodLink RL 59 yX10_mean ∈ gt := gt_in 895 (by decide +kernel) (by decide +kernel)
theorem k896 : Cond.instanceMethod yX10_mean ∈ gt := gt_in 896 (by decide +kernel) (by decide +kernel)
theorem k897 : Cond.selects RX10 yX10_mean yX10_mean ∈ gt := gt_in 897 (by decide +kernel) (by decide +kernel)
theorem k898 : Cond.code yX10_mean cX10_mean 4 (some .long) ∈ gt := gt_in 898 (by decide +kernel) (by decide +kernel)
theorem np_X10_mean : yX10_mean.cls ≠ "java/lang/invoke/MethodHandle" ∧ yX10_mean.cls ≠ "java/lang/invoke/VarHandle" ∧ (parseMethodDescriptor yX10_mean.desc).map (fun d => d.parameters.length) = some 3 := by decide +kernel
theorem k1589 : Cond.methodLink RL 62 yX11_mean ∈ gt := gt_in 1589 (by decide +kernel) (by decide +kernel)
theorem k1590 : Cond.instanceMethod yX11_mean ∈ gt := gt_in 1590 (by decide +kernel) (by decide +kernel)
theorem k1591 : Cond.selects RX11 yX11_mean yX11_mean ∈ gt := gt_in 1591 (by decide +kernel) (by decide +kernel)
theorem k1592 : Cond.code yX11_mean cX11_mean 4 (some .long) ∈ gt := gt_in 1592 (by decide +kernel) (by decide +kernel)
theorem np_X11_mean : yX11_mean.cls ≠ "java/lang/invoke/MethodHandle" ∧ yX11_mean.cls ≠ "java/lang/invoke/VarHandle" ∧ (parseMethodDescriptor yX11_mean.desc).map (fun d => d.parameters.length) = some 3 := by decide +kernel
theorem k911 : Cond.methodLink RL 63 yX10_rows ∈ gt := gt_in 911 (by decide +kernel) (by decide +kernel)
theorem k912 : Cond.instanceMethod yX10_rows ∈ gt := gt_in 912 (by decide +kernel) (by decide +kernel)
theorem k913 : Cond.selects RX10 yX10_rows yX10_rows ∈ gt := gt_in 913 (by decide +kernel) (by decide +kernel)
theorem k914 : Cond.code yX10_rows cX10_rows 5 (some .long) ∈ gt := gt_in 914 (by decide +kernel) (by decide +kernel)
theorem np_X10_rows : yX10_rows.cls ≠ "java/lang/invoke/MethodHandle" ∧ yX10_rows.cls ≠ "java/lang/invoke/VarHandle" ∧ (parseMethodDescriptor yX10_rows.desc).map (fun d => d.parameters.length) = some 3 := by decide +kernel
theorem k1600 : Cond.methodLink RL 67 yX11_rows ∈ gt := gt_in 1600 (by decide +kernel) (by decide +kernel)
theorem k1601 : Cond.instanceMethod yX11_rows ∈ gt := gt_in 1601 (by decide +kernel) (by decide +kernel)
theorem k1602 : Cond.selects RX11 yX11_rows yX11_rows ∈ gt := gt_in 1602 (by decide +kernel) (by decide +kernel)
theorem k1603 : Cond.code yX11_rows cX11_rows 8 (some .long) ∈ gt := gt_in 1603 (by decide +kernel) (by decide +kernel)
theorem np_X11_rows : yX11_rows.cls ≠ "java/lang/invoke/MethodHandle" ∧ yX11_rows.cls ≠ "java/lang/invoke/VarHandle" ∧ (parseMethodDescriptor yX11_rows.desc).map (fun d => d.parameters.length) = some 3 := by decide +kernel
theorem k922 : Cond.methodLink RL 68 yX10_brings ∈ gt := gt_in 922 (by decide +kernel) (by decide +kernel)
theorem k923 : Cond.instanceMethod yX10_brings ∈ gt := gt_in 923 (by decide +kernel) (by decide +kernel)
theorem k924 : Cond.selects RX10 yX10_brings yX10_brings ∈ gt := gt_in 924 (by decide +kernel) (by decide +kernel)
theorem k925 : Cond.code yX10_brings cX10_brings 7 (some .int) ∈ gt := gt_in 925 (by decide +kernel) (by decide +kernel)
theorem np_X10_brings : yX10_brings.cls ≠ "java/lang/invoke/MethodHandle" ∧ yX10_brings.cls ≠ "java/lang/invoke/VarHandle" ∧ (parseMethodDescriptor yX10_brings.desc).map (fun d => d.parameters.length) = some 4 := by decide +kernel
theorem k1604 : Cond.methodLink RL 71 yX11_brings ∈ gt := gt_in 1604 (by decide +kernel) (by decide +kernel)
theorem k1605 : Cond.instanceMethod yX11_brings ∈ gt := gt_in 1605 (by decide +kernel) (by decide +kernel)
theorem k1606 : Cond.selects RX11 yX11_brings yX11_brings ∈ gt := gt_in 1606 (by decide +kernel) (by decide +kernel)
theorem k1607 : Cond.code yX11_brings cX11_brings 7 (some .int) ∈ gt := gt_in 1607 (by decide +kernel) (by decide +kernel)
theorem np_X11_brings : yX11_brings.cls ≠ "java/lang/invoke/MethodHandle" ∧ yX11_brings.cls ≠ "java/lang/invoke/VarHandle" ∧ (parseMethodDescriptor yX11_brings.desc).map (fun d => d.parameters.length) = some 4 := by decide +kernel
theorem k934 : Cond.methodLink RL 72 yX10_best ∈ gt := gt_in 934 (by decide +kernel) (by decide +kernel)
theorem k935 : Cond.instanceMethod yX10_best ∈ gt := gt_in 935 (by decide +kernel) (by decide +kernel)
theorem k936 : Cond.selects RX10 yX10_best yX10_best ∈ gt := gt_in 936 (by decide +kernel) (by decide +kernel)
theorem k937 : Cond.code yX10_best cX10_best 5 (some .int) ∈ gt := gt_in 937 (by decide +kernel) (by decide +kernel)
theorem np_X10_best : yX10_best.cls ≠ "java/lang/invoke/MethodHandle" ∧ yX10_best.cls ≠ "java/lang/invoke/VarHandle" ∧ (parseMethodDescriptor yX10_best.desc).map (fun d => d.parameters.length) = some 4 := by decide +kernel
theorem k1611 : Cond.methodLink RL 75 yX11_best ∈ gt := gt_in 1611 (by decide +kernel) (by decide +kernel)
theorem k1612 : Cond.instanceMethod yX11_best ∈ gt := gt_in 1612 (by decide +kernel) (by decide +kernel)
theorem k1613 : Cond.selects RX11 yX11_best yX11_best ∈ gt := gt_in 1613 (by decide +kernel) (by decide +kernel)
theorem k1614 : Cond.code yX11_best cX11_best 11 (some .int) ∈ gt := gt_in 1614 (by decide +kernel) (by decide +kernel)
theorem np_X11_best : yX11_best.cls ≠ "java/lang/invoke/MethodHandle" ∧ yX11_best.cls ≠ "java/lang/invoke/VarHandle" ∧ (parseMethodDescriptor yX11_best.desc).map (fun d => d.parameters.length) = some 4 := by decide +kernel
theorem k960 : Cond.methodLink RL 76 yX10_steps ∈ gt := gt_in 960 (by decide +kernel) (by decide +kernel)
theorem k961 : Cond.instanceMethod yX10_steps ∈ gt := gt_in 961 (by decide +kernel) (by decide +kernel)
theorem k962 : Cond.selects RX10 yX10_steps yX10_steps ∈ gt := gt_in 962 (by decide +kernel) (by decide +kernel)
theorem k963 : Cond.code yX10_steps cX10_steps 5 (some .int) ∈ gt := gt_in 963 (by decide +kernel) (by decide +kernel)
theorem np_X10_steps : yX10_steps.cls ≠ "java/lang/invoke/MethodHandle" ∧ yX10_steps.cls ≠ "java/lang/invoke/VarHandle" ∧ (parseMethodDescriptor yX10_steps.desc).map (fun d => d.parameters.length) = some 4 := by decide +kernel
theorem k1635 : Cond.methodLink RL 79 yX11_steps ∈ gt := gt_in 1635 (by decide +kernel) (by decide +kernel)
theorem k1636 : Cond.instanceMethod yX11_steps ∈ gt := gt_in 1636 (by decide +kernel) (by decide +kernel)
theorem k1637 : Cond.selects RX11 yX11_steps yX11_steps ∈ gt := gt_in 1637 (by decide +kernel) (by decide +kernel)
theorem k1638 : Cond.code yX11_steps cX11_steps 8 (some .int) ∈ gt := gt_in 1638 (by decide +kernel) (by decide +kernel)
theorem np_X11_steps : yX11_steps.cls ≠ "java/lang/invoke/MethodHandle" ∧ yX11_steps.cls ≠ "java/lang/invoke/VarHandle" ∧ (parseMethodDescriptor yX11_steps.desc).map (fun d => d.parameters.length) = some 4 := by decide +kernel
theorem k981 : Cond.methodLink RL 80 yX10_mended ∈ gt := gt_in 981 (by decide +kernel) (by decide +kernel)
theorem k982 : Cond.instanceMethod yX10_mended ∈ gt := gt_in 982 (by decide +kernel) (by decide +kernel)
theorem k983 : Cond.selects RX10 yX10_mended yX10_mended ∈ gt := gt_in 983 (by decide +kernel) (by decide +kernel)
theorem k984 : Cond.code yX10_mended cX10_mended 4 (some .long) ∈ gt := gt_in 984 (by decide +kernel) (by decide +kernel)
theorem np_X10_mended : yX10_mended.cls ≠ "java/lang/invoke/MethodHandle" ∧ yX10_mended.cls ≠ "java/lang/invoke/VarHandle" ∧ (parseMethodDescriptor yX10_mended.desc).map (fun d => d.parameters.length) = some 3 := by decide +kernel
theorem k1646 : Cond.methodLink RL 83 yX11_mended ∈ gt := gt_in 1646 (by decide +kernel) (by decide +kernel)
theorem k1647 : Cond.instanceMethod yX11_mended ∈ gt := gt_in 1647 (by decide +kernel) (by decide +kernel)
theorem k1648 : Cond.selects RX11 yX11_mended yX11_mended ∈ gt := gt_in 1648 (by decide +kernel) (by decide +kernel)
theorem k1649 : Cond.code yX11_mended cX11_mended 4 (some .long) ∈ gt := gt_in 1649 (by decide +kernel) (by decide +kernel)
theorem np_X11_mended : yX11_mended.cls ≠ "java/lang/invoke/MethodHandle" ∧ yX11_mended.cls ≠ "java/lang/invoke/VarHandle" ∧ (parseMethodDescriptor yX11_mended.desc).map (fun d => d.parameters.length) = some 3 := by decide +kernel
theorem k986 : Cond.methodLink RL 84 yX10_one ∈ gt := gt_in 986 (by decide +kernel) (by decide +kernel)
theorem k987 : Cond.instanceMethod yX10_one ∈ gt := gt_in 987 (by decide +kernel) (by decide +kernel)
theorem k988 : Cond.selects RX10 yX10_one yX10_one ∈ gt := gt_in 988 (by decide +kernel) (by decide +kernel)
theorem k989 : Cond.code yX10_one cX10_one 4 (some .long) ∈ gt := gt_in 989 (by decide +kernel) (by decide +kernel)
theorem np_X10_one : yX10_one.cls ≠ "java/lang/invoke/MethodHandle" ∧ yX10_one.cls ≠ "java/lang/invoke/VarHandle" ∧ (parseMethodDescriptor yX10_one.desc).map (fun d => d.parameters.length) = some 3 := by decide +kernel
theorem k1650 : Cond.methodLink RL 87 yX11_one ∈ gt := gt_in 1650 (by decide +kernel) (by decide +kernel)
theorem k1651 : Cond.instanceMethod yX11_one ∈ gt := gt_in 1651 (by decide +kernel) (by decide +kernel)
theorem k1652 : Cond.selects RX11 yX11_one yX11_one ∈ gt := gt_in 1652 (by decide +kernel) (by decide +kernel)
theorem k1653 : Cond.code yX11_one cX11_one 10 (some .long) ∈ gt := gt_in 1653 (by decide +kernel) (by decide +kernel)
theorem np_X11_one : yX11_one.cls ≠ "java/lang/invoke/MethodHandle" ∧ yX11_one.cls ≠ "java/lang/invoke/VarHandle" ∧ (parseMethodDescriptor yX11_one.desc).map (fun d => d.parameters.length) = some 3 := by decide +kernel
theorem k1001 : Cond.methodLink RL 88 yX10_low ∈ gt := gt_in 1001 (by decide +kernel) (by decide +kernel)
theorem k1002 : Cond.instanceMethod yX10_low ∈ gt := gt_in 1002 (by decide +kernel) (by decide +kernel)
theorem k1003 : Cond.selects RX10 yX10_low yX10_low ∈ gt := gt_in 1003 (by decide +kernel) (by decide +kernel)
theorem k1004 : Cond.code yX10_low cX10_low 4 (some .int) ∈ gt := gt_in 1004 (by decide +kernel) (by decide +kernel)
theorem np_X10_low : yX10_low.cls ≠ "java/lang/invoke/MethodHandle" ∧ yX10_low.cls ≠ "java/lang/invoke/VarHandle" ∧ (parseMethodDescriptor yX10_low.desc).map (fun d => d.parameters.length) = some 3 := by decide +kernel
theorem k1654 : Cond.methodLink RL 91 yX11_low ∈ gt := gt_in 1654 (by decide +kernel) (by decide +kernel)
theorem k1655 : Cond.instanceMethod yX11_low ∈ gt := gt_in 1655 (by decide +kernel) (by decide +kernel)
theorem k1656 : Cond.selects RX11 yX11_low yX11_low ∈ gt := gt_in 1656 (by decide +kernel) (by decide +kernel)
theorem k1657 : Cond.code yX11_low cX11_low 11 (some .int) ∈ gt := gt_in 1657 (by decide +kernel) (by decide +kernel)
theorem np_X11_low : yX11_low.cls ≠ "java/lang/invoke/MethodHandle" ∧ yX11_low.cls ≠ "java/lang/invoke/VarHandle" ∧ (parseMethodDescriptor yX11_low.desc).map (fun d => d.parameters.length) = some 3 := by decide +kernel
theorem k1016 : Cond.methodLink RL 92 yX10_helps ∈ gt := gt_in 1016 (by decide +kernel) (by decide +kernel)
theorem k1017 : Cond.instanceMethod yX10_helps ∈ gt := gt_in 1017 (by decide +kernel) (by decide +kernel)
theorem k1018 : Cond.selects RX10 yX10_helps yX10_helps ∈ gt := gt_in 1018 (by decide +kernel) (by decide +kernel)
theorem k1019 : Cond.code yX10_helps cX10_helps 8 (some .long) ∈ gt := gt_in 1019 (by decide +kernel) (by decide +kernel)
theorem np_X10_helps : yX10_helps.cls ≠ "java/lang/invoke/MethodHandle" ∧ yX10_helps.cls ≠ "java/lang/invoke/VarHandle" ∧ (parseMethodDescriptor yX10_helps.desc).map (fun d => d.parameters.length) = some 4 := by decide +kernel
theorem k1658 : Cond.methodLink RL 96 yX11_helps ∈ gt := gt_in 1658 (by decide +kernel) (by decide +kernel)
theorem k1659 : Cond.instanceMethod yX11_helps ∈ gt := gt_in 1659 (by decide +kernel) (by decide +kernel)
theorem k1660 : Cond.selects RX11 yX11_helps yX11_helps ∈ gt := gt_in 1660 (by decide +kernel) (by decide +kernel)
theorem k1661 : Cond.code yX11_helps cX11_helps 5 (some .long) ∈ gt := gt_in 1661 (by decide +kernel) (by decide +kernel)
theorem np_X11_helps : yX11_helps.cls ≠ "java/lang/invoke/MethodHandle" ∧ yX11_helps.cls ≠ "java/lang/invoke/VarHandle" ∧ (parseMethodDescriptor yX11_helps.desc).map (fun d => d.parameters.length) = some 4 := by decide +kernel
theorem k1020 : Cond.methodLink RL 97 yX10_alone ∈ gt := gt_in 1020 (by decide +kernel) (by decide +kernel)
theorem k1021 : Cond.instanceMethod yX10_alone ∈ gt := gt_in 1021 (by decide +kernel) (by decide +kernel)
theorem k1022 : Cond.selects RX10 yX10_alone yX10_alone ∈ gt := gt_in 1022 (by decide +kernel) (by decide +kernel)
theorem k1023 : Cond.code yX10_alone cX10_alone 5 (some .long) ∈ gt := gt_in 1023 (by decide +kernel) (by decide +kernel)
theorem np_X10_alone : yX10_alone.cls ≠ "java/lang/invoke/MethodHandle" ∧ yX10_alone.cls ≠ "java/lang/invoke/VarHandle" ∧ (parseMethodDescriptor yX10_alone.desc).map (fun d => d.parameters.length) = some 3 := by decide +kernel
theorem k1666 : Cond.methodLink RL 100 yX11_alone ∈ gt := gt_in 1666 (by decide +kernel) (by decide +kernel)
theorem k1667 : Cond.instanceMethod yX11_alone ∈ gt := gt_in 1667 (by decide +kernel) (by decide +kernel)
theorem k1668 : Cond.selects RX11 yX11_alone yX11_alone ∈ gt := gt_in 1668 (by decide +kernel) (by decide +kernel)
theorem k1669 : Cond.code yX11_alone cX11_alone 4 (some .long) ∈ gt := gt_in 1669 (by decide +kernel) (by decide +kernel)
theorem np_X11_alone : yX11_alone.cls ≠ "java/lang/invoke/MethodHandle" ∧ yX11_alone.cls ≠ "java/lang/invoke/VarHandle" ∧ (parseMethodDescriptor yX11_alone.desc).map (fun d => d.parameters.length) = some 3 := by decide +kernel
theorem k1024 : Cond.methodLink RL 101 yX10_hear ∈ gt := gt_in 1024 (by decide +kernel) (by decide +kernel)
theorem k1025 : Cond.instanceMethod yX10_hear ∈ gt := gt_in 1025 (by decide +kernel) (by decide +kernel)
theorem k1026 : Cond.selects RX10 yX10_hear yX10_hear ∈ gt := gt_in 1026 (by decide +kernel) (by decide +kernel)
theorem k1027 : Cond.code yX10_hear cX10_hear 7 (some .long) ∈ gt := gt_in 1027 (by decide +kernel) (by decide +kernel)
theorem np_X10_hear : yX10_hear.cls ≠ "java/lang/invoke/MethodHandle" ∧ yX10_hear.cls ≠ "java/lang/invoke/VarHandle" ∧ (parseMethodDescriptor yX10_hear.desc).map (fun d => d.parameters.length) = some 4 := by decide +kernel
theorem k1670 : Cond.methodLink RL 104 yX11_hear ∈ gt := gt_in 1670 (by decide +kernel) (by decide +kernel)
theorem k1671 : Cond.instanceMethod yX11_hear ∈ gt := gt_in 1671 (by decide +kernel) (by decide +kernel)
theorem k1672 : Cond.selects RX11 yX11_hear yX11_hear ∈ gt := gt_in 1672 (by decide +kernel) (by decide +kernel)
theorem k1673 : Cond.code yX11_hear cX11_hear 7 (some .long) ∈ gt := gt_in 1673 (by decide +kernel) (by decide +kernel)
theorem np_X11_hear : yX11_hear.cls ≠ "java/lang/invoke/MethodHandle" ∧ yX11_hear.cls ≠ "java/lang/invoke/VarHandle" ∧ (parseMethodDescriptor yX11_hear.desc).map (fun d => d.parameters.length) = some 4 := by decide +kernel
theorem k1032 : Cond.methodLink RL 105 yX10_may ∈ gt := gt_in 1032 (by decide +kernel) (by decide +kernel)
theorem k1033 : Cond.instanceMethod yX10_may ∈ gt := gt_in 1033 (by decide +kernel) (by decide +kernel)
theorem k1034 : Cond.selects RX10 yX10_may yX10_may ∈ gt := gt_in 1034 (by decide +kernel) (by decide +kernel)
theorem k1035 : Cond.code yX10_may cX10_may 5 (some .long) ∈ gt := gt_in 1035 (by decide +kernel) (by decide +kernel)
theorem np_X10_may : yX10_may.cls ≠ "java/lang/invoke/MethodHandle" ∧ yX10_may.cls ≠ "java/lang/invoke/VarHandle" ∧ (parseMethodDescriptor yX10_may.desc).map (fun d => d.parameters.length) = some 4 := by decide +kernel
theorem k1675 : Cond.methodLink RL 109 yX11_may ∈ gt := gt_in 1675 (by decide +kernel) (by decide +kernel)
theorem k1676 : Cond.instanceMethod yX11_may ∈ gt := gt_in 1676 (by decide +kernel) (by decide +kernel)
theorem k1677 : Cond.selects RX11 yX11_may yX11_may ∈ gt := gt_in 1677 (by decide +kernel) (by decide +kernel)
theorem k1678 : Cond.code yX11_may cX11_may 7 (some .long) ∈ gt := gt_in 1678 (by decide +kernel) (by decide +kernel)
theorem np_X11_may : yX11_may.cls ≠ "java/lang/invoke/MethodHandle" ∧ yX11_may.cls ≠ "java/lang/invoke/VarHandle" ∧ (parseMethodDescriptor yX11_may.desc).map (fun d => d.parameters.length) = some 4 := by decide +kernel
theorem k1062 : Cond.methodLink RL 110 yX10_order ∈ gt := gt_in 1062 (by decide +kernel) (by decide +kernel)
theorem k1063 : Cond.instanceMethod yX10_order ∈ gt := gt_in 1063 (by decide +kernel) (by decide +kernel)
theorem k1064 : Cond.selects RX10 yX10_order yX10_order ∈ gt := gt_in 1064 (by decide +kernel) (by decide +kernel)
theorem k1065 : Cond.code yX10_order cX10_order 5 (some .int) ∈ gt := gt_in 1065 (by decide +kernel) (by decide +kernel)
theorem np_X10_order : yX10_order.cls ≠ "java/lang/invoke/MethodHandle" ∧ yX10_order.cls ≠ "java/lang/invoke/VarHandle" ∧ (parseMethodDescriptor yX10_order.desc).map (fun d => d.parameters.length) = some 4 := by decide +kernel
theorem k1691 : Cond.methodLink RL 113 yX11_order ∈ gt := gt_in 1691 (by decide +kernel) (by decide +kernel)
theorem k1692 : Cond.instanceMethod yX11_order ∈ gt := gt_in 1692 (by decide +kernel) (by decide +kernel)
theorem k1693 : Cond.selects RX11 yX11_order yX11_order ∈ gt := gt_in 1693 (by decide +kernel) (by decide +kernel)
theorem k1694 : Cond.code yX11_order cX11_order 5 (some .int) ∈ gt := gt_in 1694 (by decide +kernel) (by decide +kernel)
theorem np_X11_order : yX11_order.cls ≠ "java/lang/invoke/MethodHandle" ∧ yX11_order.cls ≠ "java/lang/invoke/VarHandle" ∧ (parseMethodDescriptor yX11_order.desc).map (fun d => d.parameters.length) = some 4 := by decide +kernel
theorem k1070 : Cond.methodLink RL 114 yX10_think ∈ gt := gt_in 1070 (by decide +kernel) (by decide +kernel)
theorem k1071 : Cond.instanceMethod yX10_think ∈ gt := gt_in 1071 (by decide +kernel) (by decide +kernel)
theorem k1072 : Cond.selects RX10 yX10_think yX10_think ∈ gt := gt_in 1072 (by decide +kernel) (by decide +kernel)
theorem k1073 : Cond.code yX10_think cX10_think 7 (some .int) ∈ gt := gt_in 1073 (by decide +kernel) (by decide +kernel)
theorem np_X10_think : yX10_think.cls ≠ "java/lang/invoke/MethodHandle" ∧ yX10_think.cls ≠ "java/lang/invoke/VarHandle" ∧ (parseMethodDescriptor yX10_think.desc).map (fun d => d.parameters.length) = some 4 := by decide +kernel
theorem k1695 : Cond.methodLink RL 118 yX11_think ∈ gt := gt_in 1695 (by decide +kernel) (by decide +kernel)
theorem k1696 : Cond.instanceMethod yX11_think ∈ gt := gt_in 1696 (by decide +kernel) (by decide +kernel)
theorem k1697 : Cond.selects RX11 yX11_think yX11_think ∈ gt := gt_in 1697 (by decide +kernel) (by decide +kernel)
theorem k1698 : Cond.code yX11_think cX11_think 7 (some .int) ∈ gt := gt_in 1698 (by decide +kernel) (by decide +kernel)
theorem np_X11_think : yX11_think.cls ≠ "java/lang/invoke/MethodHandle" ∧ yX11_think.cls ≠ "java/lang/invoke/VarHandle" ∧ (parseMethodDescriptor yX11_think.desc).map (fun d => d.parameters.length) = some 4 := by decide +kernel
theorem k1090 : Cond.methodLink RL 119 yX10_now ∈ gt := gt_in 1090 (by decide +kernel) (by decide +kernel)
theorem k1091 : Cond.instanceMethod yX10_now ∈ gt := gt_in 1091 (by decide +kernel) (by decide +kernel)
theorem k1092 : Cond.selects RX10 yX10_now yX10_now ∈ gt := gt_in 1092 (by decide +kernel) (by decide +kernel)
theorem k1093 : Cond.code yX10_now cX10_now 3 (some .int) ∈ gt := gt_in 1093 (by decide +kernel) (by decide +kernel)
theorem np_X10_now : yX10_now.cls ≠ "java/lang/invoke/MethodHandle" ∧ yX10_now.cls ≠ "java/lang/invoke/VarHandle" ∧ (parseMethodDescriptor yX10_now.desc).map (fun d => d.parameters.length) = some 2 := by decide +kernel
theorem k1710 : Cond.methodLink RL 122 yX11_now ∈ gt := gt_in 1710 (by decide +kernel) (by decide +kernel)
theorem k1711 : Cond.instanceMethod yX11_now ∈ gt := gt_in 1711 (by decide +kernel) (by decide +kernel)
theorem k1712 : Cond.selects RX11 yX11_now yX11_now ∈ gt := gt_in 1712 (by decide +kernel) (by decide +kernel)
theorem k1713 : Cond.code yX11_now cX11_now 11 (some .int) ∈ gt := gt_in 1713 (by decide +kernel) (by decide +kernel)
theorem np_X11_now : yX11_now.cls ≠ "java/lang/invoke/MethodHandle" ∧ yX11_now.cls ≠ "java/lang/invoke/VarHandle" ∧ (parseMethodDescriptor yX11_now.desc).map (fun d => d.parameters.length) = some 2 := by decide +kernel
theorem k1100 : Cond.methodLink RL 123 yX10_years ∈ gt := gt_in 1100 (by decide +kernel) (by decide +kernel)
theorem k1101 : Cond.instanceMethod yX10_years ∈ gt := gt_in 1101 (by decide +kernel) (by decide +kernel)
theorem k1102 : Cond.selects RX10 yX10_years yX10_years ∈ gt := gt_in 1102 (by decide +kernel) (by decide +kernel)
theorem k1103 : Cond.code yX10_years cX10_years 6 (some .long) ∈ gt := gt_in 1103 (by decide +kernel) (by decide +kernel)
theorem np_X10_years : yX10_years.cls ≠ "java/lang/invoke/MethodHandle" ∧ yX10_years.cls ≠ "java/lang/invoke/VarHandle" ∧ (parseMethodDescriptor yX10_years.desc).map (fun d => d.parameters.length) = some 5 := by decide +kernel
theorem k1714 : Cond.methodLink RL 127 yX11_years ∈ gt := gt_in 1714 (by decide +kernel) (by decide +kernel)
theorem k1715 : Cond.instanceMethod yX11_years ∈ gt := gt_in 1715 (by decide +kernel) (by decide +kernel)
theorem k1716 : Cond.selects RX11 yX11_years yX11_years ∈ gt := gt_in 1716 (by decide +kernel) (by decide +kernel)
theorem k1717 : Cond.code yX11_years cX11_years 12 (some .long) ∈ gt := gt_in 1717 (by decide +kernel) (by decide +kernel)
theorem np_X11_years : yX11_years.cls ≠ "java/lang/invoke/MethodHandle" ∧ yX11_years.cls ≠ "java/lang/invoke/VarHandle" ∧ (parseMethodDescriptor yX11_years.desc).map (fun d => d.parameters.length) = some 5 := by decide +kernel
theorem k1136 : Cond.methodLink RL 128 yX10_spared ∈ gt := gt_in 1136 (by decide +kernel) (by decide +kernel)
theorem k1137 : Cond.instanceMethod yX10_spared ∈ gt := gt_in 1137 (by decide +kernel) (by decide +kernel)
theorem k1138 : Cond.selects RX10 yX10_spared yX10_spared ∈ gt := gt_in 1138 (by decide +kernel) (by decide +kernel)
theorem k1139 : Cond.code yX10_spared cX10_spared 6 (some .int) ∈ gt := gt_in 1139 (by decide +kernel) (by decide +kernel)
theorem np_X10_spared : yX10_spared.cls ≠ "java/lang/invoke/MethodHandle" ∧ yX10_spared.cls ≠ "java/lang/invoke/VarHandle" ∧ (parseMethodDescriptor yX10_spared.desc).map (fun d => d.parameters.length) = some 3 := by decide +kernel
theorem k1727 : Cond.methodLink RL 131 yX11_spared ∈ gt := gt_in 1727 (by decide +kernel) (by decide +kernel)
theorem k1728 : Cond.instanceMethod yX11_spared ∈ gt := gt_in 1728 (by decide +kernel) (by decide +kernel)
theorem k1729 : Cond.selects RX11 yX11_spared yX11_spared ∈ gt := gt_in 1729 (by decide +kernel) (by decide +kernel)
theorem k1730 : Cond.code yX11_spared cX11_spared 6 (some .int) ∈ gt := gt_in 1730 (by decide +kernel) (by decide +kernel)
theorem np_X11_spared : yX11_spared.cls ≠ "java/lang/invoke/MethodHandle" ∧ yX11_spared.cls ≠ "java/lang/invoke/VarHandle" ∧ (parseMethodDescriptor yX11_spared.desc).map (fun d => d.parameters.length) = some 3 := by decide +kernel
theorem k1140 : Cond.methodLink RL 132 yX10_deep ∈ gt := gt_in 1140 (by decide +kernel) (by decide +kernel)
theorem k1141 : Cond.instanceMethod yX10_deep ∈ gt := gt_in 1141 (by decide +kernel) (by decide +kernel)
theorem k1142 : Cond.selects RX10 yX10_deep yX10_deep ∈ gt := gt_in 1142 (by decide +kernel) (by decide +kernel)
theorem k1143 : Cond.code yX10_deep cX10_deep 3 (some .int) ∈ gt := gt_in 1143 (by decide +kernel) (by decide +kernel)
theorem np_X10_deep : yX10_deep.cls ≠ "java/lang/invoke/MethodHandle" ∧ yX10_deep.cls ≠ "java/lang/invoke/VarHandle" ∧ (parseMethodDescriptor yX10_deep.desc).map (fun d => d.parameters.length) = some 2 := by decide +kernel
theorem k1731 : Cond.methodLink RL 135 yX11_deep ∈ gt := gt_in 1731 (by decide +kernel) (by decide +kernel)
theorem k1732 : Cond.instanceMethod yX11_deep ∈ gt := gt_in 1732 (by decide +kernel) (by decide +kernel)
theorem k1733 : Cond.selects RX11 yX11_deep yX11_deep ∈ gt := gt_in 1733 (by decide +kernel) (by decide +kernel)
theorem k1734 : Cond.code yX11_deep cX11_deep 7 (some .int) ∈ gt := gt_in 1734 (by decide +kernel) (by decide +kernel)
theorem np_X11_deep : yX11_deep.cls ≠ "java/lang/invoke/MethodHandle" ∧ yX11_deep.cls ≠ "java/lang/invoke/VarHandle" ∧ (parseMethodDescriptor yX11_deep.desc).map (fun d => d.parameters.length) = some 2 := by decide +kernel
theorem k1150 : Cond.methodLink RL 136 yX10_safe ∈ gt := gt_in 1150 (by decide +kernel) (by decide +kernel)
theorem k1151 : Cond.instanceMethod yX10_safe ∈ gt := gt_in 1151 (by decide +kernel) (by decide +kernel)
theorem k1152 : Cond.selects RX10 yX10_safe yX10_safe ∈ gt := gt_in 1152 (by decide +kernel) (by decide +kernel)
theorem k1153 : Cond.code yX10_safe cX10_safe 4 (some .int) ∈ gt := gt_in 1153 (by decide +kernel) (by decide +kernel)
theorem np_X10_safe : yX10_safe.cls ≠ "java/lang/invoke/MethodHandle" ∧ yX10_safe.cls ≠ "java/lang/invoke/VarHandle" ∧ (parseMethodDescriptor yX10_safe.desc).map (fun d => d.parameters.length) = some 2 := by decide +kernel
theorem k1735 : Cond.methodLink RL 139 yX11_safe ∈ gt := gt_in 1735 (by decide +kernel) (by decide +kernel)
theorem k1736 : Cond.instanceMethod yX11_safe ∈ gt := gt_in 1736 (by decide +kernel) (by decide +kernel)
theorem k1737 : Cond.selects RX11 yX11_safe yX11_safe ∈ gt := gt_in 1737 (by decide +kernel) (by decide +kernel)
theorem k1738 : Cond.code yX11_safe cX11_safe 5 (some .int) ∈ gt := gt_in 1738 (by decide +kernel) (by decide +kernel)
theorem np_X11_safe : yX11_safe.cls ≠ "java/lang/invoke/MethodHandle" ∧ yX11_safe.cls ≠ "java/lang/invoke/VarHandle" ∧ (parseMethodDescriptor yX11_safe.desc).map (fun d => d.parameters.length) = some 2 := by decide +kernel
theorem k1154 : Cond.methodLink RL 140 yX10_weighs ∈ gt := gt_in 1154 (by decide +kernel) (by decide +kernel)
theorem k1155 : Cond.instanceMethod yX10_weighs ∈ gt := gt_in 1155 (by decide +kernel) (by decide +kernel)
theorem k1156 : Cond.selects RX10 yX10_weighs yX10_weighs ∈ gt := gt_in 1156 (by decide +kernel) (by decide +kernel)
theorem k1157 : Cond.code yX10_weighs cX10_weighs 3 (some .int) ∈ gt := gt_in 1157 (by decide +kernel) (by decide +kernel)
theorem np_X10_weighs : yX10_weighs.cls ≠ "java/lang/invoke/MethodHandle" ∧ yX10_weighs.cls ≠ "java/lang/invoke/VarHandle" ∧ (parseMethodDescriptor yX10_weighs.desc).map (fun d => d.parameters.length) = some 2 := by decide +kernel
theorem k1739 : Cond.methodLink RL 143 yX11_weighs ∈ gt := gt_in 1739 (by decide +kernel) (by decide +kernel)
theorem k1740 : Cond.instanceMethod yX11_weighs ∈ gt := gt_in 1740 (by decide +kernel) (by decide +kernel)
theorem k1741 : Cond.selects RX11 yX11_weighs yX11_weighs ∈ gt := gt_in 1741 (by decide +kernel) (by decide +kernel)
theorem k1742 : Cond.code yX11_weighs cX11_weighs 12 (some .int) ∈ gt := gt_in 1742 (by decide +kernel) (by decide +kernel)
theorem np_X11_weighs : yX11_weighs.cls ≠ "java/lang/invoke/MethodHandle" ∧ yX11_weighs.cls ≠ "java/lang/invoke/VarHandle" ∧ (parseMethodDescriptor yX11_weighs.desc).map (fun d => d.parameters.length) = some 2 := by decide +kernel
theorem k1162 : Cond.methodLink RL 144 yX10_upon ∈ gt := gt_in 1162 (by decide +kernel) (by decide +kernel)
theorem k1163 : Cond.instanceMethod yX10_upon ∈ gt := gt_in 1163 (by decide +kernel) (by decide +kernel)
theorem k1164 : Cond.selects RX10 yX10_upon yX10_upon ∈ gt := gt_in 1164 (by decide +kernel) (by decide +kernel)
theorem k1165 : Cond.code yX10_upon cX10_upon 5 (some .int) ∈ gt := gt_in 1165 (by decide +kernel) (by decide +kernel)
theorem np_X10_upon : yX10_upon.cls ≠ "java/lang/invoke/MethodHandle" ∧ yX10_upon.cls ≠ "java/lang/invoke/VarHandle" ∧ (parseMethodDescriptor yX10_upon.desc).map (fun d => d.parameters.length) = some 4 := by decide +kernel
theorem k1743 : Cond.methodLink RL 147 yX11_upon ∈ gt := gt_in 1743 (by decide +kernel) (by decide +kernel)
theorem k1744 : Cond.instanceMethod yX11_upon ∈ gt := gt_in 1744 (by decide +kernel) (by decide +kernel)
theorem k1745 : Cond.selects RX11 yX11_upon yX11_upon ∈ gt := gt_in 1745 (by decide +kernel) (by decide +kernel)
theorem k1746 : Cond.code yX11_upon cX11_upon 9 (some .int) ∈ gt := gt_in 1746 (by decide +kernel) (by decide +kernel)
theorem np_X11_upon : yX11_upon.cls ≠ "java/lang/invoke/MethodHandle" ∧ yX11_upon.cls ≠ "java/lang/invoke/VarHandle" ∧ (parseMethodDescriptor yX11_upon.desc).map (fun d => d.parameters.length) = some 4 := by decide +kernel
theorem k1178 : Cond.methodLink RL 148 yX10_runs ∈ gt := gt_in 1178 (by decide +kernel) (by decide +kernel)
theorem k1179 : Cond.instanceMethod yX10_runs ∈ gt := gt_in 1179 (by decide +kernel) (by decide +kernel)
theorem k1180 : Cond.selects RX10 yX10_runs yX10_runs ∈ gt := gt_in 1180 (by decide +kernel) (by decide +kernel)
theorem k1181 : Cond.code yX10_runs cX10_runs 5 (some .int) ∈ gt := gt_in 1181 (by decide +kernel) (by decide +kernel)
theorem np_X10_runs : yX10_runs.cls ≠ "java/lang/invoke/MethodHandle" ∧ yX10_runs.cls ≠ "java/lang/invoke/VarHandle" ∧ (parseMethodDescriptor yX10_runs.desc).map (fun d => d.parameters.length) = some 3 := by decide +kernel
theorem k1751 : Cond.methodLink RL 151 yX11_runs ∈ gt := gt_in 1751 (by decide +kernel) (by decide +kernel)
theorem k1752 : Cond.instanceMethod yX11_runs ∈ gt := gt_in 1752 (by decide +kernel) (by decide +kernel)
theorem k1753 : Cond.selects RX11 yX11_runs yX11_runs ∈ gt := gt_in 1753 (by decide +kernel) (by decide +kernel)
theorem k1754 : Cond.code yX11_runs cX11_runs 5 (some .int) ∈ gt := gt_in 1754 (by decide +kernel) (by decide +kernel)
theorem np_X11_runs : yX11_runs.cls ≠ "java/lang/invoke/MethodHandle" ∧ yX11_runs.cls ≠ "java/lang/invoke/VarHandle" ∧ (parseMethodDescriptor yX11_runs.desc).map (fun d => d.parameters.length) = some 3 := by decide +kernel
theorem k1182 : Cond.methodLink RL 152 yX10_joint ∈ gt := gt_in 1182 (by decide +kernel) (by decide +kernel)
theorem k1183 : Cond.instanceMethod yX10_joint ∈ gt := gt_in 1183 (by decide +kernel) (by decide +kernel)
theorem k1184 : Cond.selects RX10 yX10_joint yX10_joint ∈ gt := gt_in 1184 (by decide +kernel) (by decide +kernel)
theorem k1185 : Cond.code yX10_joint cX10_joint 5 (some .long) ∈ gt := gt_in 1185 (by decide +kernel) (by decide +kernel)
theorem np_X10_joint : yX10_joint.cls ≠ "java/lang/invoke/MethodHandle" ∧ yX10_joint.cls ≠ "java/lang/invoke/VarHandle" ∧ (parseMethodDescriptor yX10_joint.desc).map (fun d => d.parameters.length) = some 4 := by decide +kernel
theorem k1755 : Cond.methodLink RL 155 yX11_joint ∈ gt := gt_in 1755 (by decide +kernel) (by decide +kernel)
theorem k1756 : Cond.instanceMethod yX11_joint ∈ gt := gt_in 1756 (by decide +kernel) (by decide +kernel)
theorem k1757 : Cond.selects RX11 yX11_joint yX11_joint ∈ gt := gt_in 1757 (by decide +kernel) (by decide +kernel)
theorem k1758 : Cond.code yX11_joint cX11_joint 5 (some .long) ∈ gt := gt_in 1758 (by decide +kernel) (by decide +kernel)
theorem np_X11_joint : yX11_joint.cls ≠ "java/lang/invoke/MethodHandle" ∧ yX11_joint.cls ≠ "java/lang/invoke/VarHandle" ∧ (parseMethodDescriptor yX11_joint.desc).map (fun d => d.parameters.length) = some 4 := by decide +kernel
theorem k1186 : Cond.methodLink RL 156 yX10_given ∈ gt := gt_in 1186 (by decide +kernel) (by decide +kernel)
theorem k1187 : Cond.instanceMethod yX10_given ∈ gt := gt_in 1187 (by decide +kernel) (by decide +kernel)
theorem k1188 : Cond.selects RX10 yX10_given yX10_given ∈ gt := gt_in 1188 (by decide +kernel) (by decide +kernel)
theorem k1189 : Cond.code yX10_given cX10_given 8 (some .long) ∈ gt := gt_in 1189 (by decide +kernel) (by decide +kernel)
theorem np_X10_given : yX10_given.cls ≠ "java/lang/invoke/MethodHandle" ∧ yX10_given.cls ≠ "java/lang/invoke/VarHandle" ∧ (parseMethodDescriptor yX10_given.desc).map (fun d => d.parameters.length) = some 5 := by decide +kernel
theorem k1763 : Cond.methodLink RL 160 yX11_given ∈ gt := gt_in 1763 (by decide +kernel) (by decide +kernel)
theorem k1764 : Cond.instanceMethod yX11_given ∈ gt := gt_in 1764 (by decide +kernel) (by decide +kernel)
theorem k1765 : Cond.selects RX11 yX11_given yX11_given ∈ gt := gt_in 1765 (by decide +kernel) (by decide +kernel)
theorem k1766 : Cond.code yX11_given cX11_given 10 (some .long) ∈ gt := gt_in 1766 (by decide +kernel) (by decide +kernel)
theorem np_X11_given : yX11_given.cls ≠ "java/lang/invoke/MethodHandle" ∧ yX11_given.cls ≠ "java/lang/invoke/VarHandle" ∧ (parseMethodDescriptor yX11_given.desc).map (fun d => d.parameters.length) = some 5 := by decide +kernel
theorem k1190 : Cond.methodLink RL 161 yX10_worst ∈ gt := gt_in 1190 (by decide +kernel) (by decide +kernel)
theorem k1191 : Cond.instanceMethod yX10_worst ∈ gt := gt_in 1191 (by decide +kernel) (by decide +kernel)
theorem k1192 : Cond.selects RX10 yX10_worst yX10_worst ∈ gt := gt_in 1192 (by decide +kernel) (by decide +kernel)
theorem k1193 : Cond.code yX10_worst cX10_worst 4 (some .long) ∈ gt := gt_in 1193 (by decide +kernel) (by decide +kernel)
theorem np_X10_worst : yX10_worst.cls ≠ "java/lang/invoke/MethodHandle" ∧ yX10_worst.cls ≠ "java/lang/invoke/VarHandle" ∧ (parseMethodDescriptor yX10_worst.desc).map (fun d => d.parameters.length) = some 3 := by decide +kernel
theorem k1770 : Cond.methodLink RL 164 yX11_worst ∈ gt := gt_in 1770 (by decide +kernel) (by decide +kernel)
theorem k1771 : Cond.instanceMethod yX11_worst ∈ gt := gt_in 1771 (by decide +kernel) (by decide +kernel)
theorem k1772 : Cond.selects RX11 yX11_worst yX11_worst ∈ gt := gt_in 1772 (by decide +kernel) (by decide +kernel)
theorem k1773 : Cond.code yX11_worst cX11_worst 9 (some .long) ∈ gt := gt_in 1773 (by decide +kernel) (by decide +kernel)
theorem np_X11_worst : yX11_worst.cls ≠ "java/lang/invoke/MethodHandle" ∧ yX11_worst.cls ≠ "java/lang/invoke/VarHandle" ∧ (parseMethodDescriptor yX11_worst.desc).map (fun d => d.parameters.length) = some 3 := by decide +kernel
theorem k1199 : Cond.methodLink RL 165 yX10_flood ∈ gt := gt_in 1199 (by decide +kernel) (by decide +kernel)
theorem k1200 : Cond.instanceMethod yX10_flood ∈ gt := gt_in 1200 (by decide +kernel) (by decide +kernel)
theorem k1201 : Cond.selects RX10 yX10_flood yX10_flood ∈ gt := gt_in 1201 (by decide +kernel) (by decide +kernel)
theorem k1202 : Cond.code yX10_flood cX10_flood 3 (some .int) ∈ gt := gt_in 1202 (by decide +kernel) (by decide +kernel)
theorem np_X10_flood : yX10_flood.cls ≠ "java/lang/invoke/MethodHandle" ∧ yX10_flood.cls ≠ "java/lang/invoke/VarHandle" ∧ (parseMethodDescriptor yX10_flood.desc).map (fun d => d.parameters.length) = some 2 := by decide +kernel
theorem k1774 : Cond.methodLink RL 168 yX11_flood ∈ gt := gt_in 1774 (by decide +kernel) (by decide +kernel)
theorem k1775 : Cond.instanceMethod yX11_flood ∈ gt := gt_in 1775 (by decide +kernel) (by decide +kernel)
theorem k1776 : Cond.selects RX11 yX11_flood yX11_flood ∈ gt := gt_in 1776 (by decide +kernel) (by decide +kernel)
theorem k1777 : Cond.code yX11_flood cX11_flood 6 (some .int) ∈ gt := gt_in 1777 (by decide +kernel) (by decide +kernel)
theorem np_X11_flood : yX11_flood.cls ≠ "java/lang/invoke/MethodHandle" ∧ yX11_flood.cls ≠ "java/lang/invoke/VarHandle" ∧ (parseMethodDescriptor yX11_flood.desc).map (fun d => d.parameters.length) = some 2 := by decide +kernel
theorem k1207 : Cond.methodLink RL 169 yX10_around ∈ gt := gt_in 1207 (by decide +kernel) (by decide +kernel)
theorem k1208 : Cond.instanceMethod yX10_around ∈ gt := gt_in 1208 (by decide +kernel) (by decide +kernel)
theorem k1209 : Cond.selects RX10 yX10_around yX10_around ∈ gt := gt_in 1209 (by decide +kernel) (by decide +kernel)
theorem k1210 : Cond.code yX10_around cX10_around 4 (some .int) ∈ gt := gt_in 1210 (by decide +kernel) (by decide +kernel)
theorem np_X10_around : yX10_around.cls ≠ "java/lang/invoke/MethodHandle" ∧ yX10_around.cls ≠ "java/lang/invoke/VarHandle" ∧ (parseMethodDescriptor yX10_around.desc).map (fun d => d.parameters.length) = some 3 := by decide +kernel
theorem k1778 : Cond.methodLink RL 173 yX11_around ∈ gt := gt_in 1778 (by decide +kernel) (by decide +kernel)
theorem k1779 : Cond.instanceMethod yX11_around ∈ gt := gt_in 1779 (by decide +kernel) (by decide +kernel)
theorem k1780 : Cond.selects RX11 yX11_around yX11_around ∈ gt := gt_in 1780 (by decide +kernel) (by decide +kernel)
theorem k1781 : Cond.code yX11_around cX11_around 13 (some .int) ∈ gt := gt_in 1781 (by decide +kernel) (by decide +kernel)
theorem np_X11_around : yX11_around.cls ≠ "java/lang/invoke/MethodHandle" ∧ yX11_around.cls ≠ "java/lang/invoke/VarHandle" ∧ (parseMethodDescriptor yX11_around.desc).map (fun d => d.parameters.length) = some 3 := by decide +kernel
theorem k1216 : Cond.methodLink RL 174 yX10_twice ∈ gt := gt_in 1216 (by decide +kernel) (by decide +kernel)
theorem k1217 : Cond.instanceMethod yX10_twice ∈ gt := gt_in 1217 (by decide +kernel) (by decide +kernel)
theorem k1218 : Cond.selects RX10 yX10_twice yX10_twice ∈ gt := gt_in 1218 (by decide +kernel) (by decide +kernel)
theorem k1219 : Cond.code yX10_twice cX10_twice 8 (some .int) ∈ gt := gt_in 1219 (by decide +kernel) (by decide +kernel)
theorem np_X10_twice : yX10_twice.cls ≠ "java/lang/invoke/MethodHandle" ∧ yX10_twice.cls ≠ "java/lang/invoke/VarHandle" ∧ (parseMethodDescriptor yX10_twice.desc).map (fun d => d.parameters.length) = some 7 := by decide +kernel
theorem k1782 : Cond.methodLink RL 178 yX11_twice ∈ gt := gt_in 1782 (by decide +kernel) (by decide +kernel)
theorem k1783 : Cond.instanceMethod yX11_twice ∈ gt := gt_in 1783 (by decide +kernel) (by decide +kernel)
theorem k1784 : Cond.selects RX11 yX11_twice yX11_twice ∈ gt := gt_in 1784 (by decide +kernel) (by decide +kernel)
theorem k1785 : Cond.code yX11_twice cX11_twice 9 (some .int) ∈ gt := gt_in 1785 (by decide +kernel) (by decide +kernel)
theorem np_X11_twice : yX11_twice.cls ≠ "java/lang/invoke/MethodHandle" ∧ yX11_twice.cls ≠ "java/lang/invoke/VarHandle" ∧ (parseMethodDescriptor yX11_twice.desc).map (fun d => d.parameters.length) = some 7 := by decide +kernel
theorem k1228 : Cond.methodLink RL 179 yX10_better ∈ gt := gt_in 1228 (by decide +kernel) (by decide +kernel)
theorem k1229 : Cond.instanceMethod yX10_better ∈ gt := gt_in 1229 (by decide +kernel) (by decide +kernel)
theorem k1230 : Cond.selects RX10 yX10_better yX10_better ∈ gt := gt_in 1230 (by decide +kernel) (by decide +kernel)
theorem k1231 : Cond.code yX10_better cX10_better 8 (some .int) ∈ gt := gt_in 1231 (by decide +kernel) (by decide +kernel)
theorem np_X10_better : yX10_better.cls ≠ "java/lang/invoke/MethodHandle" ∧ yX10_better.cls ≠ "java/lang/invoke/VarHandle" ∧ (parseMethodDescriptor yX10_better.desc).map (fun d => d.parameters.length) = some 3 := by decide +kernel
theorem k1786 : Cond.methodLink RL 182 yX11_better ∈ gt := gt_in 1786 (by decide +kernel) (by decide +kernel)
theorem k1787 : Cond.instanceMethod yX11_better ∈ gt := gt_in 1787 (by decide +kernel) (by decide +kernel)
theorem k1788 : Cond.selects RX11 yX11_better yX11_better ∈ gt := gt_in 1788 (by decide +kernel) (by decide +kernel)
theorem k1789 : Cond.code yX11_better cX11_better 8 (some .int) ∈ gt := gt_in 1789 (by decide +kernel) (by decide +kernel)
theorem np_X11_better : yX11_better.cls ≠ "java/lang/invoke/MethodHandle" ∧ yX11_better.cls ≠ "java/lang/invoke/VarHandle" ∧ (parseMethodDescriptor yX11_better.desc).map (fun d => d.parameters.length) = some 3 := by decide +kernel
theorem k1232 : Cond.methodLink RL 183 yX10_spend ∈ gt := gt_in 1232 (by decide +kernel) (by decide +kernel)
theorem k1233 : Cond.instanceMethod yX10_spend ∈ gt := gt_in 1233 (by decide +kernel) (by decide +kernel)
theorem k1234 : Cond.selects RX10 yX10_spend yX10_spend ∈ gt := gt_in 1234 (by decide +kernel) (by decide +kernel)
theorem k1235 : Cond.code yX10_spend cX10_spend 5 (some .int) ∈ gt := gt_in 1235 (by decide +kernel) (by decide +kernel)
theorem np_X10_spend : yX10_spend.cls ≠ "java/lang/invoke/MethodHandle" ∧ yX10_spend.cls ≠ "java/lang/invoke/VarHandle" ∧ (parseMethodDescriptor yX10_spend.desc).map (fun d => d.parameters.length) = some 4 := by decide +kernel
theorem k1790 : Cond.methodLink RL 186 yX11_spend ∈ gt := gt_in 1790 (by decide +kernel) (by decide +kernel)
theorem k1791 : Cond.instanceMethod yX11_spend ∈ gt := gt_in 1791 (by decide +kernel) (by decide +kernel)
theorem k1792 : Cond.selects RX11 yX11_spend yX11_spend ∈ gt := gt_in 1792 (by decide +kernel) (by decide +kernel)
theorem k1793 : Cond.code yX11_spend cX11_spend 9 (some .int) ∈ gt := gt_in 1793 (by decide +kernel) (by decide +kernel)
theorem np_X11_spend : yX11_spend.cls ≠ "java/lang/invoke/MethodHandle" ∧ yX11_spend.cls ≠ "java/lang/invoke/VarHandle" ∧ (parseMethodDescriptor yX11_spend.desc).map (fun d => d.parameters.length) = some 4 := by decide +kernel
theorem k1241 : Cond.methodLink RL 187 yX10_count ∈ gt := gt_in 1241 (by decide +kernel) (by decide +kernel)
theorem k1242 : Cond.instanceMethod yX10_count ∈ gt := gt_in 1242 (by decide +kernel) (by decide +kernel)
theorem k1243 : Cond.selects RX10 yX10_count yX10_count ∈ gt := gt_in 1243 (by decide +kernel) (by decide +kernel)
theorem k1244 : Cond.code yX10_count cX10_count 2 (some .int) ∈ gt := gt_in 1244 (by decide +kernel) (by decide +kernel)
theorem np_X10_count : yX10_count.cls ≠ "java/lang/invoke/MethodHandle" ∧ yX10_count.cls ≠ "java/lang/invoke/VarHandle" ∧ (parseMethodDescriptor yX10_count.desc).map (fun d => d.parameters.length) = some 1 := by decide +kernel
theorem k1794 : Cond.methodLink RL 190 yX11_count ∈ gt := gt_in 1794 (by decide +kernel) (by decide +kernel)
theorem k1795 : Cond.instanceMethod yX11_count ∈ gt := gt_in 1795 (by decide +kernel) (by decide +kernel)
theorem k1796 : Cond.selects RX11 yX11_count yX11_count ∈ gt := gt_in 1796 (by decide +kernel) (by decide +kernel)
theorem k1797 : Cond.code yX11_count cX11_count 2 (some .int) ∈ gt := gt_in 1797 (by decide +kernel) (by decide +kernel)
theorem np_X11_count : yX11_count.cls ≠ "java/lang/invoke/MethodHandle" ∧ yX11_count.cls ≠ "java/lang/invoke/VarHandle" ∧ (parseMethodDescriptor yX11_count.desc).map (fun d => d.parameters.length) = some 1 := by decide +kernel
theorem k1245 : Cond.methodLink RL 191 yX10_image ∈ gt := gt_in 1245 (by decide +kernel) (by decide +kernel)
theorem k1246 : Cond.instanceMethod yX10_image ∈ gt := gt_in 1246 (by decide +kernel) (by decide +kernel)
theorem k1247 : Cond.selects RX10 yX10_image yX10_image ∈ gt := gt_in 1247 (by decide +kernel) (by decide +kernel)
theorem k1248 : Cond.code yX10_image cX10_image 2 (some .boolean) ∈ gt := gt_in 1248 (by decide +kernel) (by decide +kernel)
theorem np_X10_image : yX10_image.cls ≠ "java/lang/invoke/MethodHandle" ∧ yX10_image.cls ≠ "java/lang/invoke/VarHandle" ∧ (parseMethodDescriptor yX10_image.desc).map (fun d => d.parameters.length) = some 1 := by decide +kernel
theorem k1798 : Cond.methodLink RL 195 yX11_image ∈ gt := gt_in 1798 (by decide +kernel) (by decide +kernel)
theorem k1799 : Cond.instanceMethod yX11_image ∈ gt := gt_in 1799 (by decide +kernel) (by decide +kernel)
theorem k1800 : Cond.selects RX11 yX11_image yX11_image ∈ gt := gt_in 1800 (by decide +kernel) (by decide +kernel)
theorem k1801 : Cond.code yX11_image cX11_image 2 (some .boolean) ∈ gt := gt_in 1801 (by decide +kernel) (by decide +kernel)
theorem np_X11_image : yX11_image.cls ≠ "java/lang/invoke/MethodHandle" ∧ yX11_image.cls ≠ "java/lang/invoke/VarHandle" ∧ (parseMethodDescriptor yX11_image.desc).map (fun d => d.parameters.length) = some 1 := by decide +kernel
theorem k1254 : Cond.methodLink RL 196 yX10_again ∈ gt := gt_in 1254 (by decide +kernel) (by decide +kernel)
theorem k1255 : Cond.instanceMethod yX10_again ∈ gt := gt_in 1255 (by decide +kernel) (by decide +kernel)
theorem k1256 : Cond.selects RX10 yX10_again yX10_again ∈ gt := gt_in 1256 (by decide +kernel) (by decide +kernel)
theorem k1257 : Cond.code yX10_again cX10_again 2 (some .boolean) ∈ gt := gt_in 1257 (by decide +kernel) (by decide +kernel)
theorem np_X10_again : yX10_again.cls ≠ "java/lang/invoke/MethodHandle" ∧ yX10_again.cls ≠ "java/lang/invoke/VarHandle" ∧ (parseMethodDescriptor yX10_again.desc).map (fun d => d.parameters.length) = some 1 := by decide +kernel
theorem k1809 : Cond.methodLink RL 199 yX11_again ∈ gt := gt_in 1809 (by decide +kernel) (by decide +kernel)
theorem k1810 : Cond.instanceMethod yX11_again ∈ gt := gt_in 1810 (by decide +kernel) (by decide +kernel)
theorem k1811 : Cond.selects RX11 yX11_again yX11_again ∈ gt := gt_in 1811 (by decide +kernel) (by decide +kernel)
theorem k1812 : Cond.code yX11_again cX11_again 2 (some .boolean) ∈ gt := gt_in 1812 (by decide +kernel) (by decide +kernel)
theorem np_X11_again : yX11_again.cls ≠ "java/lang/invoke/MethodHandle" ∧ yX11_again.cls ≠ "java/lang/invoke/VarHandle" ∧ (parseMethodDescriptor yX11_again.desc).map (fun d => d.parameters.length) = some 1 := by decide +kernel
theorem k107 : Cond.classLink RL 7 RX10 ∈ gt := gt_in 107 (by decide +kernel) (by decide +kernel)
theorem k108 : Cond.instantiable RX10 10 ∈ gt := gt_in 108 (by decide +kernel) (by decide +kernel)
theorem k109 : Cond.methodLink RL 9 yX10_init ∈ gt := gt_in 109 (by decide +kernel) (by decide +kernel)
theorem k110 : Cond.instanceMethod yX10_init ∈ gt := gt_in 110 (by decide +kernel) (by decide +kernel)
theorem k111 : Cond.code yX10_init cX10_init 2 none ∈ gt := gt_in 111 (by decide +kernel) (by decide +kernel)
theorem np_X10_init : yX10_init.cls ≠ "java/lang/invoke/MethodHandle" ∧ yX10_init.cls ≠ "java/lang/invoke/VarHandle" ∧ (parseMethodDescriptor yX10_init.desc).map (fun d => d.parameters.length) = some 0 := by decide +kernel
theorem k1258 : Cond.classLink RL 10 RX11 ∈ gt := gt_in 1258 (by decide +kernel) (by decide +kernel)
theorem k1259 : Cond.instantiable RX11 43 ∈ gt := gt_in 1259 (by decide +kernel) (by decide +kernel)
theorem k1260 : Cond.methodLink RL 12 yX11_init ∈ gt := gt_in 1260 (by decide +kernel) (by decide +kernel)
theorem k1261 : Cond.instanceMethod yX11_init ∈ gt := gt_in 1261 (by decide +kernel) (by decide +kernel)
theorem k1262 : Cond.code yX11_init cX11_init 1 none ∈ gt := gt_in 1262 (by decide +kernel) (by decide +kernel)
theorem np_X11_init : yX11_init.cls ≠ "java/lang/invoke/MethodHandle" ∧ yX11_init.cls ≠ "java/lang/invoke/VarHandle" ∧ (parseMethodDescriptor yX11_init.desc).map (fun d => d.parameters.length) = some 0 := by decide +kernel
theorem k1105 : Cond.instantiable RX9 1 ∈ gt := gt_in 1105 (by decide +kernel) (by decide +kernel)
theorem dL_law_0 : decode cL_law 0 = .ok (.new 7, 3) := by decide +kernel
theorem dL_law_3 : decode cL_law 3 = .ok (.dup, 1) := by decide +kernel
theorem dL_law_4 : decode cL_law 4 = .ok (.invokespecial 9, 3) := by decide +kernel
theorem dL_law_7 : decode cL_law 7 = .ok (.astore_n 1, 1) := by decide +kernel
theorem dL_law_8 : decode cL_law 8 = .ok (.new 10, 3) := by decide +kernel
theorem dL_law_11 : decode cL_law 11 = .ok (.dup, 1) := by decide +kernel
theorem dL_law_12 : decode cL_law 12 = .ok (.invokespecial 12, 3) := by decide +kernel
theorem dL_law_15 : decode cL_law 15 = .ok (.astore_n 2, 1) := by decide +kernel
theorem dL_law_16 : decode cL_law 16 = .ok (.iconst 0, 1) := by decide +kernel
theorem dL_law_17 : decode cL_law 17 = .ok (.istore_n 3, 1) := by decide +kernel
theorem dL_law_18 : decode cL_law 18 = .ok (.iload_n 3, 1) := by decide +kernel
theorem dL_law_19 : decode cL_law 19 = .ok (.aload_n 0, 1) := by decide +kernel
theorem dL_law_20 : decode cL_law 20 = .ok (.arraylength, 1) := by decide +kernel
theorem dL_law_21 : decode cL_law 21 = .ok (.bipush 8, 2) := by decide +kernel
theorem dL_law_23 : decode cL_law 23 = .ok (.isub, 1) := by decide +kernel
theorem dL_law_24 : decode cL_law 24 = .ok (.if_icmp .gt 2250, 3) := by decide +kernel
theorem dL_law_27 : decode cL_law 27 = .ok (.aload_n 0, 1) := by decide +kernel
theorem dL_law_28 : decode cL_law 28 = .ok (.iload_n 3, 1) := by decide +kernel
theorem dL_law_29 : decode cL_law 29 = .ok (.iaload, 1) := by decide +kernel
theorem dL_law_30 : decode cL_law 30 = .ok (.bipush 63, 2) := by decide +kernel
theorem dL_law_32 : decode cL_law 32 = .ok (.iand, 1) := by decide +kernel
theorem dL_law_33 : decode cL_law 33 = .ok (.tableswitch 2235 0 42 #[187, 250, 273, 306, 329, 362, 415, 458, 501, 564, 608, 652, 712, 765, 818, 871, 915, 975, 1018, 1072, 1116, 1170, 1240, 1293, 1362, 1395, 1459, 1502, 1535, 1568, 1601, 1670, 1713, 1767, 1847, 1891, 1924, 1983, 2070, 2113, 2166, 2189, 2212], 187) := by decide +kernel
theorem dL_law_220 : decode cL_law 220 = .ok (.aload_n 1, 1) := by decide +kernel
theorem dL_law_221 : decode cL_law 221 = .ok (.aload_n 0, 1) := by decide +kernel
theorem dL_law_222 : decode cL_law 222 = .ok (.iload_n 3, 1) := by decide +kernel
theorem dL_law_223 : decode cL_law 223 = .ok (.iconst 1, 1) := by decide +kernel
theorem dL_law_224 : decode cL_law 224 = .ok (.iadd, 1) := by decide +kernel
theorem dL_law_225 : decode cL_law 225 = .ok (.iaload, 1) := by decide +kernel
theorem dL_law_226 : decode cL_law 226 = .ok (.aload_n 0, 1) := by decide +kernel
theorem dL_law_227 : decode cL_law 227 = .ok (.iload_n 3, 1) := by decide +kernel
theorem dL_law_228 : decode cL_law 228 = .ok (.iconst 2, 1) := by decide +kernel
theorem dL_law_229 : decode cL_law 229 = .ok (.iadd, 1) := by decide +kernel
theorem dL_law_230 : decode cL_law 230 = .ok (.iaload, 1) := by decide +kernel
theorem dL_law_231 : decode cL_law 231 = .ok (.aload_n 0, 1) := by decide +kernel
theorem dL_law_232 : decode cL_law 232 = .ok (.iload_n 3, 1) := by decide +kernel
theorem dL_law_233 : decode cL_law 233 = .ok (.iconst 3, 1) := by decide +kernel
theorem dL_law_234 : decode cL_law 234 = .ok (.iadd, 1) := by decide +kernel
theorem dL_law_235 : decode cL_law 235 = .ok (.iaload, 1) := by decide +kernel
theorem dL_law_236 : decode cL_law 236 = .ok (.aload_n 0, 1) := by decide +kernel
theorem dL_law_237 : decode cL_law 237 = .ok (.iload_n 3, 1) := by decide +kernel
theorem dL_law_238 : decode cL_law 238 = .ok (.iconst 4, 1) := by decide +kernel
theorem dL_law_239 : decode cL_law 239 = .ok (.iadd, 1) := by decide +kernel
theorem dL_law_240 : decode cL_law 240 = .ok (.iaload, 1) := by decide +kernel
theorem dL_law_241 : decode cL_law 241 = .ok (.aload_n 0, 1) := by decide +kernel
theorem dL_law_242 : decode cL_law 242 = .ok (.iload_n 3, 1) := by decide +kernel
theorem dL_law_243 : decode cL_law 243 = .ok (.iconst 5, 1) := by decide +kernel
theorem dL_law_244 : decode cL_law 244 = .ok (.iadd, 1) := by decide +kernel
theorem dL_law_245 : decode cL_law 245 = .ok (.iaload, 1) := by decide +kernel
theorem dL_law_246 : decode cL_law 246 = .ok (.invokevirtual 13, 3) := by decide +kernel
theorem dL_law_249 : decode cL_law 249 = .ok (.aload_n 2, 1) := by decide +kernel
theorem dL_law_250 : decode cL_law 250 = .ok (.aload_n 0, 1) := by decide +kernel
theorem dL_law_251 : decode cL_law 251 = .ok (.iload_n 3, 1) := by decide +kernel
theorem dL_law_252 : decode cL_law 252 = .ok (.iconst 1, 1) := by decide +kernel
theorem dL_law_253 : decode cL_law 253 = .ok (.iadd, 1) := by decide +kernel
theorem dL_law_254 : decode cL_law 254 = .ok (.iaload, 1) := by decide +kernel
theorem dL_law_255 : decode cL_law 255 = .ok (.aload_n 0, 1) := by decide +kernel
theorem dL_law_256 : decode cL_law 256 = .ok (.iload_n 3, 1) := by decide +kernel
theorem dL_law_257 : decode cL_law 257 = .ok (.iconst 2, 1) := by decide +kernel
theorem dL_law_258 : decode cL_law 258 = .ok (.iadd, 1) := by decide +kernel
theorem dL_law_259 : decode cL_law 259 = .ok (.iaload, 1) := by decide +kernel
theorem dL_law_260 : decode cL_law 260 = .ok (.aload_n 0, 1) := by decide +kernel
theorem dL_law_261 : decode cL_law 261 = .ok (.iload_n 3, 1) := by decide +kernel
theorem dL_law_262 : decode cL_law 262 = .ok (.iconst 3, 1) := by decide +kernel
theorem dL_law_263 : decode cL_law 263 = .ok (.iadd, 1) := by decide +kernel
theorem dL_law_264 : decode cL_law 264 = .ok (.iaload, 1) := by decide +kernel
theorem dL_law_265 : decode cL_law 265 = .ok (.aload_n 0, 1) := by decide +kernel
theorem dL_law_266 : decode cL_law 266 = .ok (.iload_n 3, 1) := by decide +kernel
theorem dL_law_267 : decode cL_law 267 = .ok (.iconst 4, 1) := by decide +kernel
theorem dL_law_268 : decode cL_law 268 = .ok (.iadd, 1) := by decide +kernel
theorem dL_law_269 : decode cL_law 269 = .ok (.iaload, 1) := by decide +kernel
theorem dL_law_270 : decode cL_law 270 = .ok (.aload_n 0, 1) := by decide +kernel
theorem dL_law_271 : decode cL_law 271 = .ok (.iload_n 3, 1) := by decide +kernel
theorem dL_law_272 : decode cL_law 272 = .ok (.iconst 5, 1) := by decide +kernel
theorem dL_law_273 : decode cL_law 273 = .ok (.iadd, 1) := by decide +kernel
theorem dL_law_274 : decode cL_law 274 = .ok (.iaload, 1) := by decide +kernel
theorem dL_law_275 : decode cL_law 275 = .ok (.invokevirtual 17, 3) := by decide +kernel
theorem dL_law_278 : decode cL_law 278 = .ok (.if_icmp .eq 1990, 3) := by decide +kernel
theorem dL_law_283 : decode cL_law 283 = .ok (.aload_n 1, 1) := by decide +kernel
theorem dL_law_284 : decode cL_law 284 = .ok (.aload_n 0, 1) := by decide +kernel
theorem dL_law_285 : decode cL_law 285 = .ok (.iload_n 3, 1) := by decide +kernel
theorem dL_law_286 : decode cL_law 286 = .ok (.iconst 1, 1) := by decide +kernel
theorem dL_law_287 : decode cL_law 287 = .ok (.iadd, 1) := by decide +kernel
theorem dL_law_288 : decode cL_law 288 = .ok (.iaload, 1) := by decide +kernel
theorem dL_law_289 : decode cL_law 289 = .ok (.invokevirtual 18, 3) := by decide +kernel
theorem dL_law_292 : decode cL_law 292 = .ok (.aload_n 2, 1) := by decide +kernel
theorem dL_law_293 : decode cL_law 293 = .ok (.aload_n 0, 1) := by decide +kernel
theorem dL_law_294 : decode cL_law 294 = .ok (.iload_n 3, 1) := by decide +kernel
theorem dL_law_295 : decode cL_law 295 = .ok (.iconst 1, 1) := by decide +kernel
theorem dL_law_296 : decode cL_law 296 = .ok (.iadd, 1) := by decide +kernel
theorem dL_law_297 : decode cL_law 297 = .ok (.iaload, 1) := by decide +kernel
theorem dL_law_298 : decode cL_law 298 = .ok (.invokevirtual 22, 3) := by decide +kernel
theorem dL_law_301 : decode cL_law 301 = .ok (.if_icmp .eq 1967, 3) := by decide +kernel
theorem dL_law_306 : decode cL_law 306 = .ok (.aload_n 1, 1) := by decide +kernel
theorem dL_law_307 : decode cL_law 307 = .ok (.aload_n 0, 1) := by decide +kernel
theorem dL_law_308 : decode cL_law 308 = .ok (.iload_n 3, 1) := by decide +kernel
theorem dL_law_309 : decode cL_law 309 = .ok (.iconst 1, 1) := by decide +kernel
theorem dL_law_310 : decode cL_law 310 = .ok (.iadd, 1) := by decide +kernel
theorem dL_law_311 : decode cL_law 311 = .ok (.iaload, 1) := by decide +kernel
theorem dL_law_312 : decode cL_law 312 = .ok (.aload_n 0, 1) := by decide +kernel
theorem dL_law_313 : decode cL_law 313 = .ok (.iload_n 3, 1) := by decide +kernel
theorem dL_law_314 : decode cL_law 314 = .ok (.iconst 2, 1) := by decide +kernel
theorem dL_law_315 : decode cL_law 315 = .ok (.iadd, 1) := by decide +kernel
theorem dL_law_316 : decode cL_law 316 = .ok (.iaload, 1) := by decide +kernel
theorem dL_law_317 : decode cL_law 317 = .ok (.invokevirtual 23, 3) := by decide +kernel
theorem dL_law_320 : decode cL_law 320 = .ok (.aload_n 2, 1) := by decide +kernel
theorem dL_law_321 : decode cL_law 321 = .ok (.aload_n 0, 1) := by decide +kernel
theorem dL_law_322 : decode cL_law 322 = .ok (.iload_n 3, 1) := by decide +kernel
theorem dL_law_323 : decode cL_law 323 = .ok (.iconst 1, 1) := by decide +kernel
theorem dL_law_324 : decode cL_law 324 = .ok (.iadd, 1) := by decide +kernel
theorem dL_law_325 : decode cL_law 325 = .ok (.iaload, 1) := by decide +kernel
theorem dL_law_326 : decode cL_law 326 = .ok (.aload_n 0, 1) := by decide +kernel
theorem dL_law_327 : decode cL_law 327 = .ok (.iload_n 3, 1) := by decide +kernel
theorem dL_law_328 : decode cL_law 328 = .ok (.iconst 2, 1) := by decide +kernel
theorem dL_law_329 : decode cL_law 329 = .ok (.iadd, 1) := by decide +kernel
theorem dL_law_330 : decode cL_law 330 = .ok (.iaload, 1) := by decide +kernel
theorem dL_law_331 : decode cL_law 331 = .ok (.invokevirtual 27, 3) := by decide +kernel
theorem dL_law_334 : decode cL_law 334 = .ok (.if_icmp .eq 1934, 3) := by decide +kernel
theorem dL_law_339 : decode cL_law 339 = .ok (.aload_n 1, 1) := by decide +kernel
theorem dL_law_340 : decode cL_law 340 = .ok (.aload_n 0, 1) := by decide +kernel
theorem dL_law_341 : decode cL_law 341 = .ok (.iload_n 3, 1) := by decide +kernel
theorem dL_law_342 : decode cL_law 342 = .ok (.iconst 1, 1) := by decide +kernel
theorem dL_law_343 : decode cL_law 343 = .ok (.iadd, 1) := by decide +kernel
theorem dL_law_344 : decode cL_law 344 = .ok (.iaload, 1) := by decide +kernel
theorem dL_law_345 : decode cL_law 345 = .ok (.invokevirtual 28, 3) := by decide +kernel
theorem dL_law_348 : decode cL_law 348 = .ok (.aload_n 2, 1) := by decide +kernel
theorem dL_law_349 : decode cL_law 349 = .ok (.aload_n 0, 1) := by decide +kernel
theorem dL_law_350 : decode cL_law 350 = .ok (.iload_n 3, 1) := by decide +kernel
theorem dL_law_351 : decode cL_law 351 = .ok (.iconst 1, 1) := by decide +kernel
theorem dL_law_352 : decode cL_law 352 = .ok (.iadd, 1) := by decide +kernel
theorem dL_law_353 : decode cL_law 353 = .ok (.iaload, 1) := by decide +kernel
theorem dL_law_354 : decode cL_law 354 = .ok (.invokevirtual 31, 3) := by decide +kernel
theorem dL_law_357 : decode cL_law 357 = .ok (.if_icmp .eq 1911, 3) := by decide +kernel
theorem dL_law_362 : decode cL_law 362 = .ok (.aload_n 1, 1) := by decide +kernel
theorem dL_law_363 : decode cL_law 363 = .ok (.aload_n 0, 1) := by decide +kernel
theorem dL_law_364 : decode cL_law 364 = .ok (.iload_n 3, 1) := by decide +kernel
theorem dL_law_365 : decode cL_law 365 = .ok (.iconst 1, 1) := by decide +kernel
theorem dL_law_366 : decode cL_law 366 = .ok (.iadd, 1) := by decide +kernel
theorem dL_law_367 : decode cL_law 367 = .ok (.iaload, 1) := by decide +kernel
theorem dL_law_368 : decode cL_law 368 = .ok (.aload_n 0, 1) := by decide +kernel
theorem dL_law_369 : decode cL_law 369 = .ok (.iload_n 3, 1) := by decide +kernel
theorem dL_law_370 : decode cL_law 370 = .ok (.iconst 2, 1) := by decide +kernel
theorem dL_law_371 : decode cL_law 371 = .ok (.iadd, 1) := by decide +kernel
theorem dL_law_372 : decode cL_law 372 = .ok (.iaload, 1) := by decide +kernel
theorem dL_law_373 : decode cL_law 373 = .ok (.invokevirtual 32, 3) := by decide +kernel
theorem dL_law_376 : decode cL_law 376 = .ok (.aload_n 2, 1) := by decide +kernel
theorem dL_law_377 : decode cL_law 377 = .ok (.aload_n 0, 1) := by decide +kernel
theorem dL_law_378 : decode cL_law 378 = .ok (.iload_n 3, 1) := by decide +kernel
theorem dL_law_379 : decode cL_law 379 = .ok (.iconst 1, 1) := by decide +kernel
theorem dL_law_380 : decode cL_law 380 = .ok (.iadd, 1) := by decide +kernel
theorem dL_law_381 : decode cL_law 381 = .ok (.iaload, 1) := by decide +kernel
theorem dL_law_382 : decode cL_law 382 = .ok (.aload_n 0, 1) := by decide +kernel
theorem dL_law_383 : decode cL_law 383 = .ok (.iload_n 3, 1) := by decide +kernel
theorem dL_law_384 : decode cL_law 384 = .ok (.iconst 2, 1) := by decide +kernel
theorem dL_law_385 : decode cL_law 385 = .ok (.iadd, 1) := by decide +kernel
theorem dL_law_386 : decode cL_law 386 = .ok (.iaload, 1) := by decide +kernel
theorem dL_law_387 : decode cL_law 387 = .ok (.invokevirtual 35, 3) := by decide +kernel
theorem dL_law_390 : decode cL_law 390 = .ok (.if_icmp .eq 1878, 3) := by decide +kernel
theorem dL_law_395 : decode cL_law 395 = .ok (.aload_n 1, 1) := by decide +kernel
theorem dL_law_396 : decode cL_law 396 = .ok (.aload_n 0, 1) := by decide +kernel
theorem dL_law_397 : decode cL_law 397 = .ok (.iload_n 3, 1) := by decide +kernel
theorem dL_law_398 : decode cL_law 398 = .ok (.iconst 1, 1) := by decide +kernel
theorem dL_law_399 : decode cL_law 399 = .ok (.iadd, 1) := by decide +kernel
theorem dL_law_400 : decode cL_law 400 = .ok (.iaload, 1) := by decide +kernel
theorem dL_law_401 : decode cL_law 401 = .ok (.aload_n 0, 1) := by decide +kernel
theorem dL_law_402 : decode cL_law 402 = .ok (.iload_n 3, 1) := by decide +kernel
theorem dL_law_403 : decode cL_law 403 = .ok (.iconst 2, 1) := by decide +kernel
theorem dL_law_404 : decode cL_law 404 = .ok (.iadd, 1) := by decide +kernel
theorem dL_law_405 : decode cL_law 405 = .ok (.iaload, 1) := by decide +kernel
theorem dL_law_406 : decode cL_law 406 = .ok (.aload_n 0, 1) := by decide +kernel
theorem dL_law_407 : decode cL_law 407 = .ok (.iload_n 3, 1) := by decide +kernel
theorem dL_law_408 : decode cL_law 408 = .ok (.iconst 3, 1) := by decide +kernel
theorem dL_law_409 : decode cL_law 409 = .ok (.iadd, 1) := by decide +kernel
theorem dL_law_410 : decode cL_law 410 = .ok (.iaload, 1) := by decide +kernel
theorem dL_law_411 : decode cL_law 411 = .ok (.aload_n 0, 1) := by decide +kernel
theorem dL_law_412 : decode cL_law 412 = .ok (.iload_n 3, 1) := by decide +kernel
theorem dL_law_413 : decode cL_law 413 = .ok (.iconst 4, 1) := by decide +kernel
theorem dL_law_414 : decode cL_law 414 = .ok (.iadd, 1) := by decide +kernel
theorem dL_law_415 : decode cL_law 415 = .ok (.iaload, 1) := by decide +kernel
theorem dL_law_416 : decode cL_law 416 = .ok (.invokevirtual 36, 3) := by decide +kernel
theorem dL_law_419 : decode cL_law 419 = .ok (.aload_n 2, 1) := by decide +kernel
theorem dL_law_420 : decode cL_law 420 = .ok (.aload_n 0, 1) := by decide +kernel
theorem dL_law_421 : decode cL_law 421 = .ok (.iload_n 3, 1) := by decide +kernel
theorem dL_law_422 : decode cL_law 422 = .ok (.iconst 1, 1) := by decide +kernel
theorem dL_law_423 : decode cL_law 423 = .ok (.iadd, 1) := by decide +kernel
theorem dL_law_424 : decode cL_law 424 = .ok (.iaload, 1) := by decide +kernel
theorem dL_law_425 : decode cL_law 425 = .ok (.aload_n 0, 1) := by decide +kernel
theorem dL_law_426 : decode cL_law 426 = .ok (.iload_n 3, 1) := by decide +kernel
theorem dL_law_427 : decode cL_law 427 = .ok (.iconst 2, 1) := by decide +kernel
theorem dL_law_428 : decode cL_law 428 = .ok (.iadd, 1) := by decide +kernel
theorem dL_law_429 : decode cL_law 429 = .ok (.iaload, 1) := by decide +kernel
theorem dL_law_430 : decode cL_law 430 = .ok (.aload_n 0, 1) := by decide +kernel
theorem dL_law_431 : decode cL_law 431 = .ok (.iload_n 3, 1) := by decide +kernel
theorem dL_law_432 : decode cL_law 432 = .ok (.iconst 3, 1) := by decide +kernel
theorem dL_law_433 : decode cL_law 433 = .ok (.iadd, 1) := by decide +kernel
theorem dL_law_434 : decode cL_law 434 = .ok (.iaload, 1) := by decide +kernel
theorem dL_law_435 : decode cL_law 435 = .ok (.aload_n 0, 1) := by decide +kernel
theorem dL_law_436 : decode cL_law 436 = .ok (.iload_n 3, 1) := by decide +kernel
theorem dL_law_437 : decode cL_law 437 = .ok (.iconst 4, 1) := by decide +kernel
theorem dL_law_438 : decode cL_law 438 = .ok (.iadd, 1) := by decide +kernel
theorem dL_law_439 : decode cL_law 439 = .ok (.iaload, 1) := by decide +kernel
theorem dL_law_440 : decode cL_law 440 = .ok (.invokevirtual 40, 3) := by decide +kernel
theorem dL_law_443 : decode cL_law 443 = .ok (.if_icmp .eq 1825, 3) := by decide +kernel
theorem dL_law_448 : decode cL_law 448 = .ok (.aload_n 1, 1) := by decide +kernel
theorem dL_law_449 : decode cL_law 449 = .ok (.aload_n 0, 1) := by decide +kernel
theorem dL_law_450 : decode cL_law 450 = .ok (.iload_n 3, 1) := by decide +kernel
theorem dL_law_451 : decode cL_law 451 = .ok (.iconst 1, 1) := by decide +kernel
theorem dL_law_452 : decode cL_law 452 = .ok (.iadd, 1) := by decide +kernel
theorem dL_law_453 : decode cL_law 453 = .ok (.iaload, 1) := by decide +kernel
theorem dL_law_454 : decode cL_law 454 = .ok (.aload_n 0, 1) := by decide +kernel
theorem dL_law_455 : decode cL_law 455 = .ok (.iload_n 3, 1) := by decide +kernel
theorem dL_law_456 : decode cL_law 456 = .ok (.iconst 2, 1) := by decide +kernel
theorem dL_law_457 : decode cL_law 457 = .ok (.iadd, 1) := by decide +kernel
theorem dL_law_458 : decode cL_law 458 = .ok (.iaload, 1) := by decide +kernel
theorem dL_law_459 : decode cL_law 459 = .ok (.aload_n 0, 1) := by decide +kernel
theorem dL_law_460 : decode cL_law 460 = .ok (.iload_n 3, 1) := by decide +kernel
theorem dL_law_461 : decode cL_law 461 = .ok (.iconst 3, 1) := by decide +kernel
theorem dL_law_462 : decode cL_law 462 = .ok (.iadd, 1) := by decide +kernel
theorem dL_law_463 : decode cL_law 463 = .ok (.iaload, 1) := by decide +kernel
theorem dL_law_464 : decode cL_law 464 = .ok (.invokevirtual 41, 3) := by decide +kernel
theorem dL_law_467 : decode cL_law 467 = .ok (.aload_n 2, 1) := by decide +kernel
theorem dL_law_468 : decode cL_law 468 = .ok (.aload_n 0, 1) := by decide +kernel
theorem dL_law_469 : decode cL_law 469 = .ok (.iload_n 3, 1) := by decide +kernel
theorem dL_law_470 : decode cL_law 470 = .ok (.iconst 1, 1) := by decide +kernel
theorem dL_law_471 : decode cL_law 471 = .ok (.iadd, 1) := by decide +kernel
theorem dL_law_472 : decode cL_law 472 = .ok (.iaload, 1) := by decide +kernel
theorem dL_law_473 : decode cL_law 473 = .ok (.aload_n 0, 1) := by decide +kernel
theorem dL_law_474 : decode cL_law 474 = .ok (.iload_n 3, 1) := by decide +kernel
theorem dL_law_475 : decode cL_law 475 = .ok (.iconst 2, 1) := by decide +kernel
theorem dL_law_476 : decode cL_law 476 = .ok (.iadd, 1) := by decide +kernel
theorem dL_law_477 : decode cL_law 477 = .ok (.iaload, 1) := by decide +kernel
theorem dL_law_478 : decode cL_law 478 = .ok (.aload_n 0, 1) := by decide +kernel
theorem dL_law_479 : decode cL_law 479 = .ok (.iload_n 3, 1) := by decide +kernel
theorem dL_law_480 : decode cL_law 480 = .ok (.iconst 3, 1) := by decide +kernel
theorem dL_law_481 : decode cL_law 481 = .ok (.iadd, 1) := by decide +kernel
theorem dL_law_482 : decode cL_law 482 = .ok (.iaload, 1) := by decide +kernel
theorem dL_law_483 : decode cL_law 483 = .ok (.invokevirtual 45, 3) := by decide +kernel
theorem dL_law_486 : decode cL_law 486 = .ok (.if_icmp .eq 1782, 3) := by decide +kernel
theorem dL_law_491 : decode cL_law 491 = .ok (.aload_n 1, 1) := by decide +kernel
theorem dL_law_492 : decode cL_law 492 = .ok (.aload_n 0, 1) := by decide +kernel
theorem dL_law_493 : decode cL_law 493 = .ok (.iload_n 3, 1) := by decide +kernel
theorem dL_law_494 : decode cL_law 494 = .ok (.iconst 1, 1) := by decide +kernel
theorem dL_law_495 : decode cL_law 495 = .ok (.iadd, 1) := by decide +kernel
theorem dL_law_496 : decode cL_law 496 = .ok (.iaload, 1) := by decide +kernel
theorem dL_law_497 : decode cL_law 497 = .ok (.aload_n 0, 1) := by decide +kernel
theorem dL_law_498 : decode cL_law 498 = .ok (.iload_n 3, 1) := by decide +kernel
theorem dL_law_499 : decode cL_law 499 = .ok (.iconst 2, 1) := by decide +kernel
theorem dL_law_500 : decode cL_law 500 = .ok (.iadd, 1) := by decide +kernel
theorem dL_law_501 : decode cL_law 501 = .ok (.iaload, 1) := by decide +kernel
theorem dL_law_502 : decode cL_law 502 = .ok (.aload_n 0, 1) := by decide +kernel
theorem dL_law_503 : decode cL_law 503 = .ok (.iload_n 3, 1) := by decide +kernel
theorem dL_law_504 : decode cL_law 504 = .ok (.iconst 3, 1) := by decide +kernel
theorem dL_law_505 : decode cL_law 505 = .ok (.iadd, 1) := by decide +kernel
theorem dL_law_506 : decode cL_law 506 = .ok (.iaload, 1) := by decide +kernel
theorem dL_law_507 : decode cL_law 507 = .ok (.invokevirtual 46, 3) := by decide +kernel
theorem dL_law_510 : decode cL_law 510 = .ok (.aload_n 2, 1) := by decide +kernel
theorem dL_law_511 : decode cL_law 511 = .ok (.aload_n 0, 1) := by decide +kernel
theorem dL_law_512 : decode cL_law 512 = .ok (.iload_n 3, 1) := by decide +kernel
theorem dL_law_513 : decode cL_law 513 = .ok (.iconst 1, 1) := by decide +kernel
theorem dL_law_514 : decode cL_law 514 = .ok (.iadd, 1) := by decide +kernel
theorem dL_law_515 : decode cL_law 515 = .ok (.iaload, 1) := by decide +kernel
theorem dL_law_516 : decode cL_law 516 = .ok (.aload_n 0, 1) := by decide +kernel
theorem dL_law_517 : decode cL_law 517 = .ok (.iload_n 3, 1) := by decide +kernel
theorem dL_law_518 : decode cL_law 518 = .ok (.iconst 2, 1) := by decide +kernel
theorem dL_law_519 : decode cL_law 519 = .ok (.iadd, 1) := by decide +kernel
theorem dL_law_520 : decode cL_law 520 = .ok (.iaload, 1) := by decide +kernel
theorem dL_law_521 : decode cL_law 521 = .ok (.aload_n 0, 1) := by decide +kernel
theorem dL_law_522 : decode cL_law 522 = .ok (.iload_n 3, 1) := by decide +kernel
theorem dL_law_523 : decode cL_law 523 = .ok (.iconst 3, 1) := by decide +kernel
theorem dL_law_524 : decode cL_law 524 = .ok (.iadd, 1) := by decide +kernel
theorem dL_law_525 : decode cL_law 525 = .ok (.iaload, 1) := by decide +kernel
theorem dL_law_526 : decode cL_law 526 = .ok (.invokevirtual 49, 3) := by decide +kernel
theorem dL_law_529 : decode cL_law 529 = .ok (.if_icmp .eq 1739, 3) := by decide +kernel
theorem dL_law_534 : decode cL_law 534 = .ok (.aload_n 1, 1) := by decide +kernel
theorem dL_law_535 : decode cL_law 535 = .ok (.aload_n 0, 1) := by decide +kernel
theorem dL_law_536 : decode cL_law 536 = .ok (.iload_n 3, 1) := by decide +kernel
theorem dL_law_537 : decode cL_law 537 = .ok (.iconst 1, 1) := by decide +kernel
theorem dL_law_538 : decode cL_law 538 = .ok (.iadd, 1) := by decide +kernel
theorem dL_law_539 : decode cL_law 539 = .ok (.iaload, 1) := by decide +kernel
theorem dL_law_540 : decode cL_law 540 = .ok (.aload_n 0, 1) := by decide +kernel
theorem dL_law_541 : decode cL_law 541 = .ok (.iload_n 3, 1) := by decide +kernel
theorem dL_law_542 : decode cL_law 542 = .ok (.iconst 2, 1) := by decide +kernel
theorem dL_law_543 : decode cL_law 543 = .ok (.iadd, 1) := by decide +kernel
theorem dL_law_544 : decode cL_law 544 = .ok (.iaload, 1) := by decide +kernel
theorem dL_law_545 : decode cL_law 545 = .ok (.aload_n 0, 1) := by decide +kernel
theorem dL_law_546 : decode cL_law 546 = .ok (.iload_n 3, 1) := by decide +kernel
theorem dL_law_547 : decode cL_law 547 = .ok (.iconst 3, 1) := by decide +kernel
theorem dL_law_548 : decode cL_law 548 = .ok (.iadd, 1) := by decide +kernel
theorem dL_law_549 : decode cL_law 549 = .ok (.iaload, 1) := by decide +kernel
theorem dL_law_550 : decode cL_law 550 = .ok (.aload_n 0, 1) := by decide +kernel
theorem dL_law_551 : decode cL_law 551 = .ok (.iload_n 3, 1) := by decide +kernel
theorem dL_law_552 : decode cL_law 552 = .ok (.iconst 4, 1) := by decide +kernel
theorem dL_law_553 : decode cL_law 553 = .ok (.iadd, 1) := by decide +kernel
theorem dL_law_554 : decode cL_law 554 = .ok (.iaload, 1) := by decide +kernel
theorem dL_law_555 : decode cL_law 555 = .ok (.aload_n 0, 1) := by decide +kernel
theorem dL_law_556 : decode cL_law 556 = .ok (.iload_n 3, 1) := by decide +kernel
theorem dL_law_557 : decode cL_law 557 = .ok (.iconst 5, 1) := by decide +kernel
theorem dL_law_558 : decode cL_law 558 = .ok (.iadd, 1) := by decide +kernel
theorem dL_law_559 : decode cL_law 559 = .ok (.iaload, 1) := by decide +kernel
theorem dL_law_560 : decode cL_law 560 = .ok (.invokevirtual 50, 3) := by decide +kernel
theorem dL_law_563 : decode cL_law 563 = .ok (.aload_n 2, 1) := by decide +kernel
theorem dL_law_564 : decode cL_law 564 = .ok (.aload_n 0, 1) := by decide +kernel
theorem dL_law_565 : decode cL_law 565 = .ok (.iload_n 3, 1) := by decide +kernel
theorem dL_law_566 : decode cL_law 566 = .ok (.iconst 1, 1) := by decide +kernel
theorem dL_law_567 : decode cL_law 567 = .ok (.iadd, 1) := by decide +kernel
theorem dL_law_568 : decode cL_law 568 = .ok (.iaload, 1) := by decide +kernel
theorem dL_law_569 : decode cL_law 569 = .ok (.aload_n 0, 1) := by decide +kernel
theorem dL_law_570 : decode cL_law 570 = .ok (.iload_n 3, 1) := by decide +kernel
theorem dL_law_571 : decode cL_law 571 = .ok (.iconst 2, 1) := by decide +kernel
theorem dL_law_572 : decode cL_law 572 = .ok (.iadd, 1) := by decide +kernel
theorem dL_law_573 : decode cL_law 573 = .ok (.iaload, 1) := by decide +kernel
theorem dL_law_574 : decode cL_law 574 = .ok (.aload_n 0, 1) := by decide +kernel
theorem dL_law_575 : decode cL_law 575 = .ok (.iload_n 3, 1) := by decide +kernel
theorem dL_law_576 : decode cL_law 576 = .ok (.iconst 3, 1) := by decide +kernel
theorem dL_law_577 : decode cL_law 577 = .ok (.iadd, 1) := by decide +kernel
theorem dL_law_578 : decode cL_law 578 = .ok (.iaload, 1) := by decide +kernel
theorem dL_law_579 : decode cL_law 579 = .ok (.aload_n 0, 1) := by decide +kernel
theorem dL_law_580 : decode cL_law 580 = .ok (.iload_n 3, 1) := by decide +kernel
theorem dL_law_581 : decode cL_law 581 = .ok (.iconst 4, 1) := by decide +kernel
theorem dL_law_582 : decode cL_law 582 = .ok (.iadd, 1) := by decide +kernel
theorem dL_law_583 : decode cL_law 583 = .ok (.iaload, 1) := by decide +kernel
theorem dL_law_584 : decode cL_law 584 = .ok (.aload_n 0, 1) := by decide +kernel
theorem dL_law_585 : decode cL_law 585 = .ok (.iload_n 3, 1) := by decide +kernel
theorem dL_law_586 : decode cL_law 586 = .ok (.iconst 5, 1) := by decide +kernel
theorem dL_law_587 : decode cL_law 587 = .ok (.iadd, 1) := by decide +kernel
theorem dL_law_588 : decode cL_law 588 = .ok (.iaload, 1) := by decide +kernel
theorem dL_law_589 : decode cL_law 589 = .ok (.invokevirtual 53, 3) := by decide +kernel
theorem dL_law_592 : decode cL_law 592 = .ok (.if_icmp .eq 1676, 3) := by decide +kernel
theorem dL_law_597 : decode cL_law 597 = .ok (.aload_n 1, 1) := by decide +kernel
theorem dL_law_598 : decode cL_law 598 = .ok (.aload_n 0, 1) := by decide +kernel
theorem dL_law_599 : decode cL_law 599 = .ok (.iload_n 3, 1) := by decide +kernel
theorem dL_law_600 : decode cL_law 600 = .ok (.iconst 1, 1) := by decide +kernel
theorem dL_law_601 : decode cL_law 601 = .ok (.iadd, 1) := by decide +kernel
theorem dL_law_602 : decode cL_law 602 = .ok (.iaload, 1) := by decide +kernel
theorem dL_law_603 : decode cL_law 603 = .ok (.aload_n 0, 1) := by decide +kernel
theorem dL_law_604 : decode cL_law 604 = .ok (.iload_n 3, 1) := by decide +kernel
theorem dL_law_605 : decode cL_law 605 = .ok (.iconst 2, 1) := by decide +kernel
theorem dL_law_606 : decode cL_law 606 = .ok (.iadd, 1) := by decide +kernel
theorem dL_law_607 : decode cL_law 607 = .ok (.iaload, 1) := by decide +kernel
theorem dL_law_608 : decode cL_law 608 = .ok (.aload_n 0, 1) := by decide +kernel
theorem dL_law_609 : decode cL_law 609 = .ok (.iload_n 3, 1) := by decide +kernel
theorem dL_law_610 : decode cL_law 610 = .ok (.iconst 3, 1) := by decide +kernel
theorem dL_law_611 : decode cL_law 611 = .ok (.iadd, 1) := by decide +kernel
theorem dL_law_612 : decode cL_law 612 = .ok (.iaload, 1) := by decide +kernel
theorem dL_law_613 : decode cL_law 613 = .ok (.invokevirtual 54, 3) := by decide +kernel
theorem dL_law_616 : decode cL_law 616 = .ok (.aload_n 2, 1) := by decide +kernel
theorem dL_law_617 : decode cL_law 617 = .ok (.aload_n 0, 1) := by decide +kernel
theorem dL_law_618 : decode cL_law 618 = .ok (.iload_n 3, 1) := by decide +kernel
theorem dL_law_619 : decode cL_law 619 = .ok (.iconst 1, 1) := by decide +kernel
theorem dL_law_620 : decode cL_law 620 = .ok (.iadd, 1) := by decide +kernel
theorem dL_law_621 : decode cL_law 621 = .ok (.iaload, 1) := by decide +kernel
theorem dL_law_622 : decode cL_law 622 = .ok (.aload_n 0, 1) := by decide +kernel
theorem dL_law_623 : decode cL_law 623 = .ok (.iload_n 3, 1) := by decide +kernel
theorem dL_law_624 : decode cL_law 624 = .ok (.iconst 2, 1) := by decide +kernel
theorem dL_law_625 : decode cL_law 625 = .ok (.iadd, 1) := by decide +kernel
theorem dL_law_626 : decode cL_law 626 = .ok (.iaload, 1) := by decide +kernel
theorem dL_law_627 : decode cL_law 627 = .ok (.aload_n 0, 1) := by decide +kernel
theorem dL_law_628 : decode cL_law 628 = .ok (.iload_n 3, 1) := by decide +kernel
theorem dL_law_629 : decode cL_law 629 = .ok (.iconst 3, 1) := by decide +kernel
theorem dL_law_630 : decode cL_law 630 = .ok (.iadd, 1) := by decide +kernel
theorem dL_law_631 : decode cL_law 631 = .ok (.iaload, 1) := by decide +kernel
theorem dL_law_632 : decode cL_law 632 = .ok (.invokevirtual 58, 3) := by decide +kernel
theorem dL_law_635 : decode cL_law 635 = .ok (.lcmp, 1) := by decide +kernel
theorem dL_law_636 : decode cL_law 636 = .ok (.ifCond .eq 1632, 3) := by decide +kernel
theorem dL_law_641 : decode cL_law 641 = .ok (.aload_n 1, 1) := by decide +kernel
theorem dL_law_642 : decode cL_law 642 = .ok (.aload_n 0, 1) := by decide +kernel
theorem dL_law_643 : decode cL_law 643 = .ok (.iload_n 3, 1) := by decide +kernel
theorem dL_law_644 : decode cL_law 644 = .ok (.iconst 1, 1) := by decide +kernel
theorem dL_law_645 : decode cL_law 645 = .ok (.iadd, 1) := by decide +kernel
theorem dL_law_646 : decode cL_law 646 = .ok (.iaload, 1) := by decide +kernel
theorem dL_law_647 : decode cL_law 647 = .ok (.aload_n 0, 1) := by decide +kernel
theorem dL_law_648 : decode cL_law 648 = .ok (.iload_n 3, 1) := by decide +kernel
theorem dL_law_649 : decode cL_law 649 = .ok (.iconst 2, 1) := by decide +kernel
theorem dL_law_650 : decode cL_law 650 = .ok (.iadd, 1) := by decide +kernel
theorem dL_law_651 : decode cL_law 651 = .ok (.iaload, 1) := by decide +kernel
theorem dL_law_652 : decode cL_law 652 = .ok (.aload_n 0, 1) := by decide +kernel
theorem dL_law_653 : decode cL_law 653 = .ok (.iload_n 3, 1) := by decide +kernel
theorem dL_law_654 : decode cL_law 654 = .ok (.iconst 3, 1) := by decide +kernel
theorem dL_law_655 : decode cL_law 655 = .ok (.iadd, 1) := by decide +kernel
theorem dL_law_656 : decode cL_law 656 = .ok (.iaload, 1) := by decide +kernel
theorem dL_law_657 : decode cL_law 657 = .ok (.invokevirtual 59, 3) := by decide +kernel
theorem dL_law_660 : decode cL_law 660 = .ok (.aload_n 2, 1) := by decide +kernel
theorem dL_law_661 : decode cL_law 661 = .ok (.aload_n 0, 1) := by decide +kernel
theorem dL_law_662 : decode cL_law 662 = .ok (.iload_n 3, 1) := by decide +kernel
theorem dL_law_663 : decode cL_law 663 = .ok (.iconst 1, 1) := by decide +kernel
theorem dL_law_664 : decode cL_law 664 = .ok (.iadd, 1) := by decide +kernel
theorem dL_law_665 : decode cL_law 665 = .ok (.iaload, 1) := by decide +kernel
theorem dL_law_666 : decode cL_law 666 = .ok (.aload_n 0, 1) := by decide +kernel
theorem dL_law_667 : decode cL_law 667 = .ok (.iload_n 3, 1) := by decide +kernel
theorem dL_law_668 : decode cL_law 668 = .ok (.iconst 2, 1) := by decide +kernel
theorem dL_law_669 : decode cL_law 669 = .ok (.iadd, 1) := by decide +kernel
theorem dL_law_670 : decode cL_law 670 = .ok (.iaload, 1) := by decide +kernel
theorem dL_law_671 : decode cL_law 671 = .ok (.aload_n 0, 1) := by decide +kernel
theorem dL_law_672 : decode cL_law 672 = .ok (.iload_n 3, 1) := by decide +kernel
theorem dL_law_673 : decode cL_law 673 = .ok (.iconst 3, 1) := by decide +kernel
theorem dL_law_674 : decode cL_law 674 = .ok (.iadd, 1) := by decide +kernel
theorem dL_law_675 : decode cL_law 675 = .ok (.iaload, 1) := by decide +kernel
theorem dL_law_676 : decode cL_law 676 = .ok (.invokevirtual 62, 3) := by decide +kernel
theorem dL_law_679 : decode cL_law 679 = .ok (.lcmp, 1) := by decide +kernel
theorem dL_law_680 : decode cL_law 680 = .ok (.ifCond .eq 1588, 3) := by decide +kernel
theorem dL_law_685 : decode cL_law 685 = .ok (.aload_n 1, 1) := by decide +kernel
theorem dL_law_686 : decode cL_law 686 = .ok (.aload_n 0, 1) := by decide +kernel
theorem dL_law_687 : decode cL_law 687 = .ok (.iload_n 3, 1) := by decide +kernel
theorem dL_law_688 : decode cL_law 688 = .ok (.iconst 1, 1) := by decide +kernel
theorem dL_law_689 : decode cL_law 689 = .ok (.iadd, 1) := by decide +kernel
theorem dL_law_690 : decode cL_law 690 = .ok (.iaload, 1) := by decide +kernel
theorem dL_law_691 : decode cL_law 691 = .ok (.aload_n 0, 1) := by decide +kernel
theorem dL_law_692 : decode cL_law 692 = .ok (.iload_n 3, 1) := by decide +kernel
theorem dL_law_693 : decode cL_law 693 = .ok (.iconst 2, 1) := by decide +kernel
theorem dL_law_694 : decode cL_law 694 = .ok (.iadd, 1) := by decide +kernel
theorem dL_law_695 : decode cL_law 695 = .ok (.iaload, 1) := by decide +kernel
theorem dL_law_696 : decode cL_law 696 = .ok (.aload_n 0, 1) := by decide +kernel
theorem dL_law_697 : decode cL_law 697 = .ok (.iload_n 3, 1) := by decide +kernel
theorem dL_law_698 : decode cL_law 698 = .ok (.iconst 3, 1) := by decide +kernel
theorem dL_law_699 : decode cL_law 699 = .ok (.iadd, 1) := by decide +kernel
theorem dL_law_700 : decode cL_law 700 = .ok (.iaload, 1) := by decide +kernel
theorem dL_law_701 : decode cL_law 701 = .ok (.ifCond .eq 7, 3) := by decide +kernel
theorem dL_law_704 : decode cL_law 704 = .ok (.iconst 1, 1) := by decide +kernel
theorem dL_law_705 : decode cL_law 705 = .ok (.goto 4, 3) := by decide +kernel
theorem dL_law_708 : decode cL_law 708 = .ok (.iconst 0, 1) := by decide +kernel
theorem dL_law_709 : decode cL_law 709 = .ok (.invokevirtual 63, 3) := by decide +kernel
theorem dL_law_712 : decode cL_law 712 = .ok (.aload_n 2, 1) := by decide +kernel
theorem dL_law_713 : decode cL_law 713 = .ok (.aload_n 0, 1) := by decide +kernel
theorem dL_law_714 : decode cL_law 714 = .ok (.iload_n 3, 1) := by decide +kernel
theorem dL_law_715 : decode cL_law 715 = .ok (.iconst 1, 1) := by decide +kernel
theorem dL_law_716 : decode cL_law 716 = .ok (.iadd, 1) := by decide +kernel
theorem dL_law_717 : decode cL_law 717 = .ok (.iaload, 1) := by decide +kernel
theorem dL_law_718 : decode cL_law 718 = .ok (.aload_n 0, 1) := by decide +kernel
theorem dL_law_719 : decode cL_law 719 = .ok (.iload_n 3, 1) := by decide +kernel
theorem dL_law_720 : decode cL_law 720 = .ok (.iconst 2, 1) := by decide +kernel
theorem dL_law_721 : decode cL_law 721 = .ok (.iadd, 1) := by decide +kernel
theorem dL_law_722 : decode cL_law 722 = .ok (.iaload, 1) := by decide +kernel
theorem dL_law_723 : decode cL_law 723 = .ok (.aload_n 0, 1) := by decide +kernel
theorem dL_law_724 : decode cL_law 724 = .ok (.iload_n 3, 1) := by decide +kernel
theorem dL_law_725 : decode cL_law 725 = .ok (.iconst 3, 1) := by decide +kernel
theorem dL_law_726 : decode cL_law 726 = .ok (.iadd, 1) := by decide +kernel
theorem dL_law_727 : decode cL_law 727 = .ok (.iaload, 1) := by decide +kernel
theorem dL_law_728 : decode cL_law 728 = .ok (.ifCond .eq 7, 3) := by decide +kernel
theorem dL_law_731 : decode cL_law 731 = .ok (.iconst 1, 1) := by decide +kernel
theorem dL_law_732 : decode cL_law 732 = .ok (.goto 4, 3) := by decide +kernel
theorem dL_law_735 : decode cL_law 735 = .ok (.iconst 0, 1) := by decide +kernel
theorem dL_law_736 : decode cL_law 736 = .ok (.invokevirtual 67, 3) := by decide +kernel
theorem dL_law_739 : decode cL_law 739 = .ok (.lcmp, 1) := by decide +kernel
theorem dL_law_740 : decode cL_law 740 = .ok (.ifCond .eq 1528, 3) := by decide +kernel
theorem dL_law_745 : decode cL_law 745 = .ok (.aload_n 1, 1) := by decide +kernel
theorem dL_law_746 : decode cL_law 746 = .ok (.aload_n 0, 1) := by decide +kernel
theorem dL_law_747 : decode cL_law 747 = .ok (.iload_n 3, 1) := by decide +kernel
theorem dL_law_748 : decode cL_law 748 = .ok (.iconst 1, 1) := by decide +kernel
theorem dL_law_749 : decode cL_law 749 = .ok (.iadd, 1) := by decide +kernel
theorem dL_law_750 : decode cL_law 750 = .ok (.iaload, 1) := by decide +kernel
theorem dL_law_751 : decode cL_law 751 = .ok (.aload_n 0, 1) := by decide +kernel
theorem dL_law_752 : decode cL_law 752 = .ok (.iload_n 3, 1) := by decide +kernel
theorem dL_law_753 : decode cL_law 753 = .ok (.iconst 2, 1) := by decide +kernel
theorem dL_law_754 : decode cL_law 754 = .ok (.iadd, 1) := by decide +kernel
theorem dL_law_755 : decode cL_law 755 = .ok (.iaload, 1) := by decide +kernel
theorem dL_law_756 : decode cL_law 756 = .ok (.aload_n 0, 1) := by decide +kernel
theorem dL_law_757 : decode cL_law 757 = .ok (.iload_n 3, 1) := by decide +kernel
theorem dL_law_758 : decode cL_law 758 = .ok (.iconst 3, 1) := by decide +kernel
theorem dL_law_759 : decode cL_law 759 = .ok (.iadd, 1) := by decide +kernel
theorem dL_law_760 : decode cL_law 760 = .ok (.iaload, 1) := by decide +kernel
theorem dL_law_761 : decode cL_law 761 = .ok (.aload_n 0, 1) := by decide +kernel
theorem dL_law_762 : decode cL_law 762 = .ok (.iload_n 3, 1) := by decide +kernel
theorem dL_law_763 : decode cL_law 763 = .ok (.iconst 4, 1) := by decide +kernel
theorem dL_law_764 : decode cL_law 764 = .ok (.iadd, 1) := by decide +kernel
theorem dL_law_765 : decode cL_law 765 = .ok (.iaload, 1) := by decide +kernel
theorem dL_law_766 : decode cL_law 766 = .ok (.invokevirtual 68, 3) := by decide +kernel
theorem dL_law_769 : decode cL_law 769 = .ok (.aload_n 2, 1) := by decide +kernel
theorem dL_law_770 : decode cL_law 770 = .ok (.aload_n 0, 1) := by decide +kernel
theorem dL_law_771 : decode cL_law 771 = .ok (.iload_n 3, 1) := by decide +kernel
theorem dL_law_772 : decode cL_law 772 = .ok (.iconst 1, 1) := by decide +kernel
theorem dL_law_773 : decode cL_law 773 = .ok (.iadd, 1) := by decide +kernel
theorem dL_law_774 : decode cL_law 774 = .ok (.iaload, 1) := by decide +kernel
theorem dL_law_775 : decode cL_law 775 = .ok (.aload_n 0, 1) := by decide +kernel
theorem dL_law_776 : decode cL_law 776 = .ok (.iload_n 3, 1) := by decide +kernel
theorem dL_law_777 : decode cL_law 777 = .ok (.iconst 2, 1) := by decide +kernel
theorem dL_law_778 : decode cL_law 778 = .ok (.iadd, 1) := by decide +kernel
theorem dL_law_779 : decode cL_law 779 = .ok (.iaload, 1) := by decide +kernel
theorem dL_law_780 : decode cL_law 780 = .ok (.aload_n 0, 1) := by decide +kernel
theorem dL_law_781 : decode cL_law 781 = .ok (.iload_n 3, 1) := by decide +kernel
theorem dL_law_782 : decode cL_law 782 = .ok (.iconst 3, 1) := by decide +kernel
theorem dL_law_783 : decode cL_law 783 = .ok (.iadd, 1) := by decide +kernel
theorem dL_law_784 : decode cL_law 784 = .ok (.iaload, 1) := by decide +kernel
theorem dL_law_785 : decode cL_law 785 = .ok (.aload_n 0, 1) := by decide +kernel
theorem dL_law_786 : decode cL_law 786 = .ok (.iload_n 3, 1) := by decide +kernel
theorem dL_law_787 : decode cL_law 787 = .ok (.iconst 4, 1) := by decide +kernel
theorem dL_law_788 : decode cL_law 788 = .ok (.iadd, 1) := by decide +kernel
theorem dL_law_789 : decode cL_law 789 = .ok (.iaload, 1) := by decide +kernel
theorem dL_law_790 : decode cL_law 790 = .ok (.invokevirtual 71, 3) := by decide +kernel
theorem dL_law_793 : decode cL_law 793 = .ok (.if_icmp .eq 1475, 3) := by decide +kernel
theorem dL_law_798 : decode cL_law 798 = .ok (.aload_n 1, 1) := by decide +kernel
theorem dL_law_799 : decode cL_law 799 = .ok (.aload_n 0, 1) := by decide +kernel
theorem dL_law_800 : decode cL_law 800 = .ok (.iload_n 3, 1) := by decide +kernel
theorem dL_law_801 : decode cL_law 801 = .ok (.iconst 1, 1) := by decide +kernel
theorem dL_law_802 : decode cL_law 802 = .ok (.iadd, 1) := by decide +kernel
theorem dL_law_803 : decode cL_law 803 = .ok (.iaload, 1) := by decide +kernel
theorem dL_law_804 : decode cL_law 804 = .ok (.aload_n 0, 1) := by decide +kernel
theorem dL_law_805 : decode cL_law 805 = .ok (.iload_n 3, 1) := by decide +kernel
theorem dL_law_806 : decode cL_law 806 = .ok (.iconst 2, 1) := by decide +kernel
theorem dL_law_807 : decode cL_law 807 = .ok (.iadd, 1) := by decide +kernel
theorem dL_law_808 : decode cL_law 808 = .ok (.iaload, 1) := by decide +kernel
theorem dL_law_809 : decode cL_law 809 = .ok (.aload_n 0, 1) := by decide +kernel
theorem dL_law_810 : decode cL_law 810 = .ok (.iload_n 3, 1) := by decide +kernel
theorem dL_law_811 : decode cL_law 811 = .ok (.iconst 3, 1) := by decide +kernel
theorem dL_law_812 : decode cL_law 812 = .ok (.iadd, 1) := by decide +kernel
theorem dL_law_813 : decode cL_law 813 = .ok (.iaload, 1) := by decide +kernel
theorem dL_law_814 : decode cL_law 814 = .ok (.aload_n 0, 1) := by decide +kernel
theorem dL_law_815 : decode cL_law 815 = .ok (.iload_n 3, 1) := by decide +kernel
theorem dL_law_816 : decode cL_law 816 = .ok (.iconst 4, 1) := by decide +kernel
theorem dL_law_817 : decode cL_law 817 = .ok (.iadd, 1) := by decide +kernel
theorem dL_law_818 : decode cL_law 818 = .ok (.iaload, 1) := by decide +kernel
theorem dL_law_819 : decode cL_law 819 = .ok (.invokevirtual 72, 3) := by decide +kernel
theorem dL_law_822 : decode cL_law 822 = .ok (.aload_n 2, 1) := by decide +kernel
theorem dL_law_823 : decode cL_law 823 = .ok (.aload_n 0, 1) := by decide +kernel
theorem dL_law_824 : decode cL_law 824 = .ok (.iload_n 3, 1) := by decide +kernel
theorem dL_law_825 : decode cL_law 825 = .ok (.iconst 1, 1) := by decide +kernel
theorem dL_law_826 : decode cL_law 826 = .ok (.iadd, 1) := by decide +kernel
theorem dL_law_827 : decode cL_law 827 = .ok (.iaload, 1) := by decide +kernel
theorem dL_law_828 : decode cL_law 828 = .ok (.aload_n 0, 1) := by decide +kernel
theorem dL_law_829 : decode cL_law 829 = .ok (.iload_n 3, 1) := by decide +kernel
theorem dL_law_830 : decode cL_law 830 = .ok (.iconst 2, 1) := by decide +kernel
theorem dL_law_831 : decode cL_law 831 = .ok (.iadd, 1) := by decide +kernel
theorem dL_law_832 : decode cL_law 832 = .ok (.iaload, 1) := by decide +kernel
theorem dL_law_833 : decode cL_law 833 = .ok (.aload_n 0, 1) := by decide +kernel
theorem dL_law_834 : decode cL_law 834 = .ok (.iload_n 3, 1) := by decide +kernel
theorem dL_law_835 : decode cL_law 835 = .ok (.iconst 3, 1) := by decide +kernel
theorem dL_law_836 : decode cL_law 836 = .ok (.iadd, 1) := by decide +kernel
theorem dL_law_837 : decode cL_law 837 = .ok (.iaload, 1) := by decide +kernel
theorem dL_law_838 : decode cL_law 838 = .ok (.aload_n 0, 1) := by decide +kernel
theorem dL_law_839 : decode cL_law 839 = .ok (.iload_n 3, 1) := by decide +kernel
theorem dL_law_840 : decode cL_law 840 = .ok (.iconst 4, 1) := by decide +kernel
theorem dL_law_841 : decode cL_law 841 = .ok (.iadd, 1) := by decide +kernel
theorem dL_law_842 : decode cL_law 842 = .ok (.iaload, 1) := by decide +kernel
theorem dL_law_843 : decode cL_law 843 = .ok (.invokevirtual 75, 3) := by decide +kernel
theorem dL_law_846 : decode cL_law 846 = .ok (.if_icmp .eq 1422, 3) := by decide +kernel
theorem dL_law_851 : decode cL_law 851 = .ok (.aload_n 1, 1) := by decide +kernel
theorem dL_law_852 : decode cL_law 852 = .ok (.aload_n 0, 1) := by decide +kernel
theorem dL_law_853 : decode cL_law 853 = .ok (.iload_n 3, 1) := by decide +kernel
theorem dL_law_854 : decode cL_law 854 = .ok (.iconst 1, 1) := by decide +kernel
theorem dL_law_855 : decode cL_law 855 = .ok (.iadd, 1) := by decide +kernel
theorem dL_law_856 : decode cL_law 856 = .ok (.iaload, 1) := by decide +kernel
theorem dL_law_857 : decode cL_law 857 = .ok (.aload_n 0, 1) := by decide +kernel
theorem dL_law_858 : decode cL_law 858 = .ok (.iload_n 3, 1) := by decide +kernel
theorem dL_law_859 : decode cL_law 859 = .ok (.iconst 2, 1) := by decide +kernel
theorem dL_law_860 : decode cL_law 860 = .ok (.iadd, 1) := by decide +kernel
theorem dL_law_861 : decode cL_law 861 = .ok (.iaload, 1) := by decide +kernel
theorem dL_law_862 : decode cL_law 862 = .ok (.aload_n 0, 1) := by decide +kernel
theorem dL_law_863 : decode cL_law 863 = .ok (.iload_n 3, 1) := by decide +kernel
theorem dL_law_864 : decode cL_law 864 = .ok (.iconst 3, 1) := by decide +kernel
theorem dL_law_865 : decode cL_law 865 = .ok (.iadd, 1) := by decide +kernel
theorem dL_law_866 : decode cL_law 866 = .ok (.iaload, 1) := by decide +kernel
theorem dL_law_867 : decode cL_law 867 = .ok (.aload_n 0, 1) := by decide +kernel
theorem dL_law_868 : decode cL_law 868 = .ok (.iload_n 3, 1) := by decide +kernel
theorem dL_law_869 : decode cL_law 869 = .ok (.iconst 4, 1) := by decide +kernel
theorem dL_law_870 : decode cL_law 870 = .ok (.iadd, 1) := by decide +kernel
theorem dL_law_871 : decode cL_law 871 = .ok (.iaload, 1) := by decide +kernel
theorem dL_law_872 : decode cL_law 872 = .ok (.invokevirtual 76, 3) := by decide +kernel
theorem dL_law_875 : decode cL_law 875 = .ok (.aload_n 2, 1) := by decide +kernel
theorem dL_law_876 : decode cL_law 876 = .ok (.aload_n 0, 1) := by decide +kernel
theorem dL_law_877 : decode cL_law 877 = .ok (.iload_n 3, 1) := by decide +kernel
theorem dL_law_878 : decode cL_law 878 = .ok (.iconst 1, 1) := by decide +kernel
theorem dL_law_879 : decode cL_law 879 = .ok (.iadd, 1) := by decide +kernel
theorem dL_law_880 : decode cL_law 880 = .ok (.iaload, 1) := by decide +kernel
theorem dL_law_881 : decode cL_law 881 = .ok (.aload_n 0, 1) := by decide +kernel
theorem dL_law_882 : decode cL_law 882 = .ok (.iload_n 3, 1) := by decide +kernel
theorem dL_law_883 : decode cL_law 883 = .ok (.iconst 2, 1) := by decide +kernel
theorem dL_law_884 : decode cL_law 884 = .ok (.iadd, 1) := by decide +kernel
theorem dL_law_885 : decode cL_law 885 = .ok (.iaload, 1) := by decide +kernel
theorem dL_law_886 : decode cL_law 886 = .ok (.aload_n 0, 1) := by decide +kernel
theorem dL_law_887 : decode cL_law 887 = .ok (.iload_n 3, 1) := by decide +kernel
theorem dL_law_888 : decode cL_law 888 = .ok (.iconst 3, 1) := by decide +kernel
theorem dL_law_889 : decode cL_law 889 = .ok (.iadd, 1) := by decide +kernel
theorem dL_law_890 : decode cL_law 890 = .ok (.iaload, 1) := by decide +kernel
theorem dL_law_891 : decode cL_law 891 = .ok (.aload_n 0, 1) := by decide +kernel
theorem dL_law_892 : decode cL_law 892 = .ok (.iload_n 3, 1) := by decide +kernel
theorem dL_law_893 : decode cL_law 893 = .ok (.iconst 4, 1) := by decide +kernel
theorem dL_law_894 : decode cL_law 894 = .ok (.iadd, 1) := by decide +kernel
theorem dL_law_895 : decode cL_law 895 = .ok (.iaload, 1) := by decide +kernel
theorem dL_law_896 : decode cL_law 896 = .ok (.invokevirtual 79, 3) := by decide +kernel
theorem dL_law_899 : decode cL_law 899 = .ok (.if_icmp .eq 1369, 3) := by decide +kernel
theorem dL_law_904 : decode cL_law 904 = .ok (.aload_n 1, 1) := by decide +kernel
theorem dL_law_905 : decode cL_law 905 = .ok (.aload_n 0, 1) := by decide +kernel
theorem dL_law_906 : decode cL_law 906 = .ok (.iload_n 3, 1) := by decide +kernel
theorem dL_law_907 : decode cL_law 907 = .ok (.iconst 1, 1) := by decide +kernel
theorem dL_law_908 : decode cL_law 908 = .ok (.iadd, 1) := by decide +kernel
theorem dL_law_909 : decode cL_law 909 = .ok (.iaload, 1) := by decide +kernel
theorem dL_law_910 : decode cL_law 910 = .ok (.aload_n 0, 1) := by decide +kernel
theorem dL_law_911 : decode cL_law 911 = .ok (.iload_n 3, 1) := by decide +kernel
theorem dL_law_912 : decode cL_law 912 = .ok (.iconst 2, 1) := by decide +kernel
theorem dL_law_913 : decode cL_law 913 = .ok (.iadd, 1) := by decide +kernel
theorem dL_law_914 : decode cL_law 914 = .ok (.iaload, 1) := by decide +kernel
theorem dL_law_915 : decode cL_law 915 = .ok (.aload_n 0, 1) := by decide +kernel
theorem dL_law_916 : decode cL_law 916 = .ok (.iload_n 3, 1) := by decide +kernel
theorem dL_law_917 : decode cL_law 917 = .ok (.iconst 3, 1) := by decide +kernel
theorem dL_law_918 : decode cL_law 918 = .ok (.iadd, 1) := by decide +kernel
theorem dL_law_919 : decode cL_law 919 = .ok (.iaload, 1) := by decide +kernel
theorem dL_law_920 : decode cL_law 920 = .ok (.invokevirtual 80, 3) := by decide +kernel
theorem dL_law_923 : decode cL_law 923 = .ok (.aload_n 2, 1) := by decide +kernel
theorem dL_law_924 : decode cL_law 924 = .ok (.aload_n 0, 1) := by decide +kernel
theorem dL_law_925 : decode cL_law 925 = .ok (.iload_n 3, 1) := by decide +kernel
theorem dL_law_926 : decode cL_law 926 = .ok (.iconst 1, 1) := by decide +kernel
theorem dL_law_927 : decode cL_law 927 = .ok (.iadd, 1) := by decide +kernel
theorem dL_law_928 : decode cL_law 928 = .ok (.iaload, 1) := by decide +kernel
theorem dL_law_929 : decode cL_law 929 = .ok (.aload_n 0, 1) := by decide +kernel
theorem dL_law_930 : decode cL_law 930 = .ok (.iload_n 3, 1) := by decide +kernel
theorem dL_law_931 : decode cL_law 931 = .ok (.iconst 2, 1) := by decide +kernel
theorem dL_law_932 : decode cL_law 932 = .ok (.iadd, 1) := by decide +kernel
theorem dL_law_933 : decode cL_law 933 = .ok (.iaload, 1) := by decide +kernel
theorem dL_law_934 : decode cL_law 934 = .ok (.aload_n 0, 1) := by decide +kernel
theorem dL_law_935 : decode cL_law 935 = .ok (.iload_n 3, 1) := by decide +kernel
theorem dL_law_936 : decode cL_law 936 = .ok (.iconst 3, 1) := by decide +kernel
theorem dL_law_937 : decode cL_law 937 = .ok (.iadd, 1) := by decide +kernel
theorem dL_law_938 : decode cL_law 938 = .ok (.iaload, 1) := by decide +kernel
theorem dL_law_939 : decode cL_law 939 = .ok (.invokevirtual 83, 3) := by decide +kernel
theorem dL_law_942 : decode cL_law 942 = .ok (.lcmp, 1) := by decide +kernel
theorem dL_law_943 : decode cL_law 943 = .ok (.ifCond .eq 1325, 3) := by decide +kernel
theorem dL_law_948 : decode cL_law 948 = .ok (.aload_n 1, 1) := by decide +kernel
theorem dL_law_949 : decode cL_law 949 = .ok (.aload_n 0, 1) := by decide +kernel
theorem dL_law_950 : decode cL_law 950 = .ok (.iload_n 3, 1) := by decide +kernel
theorem dL_law_951 : decode cL_law 951 = .ok (.iconst 1, 1) := by decide +kernel
theorem dL_law_952 : decode cL_law 952 = .ok (.iadd, 1) := by decide +kernel
theorem dL_law_953 : decode cL_law 953 = .ok (.iaload, 1) := by decide +kernel
theorem dL_law_954 : decode cL_law 954 = .ok (.aload_n 0, 1) := by decide +kernel
theorem dL_law_955 : decode cL_law 955 = .ok (.iload_n 3, 1) := by decide +kernel
theorem dL_law_956 : decode cL_law 956 = .ok (.iconst 2, 1) := by decide +kernel
theorem dL_law_957 : decode cL_law 957 = .ok (.iadd, 1) := by decide +kernel
theorem dL_law_958 : decode cL_law 958 = .ok (.iaload, 1) := by decide +kernel
theorem dL_law_959 : decode cL_law 959 = .ok (.aload_n 0, 1) := by decide +kernel
theorem dL_law_960 : decode cL_law 960 = .ok (.iload_n 3, 1) := by decide +kernel
theorem dL_law_961 : decode cL_law 961 = .ok (.iconst 3, 1) := by decide +kernel
theorem dL_law_962 : decode cL_law 962 = .ok (.iadd, 1) := by decide +kernel
theorem dL_law_963 : decode cL_law 963 = .ok (.iaload, 1) := by decide +kernel
theorem dL_law_964 : decode cL_law 964 = .ok (.ifCond .eq 7, 3) := by decide +kernel
theorem dL_law_967 : decode cL_law 967 = .ok (.iconst 1, 1) := by decide +kernel
theorem dL_law_968 : decode cL_law 968 = .ok (.goto 4, 3) := by decide +kernel
theorem dL_law_971 : decode cL_law 971 = .ok (.iconst 0, 1) := by decide +kernel
theorem dL_law_972 : decode cL_law 972 = .ok (.invokevirtual 84, 3) := by decide +kernel
theorem dL_law_975 : decode cL_law 975 = .ok (.aload_n 2, 1) := by decide +kernel
theorem dL_law_976 : decode cL_law 976 = .ok (.aload_n 0, 1) := by decide +kernel
theorem dL_law_977 : decode cL_law 977 = .ok (.iload_n 3, 1) := by decide +kernel
theorem dL_law_978 : decode cL_law 978 = .ok (.iconst 1, 1) := by decide +kernel
theorem dL_law_979 : decode cL_law 979 = .ok (.iadd, 1) := by decide +kernel
theorem dL_law_980 : decode cL_law 980 = .ok (.iaload, 1) := by decide +kernel
theorem dL_law_981 : decode cL_law 981 = .ok (.aload_n 0, 1) := by decide +kernel
theorem dL_law_982 : decode cL_law 982 = .ok (.iload_n 3, 1) := by decide +kernel
theorem dL_law_983 : decode cL_law 983 = .ok (.iconst 2, 1) := by decide +kernel
theorem dL_law_984 : decode cL_law 984 = .ok (.iadd, 1) := by decide +kernel
theorem dL_law_985 : decode cL_law 985 = .ok (.iaload, 1) := by decide +kernel
theorem dL_law_986 : decode cL_law 986 = .ok (.aload_n 0, 1) := by decide +kernel
theorem dL_law_987 : decode cL_law 987 = .ok (.iload_n 3, 1) := by decide +kernel
theorem dL_law_988 : decode cL_law 988 = .ok (.iconst 3, 1) := by decide +kernel
theorem dL_law_989 : decode cL_law 989 = .ok (.iadd, 1) := by decide +kernel
theorem dL_law_990 : decode cL_law 990 = .ok (.iaload, 1) := by decide +kernel
theorem dL_law_991 : decode cL_law 991 = .ok (.ifCond .eq 7, 3) := by decide +kernel
theorem dL_law_994 : decode cL_law 994 = .ok (.iconst 1, 1) := by decide +kernel
theorem dL_law_995 : decode cL_law 995 = .ok (.goto 4, 3) := by decide +kernel
theorem dL_law_998 : decode cL_law 998 = .ok (.iconst 0, 1) := by decide +kernel
theorem dL_law_999 : decode cL_law 999 = .ok (.invokevirtual 87, 3) := by decide +kernel
theorem dL_law_1002 : decode cL_law 1002 = .ok (.lcmp, 1) := by decide +kernel
theorem dL_law_1003 : decode cL_law 1003 = .ok (.ifCond .eq 1265, 3) := by decide +kernel
theorem dL_law_1008 : decode cL_law 1008 = .ok (.aload_n 1, 1) := by decide +kernel
theorem dL_law_1009 : decode cL_law 1009 = .ok (.aload_n 0, 1) := by decide +kernel
theorem dL_law_1010 : decode cL_law 1010 = .ok (.iload_n 3, 1) := by decide +kernel
theorem dL_law_1011 : decode cL_law 1011 = .ok (.iconst 1, 1) := by decide +kernel
theorem dL_law_1012 : decode cL_law 1012 = .ok (.iadd, 1) := by decide +kernel
theorem dL_law_1013 : decode cL_law 1013 = .ok (.iaload, 1) := by decide +kernel
theorem dL_law_1014 : decode cL_law 1014 = .ok (.aload_n 0, 1) := by decide +kernel
theorem dL_law_1015 : decode cL_law 1015 = .ok (.iload_n 3, 1) := by decide +kernel
theorem dL_law_1016 : decode cL_law 1016 = .ok (.iconst 2, 1) := by decide +kernel
theorem dL_law_1017 : decode cL_law 1017 = .ok (.iadd, 1) := by decide +kernel
theorem dL_law_1018 : decode cL_law 1018 = .ok (.iaload, 1) := by decide +kernel
theorem dL_law_1019 : decode cL_law 1019 = .ok (.aload_n 0, 1) := by decide +kernel
theorem dL_law_1020 : decode cL_law 1020 = .ok (.iload_n 3, 1) := by decide +kernel
theorem dL_law_1021 : decode cL_law 1021 = .ok (.iconst 3, 1) := by decide +kernel
theorem dL_law_1022 : decode cL_law 1022 = .ok (.iadd, 1) := by decide +kernel
theorem dL_law_1023 : decode cL_law 1023 = .ok (.iaload, 1) := by decide +kernel
theorem dL_law_1024 : decode cL_law 1024 = .ok (.invokevirtual 88, 3) := by decide +kernel
theorem dL_law_1027 : decode cL_law 1027 = .ok (.aload_n 2, 1) := by decide +kernel
theorem dL_law_1028 : decode cL_law 1028 = .ok (.aload_n 0, 1) := by decide +kernel
theorem dL_law_1029 : decode cL_law 1029 = .ok (.iload_n 3, 1) := by decide +kernel
theorem dL_law_1030 : decode cL_law 1030 = .ok (.iconst 1, 1) := by decide +kernel
theorem dL_law_1031 : decode cL_law 1031 = .ok (.iadd, 1) := by decide +kernel
theorem dL_law_1032 : decode cL_law 1032 = .ok (.iaload, 1) := by decide +kernel
theorem dL_law_1033 : decode cL_law 1033 = .ok (.aload_n 0, 1) := by decide +kernel
theorem dL_law_1034 : decode cL_law 1034 = .ok (.iload_n 3, 1) := by decide +kernel
theorem dL_law_1035 : decode cL_law 1035 = .ok (.iconst 2, 1) := by decide +kernel
theorem dL_law_1036 : decode cL_law 1036 = .ok (.iadd, 1) := by decide +kernel
theorem dL_law_1037 : decode cL_law 1037 = .ok (.iaload, 1) := by decide +kernel
theorem dL_law_1038 : decode cL_law 1038 = .ok (.aload_n 0, 1) := by decide +kernel
theorem dL_law_1039 : decode cL_law 1039 = .ok (.iload_n 3, 1) := by decide +kernel
theorem dL_law_1040 : decode cL_law 1040 = .ok (.iconst 3, 1) := by decide +kernel
theorem dL_law_1041 : decode cL_law 1041 = .ok (.iadd, 1) := by decide +kernel
theorem dL_law_1042 : decode cL_law 1042 = .ok (.iaload, 1) := by decide +kernel
theorem dL_law_1043 : decode cL_law 1043 = .ok (.invokevirtual 91, 3) := by decide +kernel
theorem dL_law_1046 : decode cL_law 1046 = .ok (.if_icmp .eq 1222, 3) := by decide +kernel
theorem dL_law_1051 : decode cL_law 1051 = .ok (.aload_n 1, 1) := by decide +kernel
theorem dL_law_1052 : decode cL_law 1052 = .ok (.aload_n 0, 1) := by decide +kernel
theorem dL_law_1053 : decode cL_law 1053 = .ok (.iload_n 3, 1) := by decide +kernel
theorem dL_law_1054 : decode cL_law 1054 = .ok (.iconst 1, 1) := by decide +kernel
theorem dL_law_1055 : decode cL_law 1055 = .ok (.iadd, 1) := by decide +kernel
theorem dL_law_1056 : decode cL_law 1056 = .ok (.iaload, 1) := by decide +kernel
theorem dL_law_1057 : decode cL_law 1057 = .ok (.aload_n 0, 1) := by decide +kernel
theorem dL_law_1058 : decode cL_law 1058 = .ok (.iload_n 3, 1) := by decide +kernel
theorem dL_law_1059 : decode cL_law 1059 = .ok (.iconst 2, 1) := by decide +kernel
theorem dL_law_1060 : decode cL_law 1060 = .ok (.iadd, 1) := by decide +kernel
theorem dL_law_1061 : decode cL_law 1061 = .ok (.iaload, 1) := by decide +kernel
theorem dL_law_1062 : decode cL_law 1062 = .ok (.aload_n 0, 1) := by decide +kernel
theorem dL_law_1063 : decode cL_law 1063 = .ok (.iload_n 3, 1) := by decide +kernel
theorem dL_law_1064 : decode cL_law 1064 = .ok (.iconst 3, 1) := by decide +kernel
theorem dL_law_1065 : decode cL_law 1065 = .ok (.iadd, 1) := by decide +kernel
theorem dL_law_1066 : decode cL_law 1066 = .ok (.iaload, 1) := by decide +kernel
theorem dL_law_1067 : decode cL_law 1067 = .ok (.aload_n 0, 1) := by decide +kernel
theorem dL_law_1068 : decode cL_law 1068 = .ok (.iload_n 3, 1) := by decide +kernel
theorem dL_law_1069 : decode cL_law 1069 = .ok (.iconst 4, 1) := by decide +kernel
theorem dL_law_1070 : decode cL_law 1070 = .ok (.iadd, 1) := by decide +kernel
theorem dL_law_1071 : decode cL_law 1071 = .ok (.iaload, 1) := by decide +kernel
theorem dL_law_1072 : decode cL_law 1072 = .ok (.invokevirtual 92, 3) := by decide +kernel
theorem dL_law_1075 : decode cL_law 1075 = .ok (.aload_n 2, 1) := by decide +kernel
theorem dL_law_1076 : decode cL_law 1076 = .ok (.aload_n 0, 1) := by decide +kernel
theorem dL_law_1077 : decode cL_law 1077 = .ok (.iload_n 3, 1) := by decide +kernel
theorem dL_law_1078 : decode cL_law 1078 = .ok (.iconst 1, 1) := by decide +kernel
theorem dL_law_1079 : decode cL_law 1079 = .ok (.iadd, 1) := by decide +kernel
theorem dL_law_1080 : decode cL_law 1080 = .ok (.iaload, 1) := by decide +kernel
theorem dL_law_1081 : decode cL_law 1081 = .ok (.aload_n 0, 1) := by decide +kernel
theorem dL_law_1082 : decode cL_law 1082 = .ok (.iload_n 3, 1) := by decide +kernel
theorem dL_law_1083 : decode cL_law 1083 = .ok (.iconst 2, 1) := by decide +kernel
theorem dL_law_1084 : decode cL_law 1084 = .ok (.iadd, 1) := by decide +kernel
theorem dL_law_1085 : decode cL_law 1085 = .ok (.iaload, 1) := by decide +kernel
theorem dL_law_1086 : decode cL_law 1086 = .ok (.aload_n 0, 1) := by decide +kernel
theorem dL_law_1087 : decode cL_law 1087 = .ok (.iload_n 3, 1) := by decide +kernel
theorem dL_law_1088 : decode cL_law 1088 = .ok (.iconst 3, 1) := by decide +kernel
theorem dL_law_1089 : decode cL_law 1089 = .ok (.iadd, 1) := by decide +kernel
theorem dL_law_1090 : decode cL_law 1090 = .ok (.iaload, 1) := by decide +kernel
theorem dL_law_1091 : decode cL_law 1091 = .ok (.aload_n 0, 1) := by decide +kernel
theorem dL_law_1092 : decode cL_law 1092 = .ok (.iload_n 3, 1) := by decide +kernel
theorem dL_law_1093 : decode cL_law 1093 = .ok (.iconst 4, 1) := by decide +kernel
theorem dL_law_1094 : decode cL_law 1094 = .ok (.iadd, 1) := by decide +kernel
theorem dL_law_1095 : decode cL_law 1095 = .ok (.iaload, 1) := by decide +kernel
theorem dL_law_1096 : decode cL_law 1096 = .ok (.invokevirtual 96, 3) := by decide +kernel
theorem dL_law_1099 : decode cL_law 1099 = .ok (.lcmp, 1) := by decide +kernel
theorem dL_law_1100 : decode cL_law 1100 = .ok (.ifCond .eq 1168, 3) := by decide +kernel
theorem dL_law_1105 : decode cL_law 1105 = .ok (.aload_n 1, 1) := by decide +kernel
theorem dL_law_1106 : decode cL_law 1106 = .ok (.aload_n 0, 1) := by decide +kernel
theorem dL_law_1107 : decode cL_law 1107 = .ok (.iload_n 3, 1) := by decide +kernel
theorem dL_law_1108 : decode cL_law 1108 = .ok (.iconst 1, 1) := by decide +kernel
theorem dL_law_1109 : decode cL_law 1109 = .ok (.iadd, 1) := by decide +kernel
theorem dL_law_1110 : decode cL_law 1110 = .ok (.iaload, 1) := by decide +kernel
theorem dL_law_1111 : decode cL_law 1111 = .ok (.aload_n 0, 1) := by decide +kernel
theorem dL_law_1112 : decode cL_law 1112 = .ok (.iload_n 3, 1) := by decide +kernel
theorem dL_law_1113 : decode cL_law 1113 = .ok (.iconst 2, 1) := by decide +kernel
theorem dL_law_1114 : decode cL_law 1114 = .ok (.iadd, 1) := by decide +kernel
theorem dL_law_1115 : decode cL_law 1115 = .ok (.iaload, 1) := by decide +kernel
theorem dL_law_1116 : decode cL_law 1116 = .ok (.aload_n 0, 1) := by decide +kernel
theorem dL_law_1117 : decode cL_law 1117 = .ok (.iload_n 3, 1) := by decide +kernel
theorem dL_law_1118 : decode cL_law 1118 = .ok (.iconst 3, 1) := by decide +kernel
theorem dL_law_1119 : decode cL_law 1119 = .ok (.iadd, 1) := by decide +kernel
theorem dL_law_1120 : decode cL_law 1120 = .ok (.iaload, 1) := by decide +kernel
theorem dL_law_1121 : decode cL_law 1121 = .ok (.invokevirtual 97, 3) := by decide +kernel
theorem dL_law_1124 : decode cL_law 1124 = .ok (.aload_n 2, 1) := by decide +kernel
theorem dL_law_1125 : decode cL_law 1125 = .ok (.aload_n 0, 1) := by decide +kernel
theorem dL_law_1126 : decode cL_law 1126 = .ok (.iload_n 3, 1) := by decide +kernel
theorem dL_law_1127 : decode cL_law 1127 = .ok (.iconst 1, 1) := by decide +kernel
theorem dL_law_1128 : decode cL_law 1128 = .ok (.iadd, 1) := by decide +kernel
theorem dL_law_1129 : decode cL_law 1129 = .ok (.iaload, 1) := by decide +kernel
theorem dL_law_1130 : decode cL_law 1130 = .ok (.aload_n 0, 1) := by decide +kernel
theorem dL_law_1131 : decode cL_law 1131 = .ok (.iload_n 3, 1) := by decide +kernel
theorem dL_law_1132 : decode cL_law 1132 = .ok (.iconst 2, 1) := by decide +kernel
theorem dL_law_1133 : decode cL_law 1133 = .ok (.iadd, 1) := by decide +kernel
theorem dL_law_1134 : decode cL_law 1134 = .ok (.iaload, 1) := by decide +kernel
theorem dL_law_1135 : decode cL_law 1135 = .ok (.aload_n 0, 1) := by decide +kernel
theorem dL_law_1136 : decode cL_law 1136 = .ok (.iload_n 3, 1) := by decide +kernel
theorem dL_law_1137 : decode cL_law 1137 = .ok (.iconst 3, 1) := by decide +kernel
theorem dL_law_1138 : decode cL_law 1138 = .ok (.iadd, 1) := by decide +kernel
theorem dL_law_1139 : decode cL_law 1139 = .ok (.iaload, 1) := by decide +kernel
theorem dL_law_1140 : decode cL_law 1140 = .ok (.invokevirtual 100, 3) := by decide +kernel
theorem dL_law_1143 : decode cL_law 1143 = .ok (.lcmp, 1) := by decide +kernel
theorem dL_law_1144 : decode cL_law 1144 = .ok (.ifCond .eq 1124, 3) := by decide +kernel
theorem dL_law_1149 : decode cL_law 1149 = .ok (.aload_n 1, 1) := by decide +kernel
theorem dL_law_1150 : decode cL_law 1150 = .ok (.aload_n 0, 1) := by decide +kernel
theorem dL_law_1151 : decode cL_law 1151 = .ok (.iload_n 3, 1) := by decide +kernel
theorem dL_law_1152 : decode cL_law 1152 = .ok (.iconst 1, 1) := by decide +kernel
theorem dL_law_1153 : decode cL_law 1153 = .ok (.iadd, 1) := by decide +kernel
theorem dL_law_1154 : decode cL_law 1154 = .ok (.iaload, 1) := by decide +kernel
theorem dL_law_1155 : decode cL_law 1155 = .ok (.aload_n 0, 1) := by decide +kernel
theorem dL_law_1156 : decode cL_law 1156 = .ok (.iload_n 3, 1) := by decide +kernel
theorem dL_law_1157 : decode cL_law 1157 = .ok (.iconst 2, 1) := by decide +kernel
theorem dL_law_1158 : decode cL_law 1158 = .ok (.iadd, 1) := by decide +kernel
theorem dL_law_1159 : decode cL_law 1159 = .ok (.iaload, 1) := by decide +kernel
theorem dL_law_1160 : decode cL_law 1160 = .ok (.aload_n 0, 1) := by decide +kernel
theorem dL_law_1161 : decode cL_law 1161 = .ok (.iload_n 3, 1) := by decide +kernel
theorem dL_law_1162 : decode cL_law 1162 = .ok (.iconst 3, 1) := by decide +kernel
theorem dL_law_1163 : decode cL_law 1163 = .ok (.iadd, 1) := by decide +kernel
theorem dL_law_1164 : decode cL_law 1164 = .ok (.iaload, 1) := by decide +kernel
theorem dL_law_1165 : decode cL_law 1165 = .ok (.aload_n 0, 1) := by decide +kernel
theorem dL_law_1166 : decode cL_law 1166 = .ok (.iload_n 3, 1) := by decide +kernel
theorem dL_law_1167 : decode cL_law 1167 = .ok (.iconst 4, 1) := by decide +kernel
theorem dL_law_1168 : decode cL_law 1168 = .ok (.iadd, 1) := by decide +kernel
theorem dL_law_1169 : decode cL_law 1169 = .ok (.iaload, 1) := by decide +kernel
theorem dL_law_1170 : decode cL_law 1170 = .ok (.invokevirtual 101, 3) := by decide +kernel
theorem dL_law_1173 : decode cL_law 1173 = .ok (.aload_n 2, 1) := by decide +kernel
theorem dL_law_1174 : decode cL_law 1174 = .ok (.aload_n 0, 1) := by decide +kernel
theorem dL_law_1175 : decode cL_law 1175 = .ok (.iload_n 3, 1) := by decide +kernel
theorem dL_law_1176 : decode cL_law 1176 = .ok (.iconst 1, 1) := by decide +kernel
theorem dL_law_1177 : decode cL_law 1177 = .ok (.iadd, 1) := by decide +kernel
theorem dL_law_1178 : decode cL_law 1178 = .ok (.iaload, 1) := by decide +kernel
theorem dL_law_1179 : decode cL_law 1179 = .ok (.aload_n 0, 1) := by decide +kernel
theorem dL_law_1180 : decode cL_law 1180 = .ok (.iload_n 3, 1) := by decide +kernel
theorem dL_law_1181 : decode cL_law 1181 = .ok (.iconst 2, 1) := by decide +kernel
theorem dL_law_1182 : decode cL_law 1182 = .ok (.iadd, 1) := by decide +kernel
theorem dL_law_1183 : decode cL_law 1183 = .ok (.iaload, 1) := by decide +kernel
theorem dL_law_1184 : decode cL_law 1184 = .ok (.aload_n 0, 1) := by decide +kernel
theorem dL_law_1185 : decode cL_law 1185 = .ok (.iload_n 3, 1) := by decide +kernel
theorem dL_law_1186 : decode cL_law 1186 = .ok (.iconst 3, 1) := by decide +kernel
theorem dL_law_1187 : decode cL_law 1187 = .ok (.iadd, 1) := by decide +kernel
theorem dL_law_1188 : decode cL_law 1188 = .ok (.iaload, 1) := by decide +kernel
theorem dL_law_1189 : decode cL_law 1189 = .ok (.aload_n 0, 1) := by decide +kernel
theorem dL_law_1190 : decode cL_law 1190 = .ok (.iload_n 3, 1) := by decide +kernel
theorem dL_law_1191 : decode cL_law 1191 = .ok (.iconst 4, 1) := by decide +kernel
theorem dL_law_1192 : decode cL_law 1192 = .ok (.iadd, 1) := by decide +kernel
theorem dL_law_1193 : decode cL_law 1193 = .ok (.iaload, 1) := by decide +kernel
theorem dL_law_1194 : decode cL_law 1194 = .ok (.invokevirtual 104, 3) := by decide +kernel
theorem dL_law_1197 : decode cL_law 1197 = .ok (.lcmp, 1) := by decide +kernel
theorem dL_law_1198 : decode cL_law 1198 = .ok (.ifCond .eq 1070, 3) := by decide +kernel
theorem dL_law_1203 : decode cL_law 1203 = .ok (.aload_n 1, 1) := by decide +kernel
theorem dL_law_1204 : decode cL_law 1204 = .ok (.aload_n 0, 1) := by decide +kernel
theorem dL_law_1205 : decode cL_law 1205 = .ok (.iload_n 3, 1) := by decide +kernel
theorem dL_law_1206 : decode cL_law 1206 = .ok (.iconst 1, 1) := by decide +kernel
theorem dL_law_1207 : decode cL_law 1207 = .ok (.iadd, 1) := by decide +kernel
theorem dL_law_1208 : decode cL_law 1208 = .ok (.iaload, 1) := by decide +kernel
theorem dL_law_1209 : decode cL_law 1209 = .ok (.aload_n 0, 1) := by decide +kernel
theorem dL_law_1210 : decode cL_law 1210 = .ok (.iload_n 3, 1) := by decide +kernel
theorem dL_law_1211 : decode cL_law 1211 = .ok (.iconst 2, 1) := by decide +kernel
theorem dL_law_1212 : decode cL_law 1212 = .ok (.iadd, 1) := by decide +kernel
theorem dL_law_1213 : decode cL_law 1213 = .ok (.iaload, 1) := by decide +kernel
theorem dL_law_1214 : decode cL_law 1214 = .ok (.aload_n 0, 1) := by decide +kernel
theorem dL_law_1215 : decode cL_law 1215 = .ok (.iload_n 3, 1) := by decide +kernel
theorem dL_law_1216 : decode cL_law 1216 = .ok (.iconst 3, 1) := by decide +kernel
theorem dL_law_1217 : decode cL_law 1217 = .ok (.iadd, 1) := by decide +kernel
theorem dL_law_1218 : decode cL_law 1218 = .ok (.iaload, 1) := by decide +kernel
theorem dL_law_1219 : decode cL_law 1219 = .ok (.aload_n 0, 1) := by decide +kernel
theorem dL_law_1220 : decode cL_law 1220 = .ok (.iload_n 3, 1) := by decide +kernel
theorem dL_law_1221 : decode cL_law 1221 = .ok (.iconst 4, 1) := by decide +kernel
theorem dL_law_1222 : decode cL_law 1222 = .ok (.iadd, 1) := by decide +kernel
theorem dL_law_1223 : decode cL_law 1223 = .ok (.iaload, 1) := by decide +kernel
theorem dL_law_1224 : decode cL_law 1224 = .ok (.ifCond .eq 7, 3) := by decide +kernel
theorem dL_law_1227 : decode cL_law 1227 = .ok (.iconst 1, 1) := by decide +kernel
theorem dL_law_1228 : decode cL_law 1228 = .ok (.goto 4, 3) := by decide +kernel
theorem dL_law_1231 : decode cL_law 1231 = .ok (.iconst 0, 1) := by decide +kernel
theorem dL_law_1232 : decode cL_law 1232 = .ok (.invokevirtual 105, 3) := by decide +kernel
theorem dL_law_1235 : decode cL_law 1235 = .ok (.aload_n 2, 1) := by decide +kernel
theorem dL_law_1236 : decode cL_law 1236 = .ok (.aload_n 0, 1) := by decide +kernel
theorem dL_law_1237 : decode cL_law 1237 = .ok (.iload_n 3, 1) := by decide +kernel
theorem dL_law_1238 : decode cL_law 1238 = .ok (.iconst 1, 1) := by decide +kernel
theorem dL_law_1239 : decode cL_law 1239 = .ok (.iadd, 1) := by decide +kernel
theorem dL_law_1240 : decode cL_law 1240 = .ok (.iaload, 1) := by decide +kernel
theorem dL_law_1241 : decode cL_law 1241 = .ok (.aload_n 0, 1) := by decide +kernel
theorem dL_law_1242 : decode cL_law 1242 = .ok (.iload_n 3, 1) := by decide +kernel
theorem dL_law_1243 : decode cL_law 1243 = .ok (.iconst 2, 1) := by decide +kernel
theorem dL_law_1244 : decode cL_law 1244 = .ok (.iadd, 1) := by decide +kernel
theorem dL_law_1245 : decode cL_law 1245 = .ok (.iaload, 1) := by decide +kernel
theorem dL_law_1246 : decode cL_law 1246 = .ok (.aload_n 0, 1) := by decide +kernel
theorem dL_law_1247 : decode cL_law 1247 = .ok (.iload_n 3, 1) := by decide +kernel
theorem dL_law_1248 : decode cL_law 1248 = .ok (.iconst 3, 1) := by decide +kernel
theorem dL_law_1249 : decode cL_law 1249 = .ok (.iadd, 1) := by decide +kernel
theorem dL_law_1250 : decode cL_law 1250 = .ok (.iaload, 1) := by decide +kernel
theorem dL_law_1251 : decode cL_law 1251 = .ok (.aload_n 0, 1) := by decide +kernel
theorem dL_law_1252 : decode cL_law 1252 = .ok (.iload_n 3, 1) := by decide +kernel
theorem dL_law_1253 : decode cL_law 1253 = .ok (.iconst 4, 1) := by decide +kernel
theorem dL_law_1254 : decode cL_law 1254 = .ok (.iadd, 1) := by decide +kernel
theorem dL_law_1255 : decode cL_law 1255 = .ok (.iaload, 1) := by decide +kernel
theorem dL_law_1256 : decode cL_law 1256 = .ok (.ifCond .eq 7, 3) := by decide +kernel
theorem dL_law_1259 : decode cL_law 1259 = .ok (.iconst 1, 1) := by decide +kernel
theorem dL_law_1260 : decode cL_law 1260 = .ok (.goto 4, 3) := by decide +kernel
theorem dL_law_1263 : decode cL_law 1263 = .ok (.iconst 0, 1) := by decide +kernel
theorem dL_law_1264 : decode cL_law 1264 = .ok (.invokevirtual 109, 3) := by decide +kernel
theorem dL_law_1267 : decode cL_law 1267 = .ok (.lcmp, 1) := by decide +kernel
theorem dL_law_1268 : decode cL_law 1268 = .ok (.ifCond .eq 1000, 3) := by decide +kernel
theorem dL_law_1273 : decode cL_law 1273 = .ok (.aload_n 1, 1) := by decide +kernel
theorem dL_law_1274 : decode cL_law 1274 = .ok (.aload_n 0, 1) := by decide +kernel
theorem dL_law_1275 : decode cL_law 1275 = .ok (.iload_n 3, 1) := by decide +kernel
theorem dL_law_1276 : decode cL_law 1276 = .ok (.iconst 1, 1) := by decide +kernel
theorem dL_law_1277 : decode cL_law 1277 = .ok (.iadd, 1) := by decide +kernel
theorem dL_law_1278 : decode cL_law 1278 = .ok (.iaload, 1) := by decide +kernel
theorem dL_law_1279 : decode cL_law 1279 = .ok (.aload_n 0, 1) := by decide +kernel
theorem dL_law_1280 : decode cL_law 1280 = .ok (.iload_n 3, 1) := by decide +kernel
theorem dL_law_1281 : decode cL_law 1281 = .ok (.iconst 2, 1) := by decide +kernel
theorem dL_law_1282 : decode cL_law 1282 = .ok (.iadd, 1) := by decide +kernel
theorem dL_law_1283 : decode cL_law 1283 = .ok (.iaload, 1) := by decide +kernel
theorem dL_law_1284 : decode cL_law 1284 = .ok (.aload_n 0, 1) := by decide +kernel
theorem dL_law_1285 : decode cL_law 1285 = .ok (.iload_n 3, 1) := by decide +kernel
theorem dL_law_1286 : decode cL_law 1286 = .ok (.iconst 3, 1) := by decide +kernel
theorem dL_law_1287 : decode cL_law 1287 = .ok (.iadd, 1) := by decide +kernel
theorem dL_law_1288 : decode cL_law 1288 = .ok (.iaload, 1) := by decide +kernel
theorem dL_law_1289 : decode cL_law 1289 = .ok (.aload_n 0, 1) := by decide +kernel
theorem dL_law_1290 : decode cL_law 1290 = .ok (.iload_n 3, 1) := by decide +kernel
theorem dL_law_1291 : decode cL_law 1291 = .ok (.iconst 4, 1) := by decide +kernel
theorem dL_law_1292 : decode cL_law 1292 = .ok (.iadd, 1) := by decide +kernel
theorem dL_law_1293 : decode cL_law 1293 = .ok (.iaload, 1) := by decide +kernel
theorem dL_law_1294 : decode cL_law 1294 = .ok (.invokevirtual 110, 3) := by decide +kernel
theorem dL_law_1297 : decode cL_law 1297 = .ok (.aload_n 2, 1) := by decide +kernel
theorem dL_law_1298 : decode cL_law 1298 = .ok (.aload_n 0, 1) := by decide +kernel
theorem dL_law_1299 : decode cL_law 1299 = .ok (.iload_n 3, 1) := by decide +kernel
theorem dL_law_1300 : decode cL_law 1300 = .ok (.iconst 1, 1) := by decide +kernel
theorem dL_law_1301 : decode cL_law 1301 = .ok (.iadd, 1) := by decide +kernel
theorem dL_law_1302 : decode cL_law 1302 = .ok (.iaload, 1) := by decide +kernel
theorem dL_law_1303 : decode cL_law 1303 = .ok (.aload_n 0, 1) := by decide +kernel
theorem dL_law_1304 : decode cL_law 1304 = .ok (.iload_n 3, 1) := by decide +kernel
theorem dL_law_1305 : decode cL_law 1305 = .ok (.iconst 2, 1) := by decide +kernel
theorem dL_law_1306 : decode cL_law 1306 = .ok (.iadd, 1) := by decide +kernel
theorem dL_law_1307 : decode cL_law 1307 = .ok (.iaload, 1) := by decide +kernel
theorem dL_law_1308 : decode cL_law 1308 = .ok (.aload_n 0, 1) := by decide +kernel
theorem dL_law_1309 : decode cL_law 1309 = .ok (.iload_n 3, 1) := by decide +kernel
theorem dL_law_1310 : decode cL_law 1310 = .ok (.iconst 3, 1) := by decide +kernel
theorem dL_law_1311 : decode cL_law 1311 = .ok (.iadd, 1) := by decide +kernel
theorem dL_law_1312 : decode cL_law 1312 = .ok (.iaload, 1) := by decide +kernel
theorem dL_law_1313 : decode cL_law 1313 = .ok (.aload_n 0, 1) := by decide +kernel
theorem dL_law_1314 : decode cL_law 1314 = .ok (.iload_n 3, 1) := by decide +kernel
theorem dL_law_1315 : decode cL_law 1315 = .ok (.iconst 4, 1) := by decide +kernel
theorem dL_law_1316 : decode cL_law 1316 = .ok (.iadd, 1) := by decide +kernel
theorem dL_law_1317 : decode cL_law 1317 = .ok (.iaload, 1) := by decide +kernel
theorem dL_law_1318 : decode cL_law 1318 = .ok (.invokevirtual 113, 3) := by decide +kernel
theorem dL_law_1321 : decode cL_law 1321 = .ok (.if_icmp .eq 947, 3) := by decide +kernel
theorem dL_law_1326 : decode cL_law 1326 = .ok (.aload_n 1, 1) := by decide +kernel
theorem dL_law_1327 : decode cL_law 1327 = .ok (.aload_n 0, 1) := by decide +kernel
theorem dL_law_1328 : decode cL_law 1328 = .ok (.iload_n 3, 1) := by decide +kernel
theorem dL_law_1329 : decode cL_law 1329 = .ok (.iconst 1, 1) := by decide +kernel
theorem dL_law_1330 : decode cL_law 1330 = .ok (.iadd, 1) := by decide +kernel
theorem dL_law_1331 : decode cL_law 1331 = .ok (.iaload, 1) := by decide +kernel
theorem dL_law_1332 : decode cL_law 1332 = .ok (.aload_n 0, 1) := by decide +kernel
theorem dL_law_1333 : decode cL_law 1333 = .ok (.iload_n 3, 1) := by decide +kernel
theorem dL_law_1334 : decode cL_law 1334 = .ok (.iconst 2, 1) := by decide +kernel
theorem dL_law_1335 : decode cL_law 1335 = .ok (.iadd, 1) := by decide +kernel
theorem dL_law_1336 : decode cL_law 1336 = .ok (.iaload, 1) := by decide +kernel
theorem dL_law_1337 : decode cL_law 1337 = .ok (.aload_n 0, 1) := by decide +kernel
theorem dL_law_1338 : decode cL_law 1338 = .ok (.iload_n 3, 1) := by decide +kernel
theorem dL_law_1339 : decode cL_law 1339 = .ok (.iconst 3, 1) := by decide +kernel
theorem dL_law_1340 : decode cL_law 1340 = .ok (.iadd, 1) := by decide +kernel
theorem dL_law_1341 : decode cL_law 1341 = .ok (.iaload, 1) := by decide +kernel
theorem dL_law_1342 : decode cL_law 1342 = .ok (.aload_n 0, 1) := by decide +kernel
theorem dL_law_1343 : decode cL_law 1343 = .ok (.iload_n 3, 1) := by decide +kernel
theorem dL_law_1344 : decode cL_law 1344 = .ok (.iconst 4, 1) := by decide +kernel
theorem dL_law_1345 : decode cL_law 1345 = .ok (.iadd, 1) := by decide +kernel
theorem dL_law_1346 : decode cL_law 1346 = .ok (.iaload, 1) := by decide +kernel
theorem dL_law_1347 : decode cL_law 1347 = .ok (.ifCond .eq 7, 3) := by decide +kernel
theorem dL_law_1350 : decode cL_law 1350 = .ok (.iconst 1, 1) := by decide +kernel
theorem dL_law_1351 : decode cL_law 1351 = .ok (.goto 4, 3) := by decide +kernel
theorem dL_law_1354 : decode cL_law 1354 = .ok (.iconst 0, 1) := by decide +kernel
theorem dL_law_1355 : decode cL_law 1355 = .ok (.invokevirtual 114, 3) := by decide +kernel
theorem dL_law_1358 : decode cL_law 1358 = .ok (.aload_n 2, 1) := by decide +kernel
theorem dL_law_1359 : decode cL_law 1359 = .ok (.aload_n 0, 1) := by decide +kernel
theorem dL_law_1360 : decode cL_law 1360 = .ok (.iload_n 3, 1) := by decide +kernel
theorem dL_law_1361 : decode cL_law 1361 = .ok (.iconst 1, 1) := by decide +kernel
theorem dL_law_1362 : decode cL_law 1362 = .ok (.iadd, 1) := by decide +kernel
theorem dL_law_1363 : decode cL_law 1363 = .ok (.iaload, 1) := by decide +kernel
theorem dL_law_1364 : decode cL_law 1364 = .ok (.aload_n 0, 1) := by decide +kernel
theorem dL_law_1365 : decode cL_law 1365 = .ok (.iload_n 3, 1) := by decide +kernel
theorem dL_law_1366 : decode cL_law 1366 = .ok (.iconst 2, 1) := by decide +kernel
theorem dL_law_1367 : decode cL_law 1367 = .ok (.iadd, 1) := by decide +kernel
theorem dL_law_1368 : decode cL_law 1368 = .ok (.iaload, 1) := by decide +kernel
theorem dL_law_1369 : decode cL_law 1369 = .ok (.aload_n 0, 1) := by decide +kernel
theorem dL_law_1370 : decode cL_law 1370 = .ok (.iload_n 3, 1) := by decide +kernel
theorem dL_law_1371 : decode cL_law 1371 = .ok (.iconst 3, 1) := by decide +kernel
theorem dL_law_1372 : decode cL_law 1372 = .ok (.iadd, 1) := by decide +kernel
theorem dL_law_1373 : decode cL_law 1373 = .ok (.iaload, 1) := by decide +kernel
theorem dL_law_1374 : decode cL_law 1374 = .ok (.aload_n 0, 1) := by decide +kernel
theorem dL_law_1375 : decode cL_law 1375 = .ok (.iload_n 3, 1) := by decide +kernel
theorem dL_law_1376 : decode cL_law 1376 = .ok (.iconst 4, 1) := by decide +kernel
theorem dL_law_1377 : decode cL_law 1377 = .ok (.iadd, 1) := by decide +kernel
theorem dL_law_1378 : decode cL_law 1378 = .ok (.iaload, 1) := by decide +kernel
theorem dL_law_1379 : decode cL_law 1379 = .ok (.ifCond .eq 7, 3) := by decide +kernel
theorem dL_law_1382 : decode cL_law 1382 = .ok (.iconst 1, 1) := by decide +kernel
theorem dL_law_1383 : decode cL_law 1383 = .ok (.goto 4, 3) := by decide +kernel
theorem dL_law_1386 : decode cL_law 1386 = .ok (.iconst 0, 1) := by decide +kernel
theorem dL_law_1387 : decode cL_law 1387 = .ok (.invokevirtual 118, 3) := by decide +kernel
theorem dL_law_1390 : decode cL_law 1390 = .ok (.if_icmp .eq 878, 3) := by decide +kernel
theorem dL_law_1395 : decode cL_law 1395 = .ok (.aload_n 1, 1) := by decide +kernel
theorem dL_law_1396 : decode cL_law 1396 = .ok (.aload_n 0, 1) := by decide +kernel
theorem dL_law_1397 : decode cL_law 1397 = .ok (.iload_n 3, 1) := by decide +kernel
theorem dL_law_1398 : decode cL_law 1398 = .ok (.iconst 1, 1) := by decide +kernel
theorem dL_law_1399 : decode cL_law 1399 = .ok (.iadd, 1) := by decide +kernel
theorem dL_law_1400 : decode cL_law 1400 = .ok (.iaload, 1) := by decide +kernel
theorem dL_law_1401 : decode cL_law 1401 = .ok (.aload_n 0, 1) := by decide +kernel
theorem dL_law_1402 : decode cL_law 1402 = .ok (.iload_n 3, 1) := by decide +kernel
theorem dL_law_1403 : decode cL_law 1403 = .ok (.iconst 2, 1) := by decide +kernel
theorem dL_law_1404 : decode cL_law 1404 = .ok (.iadd, 1) := by decide +kernel
theorem dL_law_1405 : decode cL_law 1405 = .ok (.iaload, 1) := by decide +kernel
theorem dL_law_1406 : decode cL_law 1406 = .ok (.invokevirtual 119, 3) := by decide +kernel
theorem dL_law_1409 : decode cL_law 1409 = .ok (.aload_n 2, 1) := by decide +kernel
theorem dL_law_1410 : decode cL_law 1410 = .ok (.aload_n 0, 1) := by decide +kernel
theorem dL_law_1411 : decode cL_law 1411 = .ok (.iload_n 3, 1) := by decide +kernel
theorem dL_law_1412 : decode cL_law 1412 = .ok (.iconst 1, 1) := by decide +kernel
theorem dL_law_1413 : decode cL_law 1413 = .ok (.iadd, 1) := by decide +kernel
theorem dL_law_1414 : decode cL_law 1414 = .ok (.iaload, 1) := by decide +kernel
theorem dL_law_1415 : decode cL_law 1415 = .ok (.aload_n 0, 1) := by decide +kernel
theorem dL_law_1416 : decode cL_law 1416 = .ok (.iload_n 3, 1) := by decide +kernel
theorem dL_law_1417 : decode cL_law 1417 = .ok (.iconst 2, 1) := by decide +kernel
theorem dL_law_1418 : decode cL_law 1418 = .ok (.iadd, 1) := by decide +kernel
theorem dL_law_1419 : decode cL_law 1419 = .ok (.iaload, 1) := by decide +kernel
theorem dL_law_1420 : decode cL_law 1420 = .ok (.invokevirtual 122, 3) := by decide +kernel
theorem dL_law_1423 : decode cL_law 1423 = .ok (.if_icmp .eq 845, 3) := by decide +kernel
theorem dL_law_1428 : decode cL_law 1428 = .ok (.aload_n 1, 1) := by decide +kernel
theorem dL_law_1429 : decode cL_law 1429 = .ok (.aload_n 0, 1) := by decide +kernel
theorem dL_law_1430 : decode cL_law 1430 = .ok (.iload_n 3, 1) := by decide +kernel
theorem dL_law_1431 : decode cL_law 1431 = .ok (.iconst 1, 1) := by decide +kernel
theorem dL_law_1432 : decode cL_law 1432 = .ok (.iadd, 1) := by decide +kernel
theorem dL_law_1433 : decode cL_law 1433 = .ok (.iaload, 1) := by decide +kernel
theorem dL_law_1434 : decode cL_law 1434 = .ok (.aload_n 0, 1) := by decide +kernel
theorem dL_law_1435 : decode cL_law 1435 = .ok (.iload_n 3, 1) := by decide +kernel
theorem dL_law_1436 : decode cL_law 1436 = .ok (.iconst 2, 1) := by decide +kernel
theorem dL_law_1437 : decode cL_law 1437 = .ok (.iadd, 1) := by decide +kernel
theorem dL_law_1438 : decode cL_law 1438 = .ok (.iaload, 1) := by decide +kernel
theorem dL_law_1439 : decode cL_law 1439 = .ok (.aload_n 0, 1) := by decide +kernel
theorem dL_law_1440 : decode cL_law 1440 = .ok (.iload_n 3, 1) := by decide +kernel
theorem dL_law_1441 : decode cL_law 1441 = .ok (.iconst 3, 1) := by decide +kernel
theorem dL_law_1442 : decode cL_law 1442 = .ok (.iadd, 1) := by decide +kernel
theorem dL_law_1443 : decode cL_law 1443 = .ok (.iaload, 1) := by decide +kernel
theorem dL_law_1444 : decode cL_law 1444 = .ok (.aload_n 0, 1) := by decide +kernel
theorem dL_law_1445 : decode cL_law 1445 = .ok (.iload_n 3, 1) := by decide +kernel
theorem dL_law_1446 : decode cL_law 1446 = .ok (.iconst 4, 1) := by decide +kernel
theorem dL_law_1447 : decode cL_law 1447 = .ok (.iadd, 1) := by decide +kernel
theorem dL_law_1448 : decode cL_law 1448 = .ok (.iaload, 1) := by decide +kernel
theorem dL_law_1449 : decode cL_law 1449 = .ok (.aload_n 0, 1) := by decide +kernel
theorem dL_law_1450 : decode cL_law 1450 = .ok (.iload_n 3, 1) := by decide +kernel
theorem dL_law_1451 : decode cL_law 1451 = .ok (.iconst 5, 1) := by decide +kernel
theorem dL_law_1452 : decode cL_law 1452 = .ok (.iadd, 1) := by decide +kernel
theorem dL_law_1453 : decode cL_law 1453 = .ok (.iaload, 1) := by decide +kernel
theorem dL_law_1454 : decode cL_law 1454 = .ok (.invokevirtual 123, 3) := by decide +kernel
theorem dL_law_1457 : decode cL_law 1457 = .ok (.aload_n 2, 1) := by decide +kernel
theorem dL_law_1458 : decode cL_law 1458 = .ok (.aload_n 0, 1) := by decide +kernel
theorem dL_law_1459 : decode cL_law 1459 = .ok (.iload_n 3, 1) := by decide +kernel
theorem dL_law_1460 : decode cL_law 1460 = .ok (.iconst 1, 1) := by decide +kernel
theorem dL_law_1461 : decode cL_law 1461 = .ok (.iadd, 1) := by decide +kernel
theorem dL_law_1462 : decode cL_law 1462 = .ok (.iaload, 1) := by decide +kernel
theorem dL_law_1463 : decode cL_law 1463 = .ok (.aload_n 0, 1) := by decide +kernel
theorem dL_law_1464 : decode cL_law 1464 = .ok (.iload_n 3, 1) := by decide +kernel
theorem dL_law_1465 : decode cL_law 1465 = .ok (.iconst 2, 1) := by decide +kernel
theorem dL_law_1466 : decode cL_law 1466 = .ok (.iadd, 1) := by decide +kernel
theorem dL_law_1467 : decode cL_law 1467 = .ok (.iaload, 1) := by decide +kernel
theorem dL_law_1468 : decode cL_law 1468 = .ok (.aload_n 0, 1) := by decide +kernel
theorem dL_law_1469 : decode cL_law 1469 = .ok (.iload_n 3, 1) := by decide +kernel
theorem dL_law_1470 : decode cL_law 1470 = .ok (.iconst 3, 1) := by decide +kernel
theorem dL_law_1471 : decode cL_law 1471 = .ok (.iadd, 1) := by decide +kernel
theorem dL_law_1472 : decode cL_law 1472 = .ok (.iaload, 1) := by decide +kernel
theorem dL_law_1473 : decode cL_law 1473 = .ok (.aload_n 0, 1) := by decide +kernel
theorem dL_law_1474 : decode cL_law 1474 = .ok (.iload_n 3, 1) := by decide +kernel
theorem dL_law_1475 : decode cL_law 1475 = .ok (.iconst 4, 1) := by decide +kernel
theorem dL_law_1476 : decode cL_law 1476 = .ok (.iadd, 1) := by decide +kernel
theorem dL_law_1477 : decode cL_law 1477 = .ok (.iaload, 1) := by decide +kernel
theorem dL_law_1478 : decode cL_law 1478 = .ok (.aload_n 0, 1) := by decide +kernel
theorem dL_law_1479 : decode cL_law 1479 = .ok (.iload_n 3, 1) := by decide +kernel
theorem dL_law_1480 : decode cL_law 1480 = .ok (.iconst 5, 1) := by decide +kernel
theorem dL_law_1481 : decode cL_law 1481 = .ok (.iadd, 1) := by decide +kernel
theorem dL_law_1482 : decode cL_law 1482 = .ok (.iaload, 1) := by decide +kernel
theorem dL_law_1483 : decode cL_law 1483 = .ok (.invokevirtual 127, 3) := by decide +kernel
theorem dL_law_1486 : decode cL_law 1486 = .ok (.lcmp, 1) := by decide +kernel
theorem dL_law_1487 : decode cL_law 1487 = .ok (.ifCond .eq 781, 3) := by decide +kernel
theorem dL_law_1492 : decode cL_law 1492 = .ok (.aload_n 1, 1) := by decide +kernel
theorem dL_law_1493 : decode cL_law 1493 = .ok (.aload_n 0, 1) := by decide +kernel
theorem dL_law_1494 : decode cL_law 1494 = .ok (.iload_n 3, 1) := by decide +kernel
theorem dL_law_1495 : decode cL_law 1495 = .ok (.iconst 1, 1) := by decide +kernel
theorem dL_law_1496 : decode cL_law 1496 = .ok (.iadd, 1) := by decide +kernel
theorem dL_law_1497 : decode cL_law 1497 = .ok (.iaload, 1) := by decide +kernel
theorem dL_law_1498 : decode cL_law 1498 = .ok (.aload_n 0, 1) := by decide +kernel
theorem dL_law_1499 : decode cL_law 1499 = .ok (.iload_n 3, 1) := by decide +kernel
theorem dL_law_1500 : decode cL_law 1500 = .ok (.iconst 2, 1) := by decide +kernel
theorem dL_law_1501 : decode cL_law 1501 = .ok (.iadd, 1) := by decide +kernel
theorem dL_law_1502 : decode cL_law 1502 = .ok (.iaload, 1) := by decide +kernel
theorem dL_law_1503 : decode cL_law 1503 = .ok (.aload_n 0, 1) := by decide +kernel
theorem dL_law_1504 : decode cL_law 1504 = .ok (.iload_n 3, 1) := by decide +kernel
theorem dL_law_1505 : decode cL_law 1505 = .ok (.iconst 3, 1) := by decide +kernel
theorem dL_law_1506 : decode cL_law 1506 = .ok (.iadd, 1) := by decide +kernel
theorem dL_law_1507 : decode cL_law 1507 = .ok (.iaload, 1) := by decide +kernel
theorem dL_law_1508 : decode cL_law 1508 = .ok (.invokevirtual 128, 3) := by decide +kernel
theorem dL_law_1511 : decode cL_law 1511 = .ok (.aload_n 2, 1) := by decide +kernel
theorem dL_law_1512 : decode cL_law 1512 = .ok (.aload_n 0, 1) := by decide +kernel
theorem dL_law_1513 : decode cL_law 1513 = .ok (.iload_n 3, 1) := by decide +kernel
theorem dL_law_1514 : decode cL_law 1514 = .ok (.iconst 1, 1) := by decide +kernel
theorem dL_law_1515 : decode cL_law 1515 = .ok (.iadd, 1) := by decide +kernel
theorem dL_law_1516 : decode cL_law 1516 = .ok (.iaload, 1) := by decide +kernel
theorem dL_law_1517 : decode cL_law 1517 = .ok (.aload_n 0, 1) := by decide +kernel
theorem dL_law_1518 : decode cL_law 1518 = .ok (.iload_n 3, 1) := by decide +kernel
theorem dL_law_1519 : decode cL_law 1519 = .ok (.iconst 2, 1) := by decide +kernel
theorem dL_law_1520 : decode cL_law 1520 = .ok (.iadd, 1) := by decide +kernel
theorem dL_law_1521 : decode cL_law 1521 = .ok (.iaload, 1) := by decide +kernel
theorem dL_law_1522 : decode cL_law 1522 = .ok (.aload_n 0, 1) := by decide +kernel
theorem dL_law_1523 : decode cL_law 1523 = .ok (.iload_n 3, 1) := by decide +kernel
theorem dL_law_1524 : decode cL_law 1524 = .ok (.iconst 3, 1) := by decide +kernel
theorem dL_law_1525 : decode cL_law 1525 = .ok (.iadd, 1) := by decide +kernel
theorem dL_law_1526 : decode cL_law 1526 = .ok (.iaload, 1) := by decide +kernel
theorem dL_law_1527 : decode cL_law 1527 = .ok (.invokevirtual 131, 3) := by decide +kernel
theorem dL_law_1530 : decode cL_law 1530 = .ok (.if_icmp .eq 738, 3) := by decide +kernel
theorem dL_law_1535 : decode cL_law 1535 = .ok (.aload_n 1, 1) := by decide +kernel
theorem dL_law_1536 : decode cL_law 1536 = .ok (.aload_n 0, 1) := by decide +kernel
theorem dL_law_1537 : decode cL_law 1537 = .ok (.iload_n 3, 1) := by decide +kernel
theorem dL_law_1538 : decode cL_law 1538 = .ok (.iconst 1, 1) := by decide +kernel
theorem dL_law_1539 : decode cL_law 1539 = .ok (.iadd, 1) := by decide +kernel
theorem dL_law_1540 : decode cL_law 1540 = .ok (.iaload, 1) := by decide +kernel
theorem dL_law_1541 : decode cL_law 1541 = .ok (.aload_n 0, 1) := by decide +kernel
theorem dL_law_1542 : decode cL_law 1542 = .ok (.iload_n 3, 1) := by decide +kernel
theorem dL_law_1543 : decode cL_law 1543 = .ok (.iconst 2, 1) := by decide +kernel
theorem dL_law_1544 : decode cL_law 1544 = .ok (.iadd, 1) := by decide +kernel
theorem dL_law_1545 : decode cL_law 1545 = .ok (.iaload, 1) := by decide +kernel
theorem dL_law_1546 : decode cL_law 1546 = .ok (.invokevirtual 132, 3) := by decide +kernel
theorem dL_law_1549 : decode cL_law 1549 = .ok (.aload_n 2, 1) := by decide +kernel
theorem dL_law_1550 : decode cL_law 1550 = .ok (.aload_n 0, 1) := by decide +kernel
theorem dL_law_1551 : decode cL_law 1551 = .ok (.iload_n 3, 1) := by decide +kernel
theorem dL_law_1552 : decode cL_law 1552 = .ok (.iconst 1, 1) := by decide +kernel
theorem dL_law_1553 : decode cL_law 1553 = .ok (.iadd, 1) := by decide +kernel
theorem dL_law_1554 : decode cL_law 1554 = .ok (.iaload, 1) := by decide +kernel
theorem dL_law_1555 : decode cL_law 1555 = .ok (.aload_n 0, 1) := by decide +kernel
theorem dL_law_1556 : decode cL_law 1556 = .ok (.iload_n 3, 1) := by decide +kernel
theorem dL_law_1557 : decode cL_law 1557 = .ok (.iconst 2, 1) := by decide +kernel
theorem dL_law_1558 : decode cL_law 1558 = .ok (.iadd, 1) := by decide +kernel
theorem dL_law_1559 : decode cL_law 1559 = .ok (.iaload, 1) := by decide +kernel
theorem dL_law_1560 : decode cL_law 1560 = .ok (.invokevirtual 135, 3) := by decide +kernel
theorem dL_law_1563 : decode cL_law 1563 = .ok (.if_icmp .eq 705, 3) := by decide +kernel
theorem dL_law_1568 : decode cL_law 1568 = .ok (.aload_n 1, 1) := by decide +kernel
theorem dL_law_1569 : decode cL_law 1569 = .ok (.aload_n 0, 1) := by decide +kernel
theorem dL_law_1570 : decode cL_law 1570 = .ok (.iload_n 3, 1) := by decide +kernel
theorem dL_law_1571 : decode cL_law 1571 = .ok (.iconst 1, 1) := by decide +kernel
theorem dL_law_1572 : decode cL_law 1572 = .ok (.iadd, 1) := by decide +kernel
theorem dL_law_1573 : decode cL_law 1573 = .ok (.iaload, 1) := by decide +kernel
theorem dL_law_1574 : decode cL_law 1574 = .ok (.aload_n 0, 1) := by decide +kernel
theorem dL_law_1575 : decode cL_law 1575 = .ok (.iload_n 3, 1) := by decide +kernel
theorem dL_law_1576 : decode cL_law 1576 = .ok (.iconst 2, 1) := by decide +kernel
theorem dL_law_1577 : decode cL_law 1577 = .ok (.iadd, 1) := by decide +kernel
theorem dL_law_1578 : decode cL_law 1578 = .ok (.iaload, 1) := by decide +kernel
theorem dL_law_1579 : decode cL_law 1579 = .ok (.invokevirtual 136, 3) := by decide +kernel
theorem dL_law_1582 : decode cL_law 1582 = .ok (.aload_n 2, 1) := by decide +kernel
theorem dL_law_1583 : decode cL_law 1583 = .ok (.aload_n 0, 1) := by decide +kernel
theorem dL_law_1584 : decode cL_law 1584 = .ok (.iload_n 3, 1) := by decide +kernel
theorem dL_law_1585 : decode cL_law 1585 = .ok (.iconst 1, 1) := by decide +kernel
theorem dL_law_1586 : decode cL_law 1586 = .ok (.iadd, 1) := by decide +kernel
theorem dL_law_1587 : decode cL_law 1587 = .ok (.iaload, 1) := by decide +kernel
theorem dL_law_1588 : decode cL_law 1588 = .ok (.aload_n 0, 1) := by decide +kernel
theorem dL_law_1589 : decode cL_law 1589 = .ok (.iload_n 3, 1) := by decide +kernel
theorem dL_law_1590 : decode cL_law 1590 = .ok (.iconst 2, 1) := by decide +kernel
theorem dL_law_1591 : decode cL_law 1591 = .ok (.iadd, 1) := by decide +kernel
theorem dL_law_1592 : decode cL_law 1592 = .ok (.iaload, 1) := by decide +kernel
theorem dL_law_1593 : decode cL_law 1593 = .ok (.invokevirtual 139, 3) := by decide +kernel
theorem dL_law_1596 : decode cL_law 1596 = .ok (.if_icmp .eq 672, 3) := by decide +kernel
theorem dL_law_1601 : decode cL_law 1601 = .ok (.aload_n 1, 1) := by decide +kernel
theorem dL_law_1602 : decode cL_law 1602 = .ok (.aload_n 0, 1) := by decide +kernel
theorem dL_law_1603 : decode cL_law 1603 = .ok (.iload_n 3, 1) := by decide +kernel
theorem dL_law_1604 : decode cL_law 1604 = .ok (.iconst 1, 1) := by decide +kernel
theorem dL_law_1605 : decode cL_law 1605 = .ok (.iadd, 1) := by decide +kernel
theorem dL_law_1606 : decode cL_law 1606 = .ok (.iaload, 1) := by decide +kernel
theorem dL_law_1607 : decode cL_law 1607 = .ok (.aload_n 0, 1) := by decide +kernel
theorem dL_law_1608 : decode cL_law 1608 = .ok (.iload_n 3, 1) := by decide +kernel
theorem dL_law_1609 : decode cL_law 1609 = .ok (.iconst 2, 1) := by decide +kernel
theorem dL_law_1610 : decode cL_law 1610 = .ok (.iadd, 1) := by decide +kernel
theorem dL_law_1611 : decode cL_law 1611 = .ok (.iaload, 1) := by decide +kernel
theorem dL_law_1612 : decode cL_law 1612 = .ok (.invokevirtual 140, 3) := by decide +kernel
theorem dL_law_1615 : decode cL_law 1615 = .ok (.aload_n 2, 1) := by decide +kernel
theorem dL_law_1616 : decode cL_law 1616 = .ok (.aload_n 0, 1) := by decide +kernel
theorem dL_law_1617 : decode cL_law 1617 = .ok (.iload_n 3, 1) := by decide +kernel
theorem dL_law_1618 : decode cL_law 1618 = .ok (.iconst 1, 1) := by decide +kernel
theorem dL_law_1619 : decode cL_law 1619 = .ok (.iadd, 1) := by decide +kernel
theorem dL_law_1620 : decode cL_law 1620 = .ok (.iaload, 1) := by decide +kernel
theorem dL_law_1621 : decode cL_law 1621 = .ok (.aload_n 0, 1) := by decide +kernel
theorem dL_law_1622 : decode cL_law 1622 = .ok (.iload_n 3, 1) := by decide +kernel
theorem dL_law_1623 : decode cL_law 1623 = .ok (.iconst 2, 1) := by decide +kernel
theorem dL_law_1624 : decode cL_law 1624 = .ok (.iadd, 1) := by decide +kernel
theorem dL_law_1625 : decode cL_law 1625 = .ok (.iaload, 1) := by decide +kernel
theorem dL_law_1626 : decode cL_law 1626 = .ok (.invokevirtual 143, 3) := by decide +kernel
theorem dL_law_1629 : decode cL_law 1629 = .ok (.if_icmp .eq 639, 3) := by decide +kernel
theorem dL_law_1634 : decode cL_law 1634 = .ok (.aload_n 1, 1) := by decide +kernel
theorem dL_law_1635 : decode cL_law 1635 = .ok (.aload_n 0, 1) := by decide +kernel
theorem dL_law_1636 : decode cL_law 1636 = .ok (.iload_n 3, 1) := by decide +kernel
theorem dL_law_1637 : decode cL_law 1637 = .ok (.iconst 1, 1) := by decide +kernel
theorem dL_law_1638 : decode cL_law 1638 = .ok (.iadd, 1) := by decide +kernel
theorem dL_law_1639 : decode cL_law 1639 = .ok (.iaload, 1) := by decide +kernel
theorem dL_law_1640 : decode cL_law 1640 = .ok (.aload_n 0, 1) := by decide +kernel
theorem dL_law_1641 : decode cL_law 1641 = .ok (.iload_n 3, 1) := by decide +kernel
theorem dL_law_1642 : decode cL_law 1642 = .ok (.iconst 2, 1) := by decide +kernel
theorem dL_law_1643 : decode cL_law 1643 = .ok (.iadd, 1) := by decide +kernel
theorem dL_law_1644 : decode cL_law 1644 = .ok (.iaload, 1) := by decide +kernel
theorem dL_law_1645 : decode cL_law 1645 = .ok (.aload_n 0, 1) := by decide +kernel
theorem dL_law_1646 : decode cL_law 1646 = .ok (.iload_n 3, 1) := by decide +kernel
theorem dL_law_1647 : decode cL_law 1647 = .ok (.iconst 3, 1) := by decide +kernel
theorem dL_law_1648 : decode cL_law 1648 = .ok (.iadd, 1) := by decide +kernel
theorem dL_law_1649 : decode cL_law 1649 = .ok (.iaload, 1) := by decide +kernel
theorem dL_law_1650 : decode cL_law 1650 = .ok (.aload_n 0, 1) := by decide +kernel
theorem dL_law_1651 : decode cL_law 1651 = .ok (.iload_n 3, 1) := by decide +kernel
theorem dL_law_1652 : decode cL_law 1652 = .ok (.iconst 4, 1) := by decide +kernel
theorem dL_law_1653 : decode cL_law 1653 = .ok (.iadd, 1) := by decide +kernel
theorem dL_law_1654 : decode cL_law 1654 = .ok (.iaload, 1) := by decide +kernel
theorem dL_law_1655 : decode cL_law 1655 = .ok (.ifCond .eq 7, 3) := by decide +kernel
theorem dL_law_1658 : decode cL_law 1658 = .ok (.iconst 1, 1) := by decide +kernel
theorem dL_law_1659 : decode cL_law 1659 = .ok (.goto 4, 3) := by decide +kernel
theorem dL_law_1662 : decode cL_law 1662 = .ok (.iconst 0, 1) := by decide +kernel
theorem dL_law_1663 : decode cL_law 1663 = .ok (.invokevirtual 144, 3) := by decide +kernel
theorem dL_law_1666 : decode cL_law 1666 = .ok (.aload_n 2, 1) := by decide +kernel
theorem dL_law_1667 : decode cL_law 1667 = .ok (.aload_n 0, 1) := by decide +kernel
theorem dL_law_1668 : decode cL_law 1668 = .ok (.iload_n 3, 1) := by decide +kernel
theorem dL_law_1669 : decode cL_law 1669 = .ok (.iconst 1, 1) := by decide +kernel
theorem dL_law_1670 : decode cL_law 1670 = .ok (.iadd, 1) := by decide +kernel
theorem dL_law_1671 : decode cL_law 1671 = .ok (.iaload, 1) := by decide +kernel
theorem dL_law_1672 : decode cL_law 1672 = .ok (.aload_n 0, 1) := by decide +kernel
theorem dL_law_1673 : decode cL_law 1673 = .ok (.iload_n 3, 1) := by decide +kernel
theorem dL_law_1674 : decode cL_law 1674 = .ok (.iconst 2, 1) := by decide +kernel
theorem dL_law_1675 : decode cL_law 1675 = .ok (.iadd, 1) := by decide +kernel
theorem dL_law_1676 : decode cL_law 1676 = .ok (.iaload, 1) := by decide +kernel
theorem dL_law_1677 : decode cL_law 1677 = .ok (.aload_n 0, 1) := by decide +kernel
theorem dL_law_1678 : decode cL_law 1678 = .ok (.iload_n 3, 1) := by decide +kernel
theorem dL_law_1679 : decode cL_law 1679 = .ok (.iconst 3, 1) := by decide +kernel
theorem dL_law_1680 : decode cL_law 1680 = .ok (.iadd, 1) := by decide +kernel
theorem dL_law_1681 : decode cL_law 1681 = .ok (.iaload, 1) := by decide +kernel
theorem dL_law_1682 : decode cL_law 1682 = .ok (.aload_n 0, 1) := by decide +kernel
theorem dL_law_1683 : decode cL_law 1683 = .ok (.iload_n 3, 1) := by decide +kernel
theorem dL_law_1684 : decode cL_law 1684 = .ok (.iconst 4, 1) := by decide +kernel
theorem dL_law_1685 : decode cL_law 1685 = .ok (.iadd, 1) := by decide +kernel
theorem dL_law_1686 : decode cL_law 1686 = .ok (.iaload, 1) := by decide +kernel
theorem dL_law_1687 : decode cL_law 1687 = .ok (.ifCond .eq 7, 3) := by decide +kernel
theorem dL_law_1690 : decode cL_law 1690 = .ok (.iconst 1, 1) := by decide +kernel
theorem dL_law_1691 : decode cL_law 1691 = .ok (.goto 4, 3) := by decide +kernel
theorem dL_law_1694 : decode cL_law 1694 = .ok (.iconst 0, 1) := by decide +kernel
theorem dL_law_1695 : decode cL_law 1695 = .ok (.invokevirtual 147, 3) := by decide +kernel
theorem dL_law_1698 : decode cL_law 1698 = .ok (.if_icmp .eq 570, 3) := by decide +kernel
theorem dL_law_1703 : decode cL_law 1703 = .ok (.aload_n 1, 1) := by decide +kernel
theorem dL_law_1704 : decode cL_law 1704 = .ok (.aload_n 0, 1) := by decide +kernel
theorem dL_law_1705 : decode cL_law 1705 = .ok (.iload_n 3, 1) := by decide +kernel
theorem dL_law_1706 : decode cL_law 1706 = .ok (.iconst 1, 1) := by decide +kernel
theorem dL_law_1707 : decode cL_law 1707 = .ok (.iadd, 1) := by decide +kernel
theorem dL_law_1708 : decode cL_law 1708 = .ok (.iaload, 1) := by decide +kernel
theorem dL_law_1709 : decode cL_law 1709 = .ok (.aload_n 0, 1) := by decide +kernel
theorem dL_law_1710 : decode cL_law 1710 = .ok (.iload_n 3, 1) := by decide +kernel
theorem dL_law_1711 : decode cL_law 1711 = .ok (.iconst 2, 1) := by decide +kernel
theorem dL_law_1712 : decode cL_law 1712 = .ok (.iadd, 1) := by decide +kernel
theorem dL_law_1713 : decode cL_law 1713 = .ok (.iaload, 1) := by decide +kernel
theorem dL_law_1714 : decode cL_law 1714 = .ok (.aload_n 0, 1) := by decide +kernel
theorem dL_law_1715 : decode cL_law 1715 = .ok (.iload_n 3, 1) := by decide +kernel
theorem dL_law_1716 : decode cL_law 1716 = .ok (.iconst 3, 1) := by decide +kernel
theorem dL_law_1717 : decode cL_law 1717 = .ok (.iadd, 1) := by decide +kernel
theorem dL_law_1718 : decode cL_law 1718 = .ok (.iaload, 1) := by decide +kernel
theorem dL_law_1719 : decode cL_law 1719 = .ok (.invokevirtual 148, 3) := by decide +kernel
theorem dL_law_1722 : decode cL_law 1722 = .ok (.aload_n 2, 1) := by decide +kernel
theorem dL_law_1723 : decode cL_law 1723 = .ok (.aload_n 0, 1) := by decide +kernel
theorem dL_law_1724 : decode cL_law 1724 = .ok (.iload_n 3, 1) := by decide +kernel
theorem dL_law_1725 : decode cL_law 1725 = .ok (.iconst 1, 1) := by decide +kernel
theorem dL_law_1726 : decode cL_law 1726 = .ok (.iadd, 1) := by decide +kernel
theorem dL_law_1727 : decode cL_law 1727 = .ok (.iaload, 1) := by decide +kernel
theorem dL_law_1728 : decode cL_law 1728 = .ok (.aload_n 0, 1) := by decide +kernel
theorem dL_law_1729 : decode cL_law 1729 = .ok (.iload_n 3, 1) := by decide +kernel
theorem dL_law_1730 : decode cL_law 1730 = .ok (.iconst 2, 1) := by decide +kernel
theorem dL_law_1731 : decode cL_law 1731 = .ok (.iadd, 1) := by decide +kernel
theorem dL_law_1732 : decode cL_law 1732 = .ok (.iaload, 1) := by decide +kernel
theorem dL_law_1733 : decode cL_law 1733 = .ok (.aload_n 0, 1) := by decide +kernel
theorem dL_law_1734 : decode cL_law 1734 = .ok (.iload_n 3, 1) := by decide +kernel
theorem dL_law_1735 : decode cL_law 1735 = .ok (.iconst 3, 1) := by decide +kernel
theorem dL_law_1736 : decode cL_law 1736 = .ok (.iadd, 1) := by decide +kernel
theorem dL_law_1737 : decode cL_law 1737 = .ok (.iaload, 1) := by decide +kernel
theorem dL_law_1738 : decode cL_law 1738 = .ok (.invokevirtual 151, 3) := by decide +kernel
theorem dL_law_1741 : decode cL_law 1741 = .ok (.if_icmp .eq 527, 3) := by decide +kernel
theorem dL_law_1746 : decode cL_law 1746 = .ok (.aload_n 1, 1) := by decide +kernel
theorem dL_law_1747 : decode cL_law 1747 = .ok (.aload_n 0, 1) := by decide +kernel
theorem dL_law_1748 : decode cL_law 1748 = .ok (.iload_n 3, 1) := by decide +kernel
theorem dL_law_1749 : decode cL_law 1749 = .ok (.iconst 1, 1) := by decide +kernel
theorem dL_law_1750 : decode cL_law 1750 = .ok (.iadd, 1) := by decide +kernel
theorem dL_law_1751 : decode cL_law 1751 = .ok (.iaload, 1) := by decide +kernel
theorem dL_law_1752 : decode cL_law 1752 = .ok (.aload_n 0, 1) := by decide +kernel
theorem dL_law_1753 : decode cL_law 1753 = .ok (.iload_n 3, 1) := by decide +kernel
theorem dL_law_1754 : decode cL_law 1754 = .ok (.iconst 2, 1) := by decide +kernel
theorem dL_law_1755 : decode cL_law 1755 = .ok (.iadd, 1) := by decide +kernel
theorem dL_law_1756 : decode cL_law 1756 = .ok (.iaload, 1) := by decide +kernel
theorem dL_law_1757 : decode cL_law 1757 = .ok (.aload_n 0, 1) := by decide +kernel
theorem dL_law_1758 : decode cL_law 1758 = .ok (.iload_n 3, 1) := by decide +kernel
theorem dL_law_1759 : decode cL_law 1759 = .ok (.iconst 3, 1) := by decide +kernel
theorem dL_law_1760 : decode cL_law 1760 = .ok (.iadd, 1) := by decide +kernel
theorem dL_law_1761 : decode cL_law 1761 = .ok (.iaload, 1) := by decide +kernel
theorem dL_law_1762 : decode cL_law 1762 = .ok (.aload_n 0, 1) := by decide +kernel
theorem dL_law_1763 : decode cL_law 1763 = .ok (.iload_n 3, 1) := by decide +kernel
theorem dL_law_1764 : decode cL_law 1764 = .ok (.iconst 4, 1) := by decide +kernel
theorem dL_law_1765 : decode cL_law 1765 = .ok (.iadd, 1) := by decide +kernel
theorem dL_law_1766 : decode cL_law 1766 = .ok (.iaload, 1) := by decide +kernel
theorem dL_law_1767 : decode cL_law 1767 = .ok (.invokevirtual 152, 3) := by decide +kernel
theorem dL_law_1770 : decode cL_law 1770 = .ok (.aload_n 2, 1) := by decide +kernel
theorem dL_law_1771 : decode cL_law 1771 = .ok (.aload_n 0, 1) := by decide +kernel
theorem dL_law_1772 : decode cL_law 1772 = .ok (.iload_n 3, 1) := by decide +kernel
theorem dL_law_1773 : decode cL_law 1773 = .ok (.iconst 1, 1) := by decide +kernel
theorem dL_law_1774 : decode cL_law 1774 = .ok (.iadd, 1) := by decide +kernel
theorem dL_law_1775 : decode cL_law 1775 = .ok (.iaload, 1) := by decide +kernel
theorem dL_law_1776 : decode cL_law 1776 = .ok (.aload_n 0, 1) := by decide +kernel
theorem dL_law_1777 : decode cL_law 1777 = .ok (.iload_n 3, 1) := by decide +kernel
theorem dL_law_1778 : decode cL_law 1778 = .ok (.iconst 2, 1) := by decide +kernel
theorem dL_law_1779 : decode cL_law 1779 = .ok (.iadd, 1) := by decide +kernel
theorem dL_law_1780 : decode cL_law 1780 = .ok (.iaload, 1) := by decide +kernel
theorem dL_law_1781 : decode cL_law 1781 = .ok (.aload_n 0, 1) := by decide +kernel
theorem dL_law_1782 : decode cL_law 1782 = .ok (.iload_n 3, 1) := by decide +kernel
theorem dL_law_1783 : decode cL_law 1783 = .ok (.iconst 3, 1) := by decide +kernel
theorem dL_law_1784 : decode cL_law 1784 = .ok (.iadd, 1) := by decide +kernel
theorem dL_law_1785 : decode cL_law 1785 = .ok (.iaload, 1) := by decide +kernel
theorem dL_law_1786 : decode cL_law 1786 = .ok (.aload_n 0, 1) := by decide +kernel
theorem dL_law_1787 : decode cL_law 1787 = .ok (.iload_n 3, 1) := by decide +kernel
theorem dL_law_1788 : decode cL_law 1788 = .ok (.iconst 4, 1) := by decide +kernel
theorem dL_law_1789 : decode cL_law 1789 = .ok (.iadd, 1) := by decide +kernel
theorem dL_law_1790 : decode cL_law 1790 = .ok (.iaload, 1) := by decide +kernel
theorem dL_law_1791 : decode cL_law 1791 = .ok (.invokevirtual 155, 3) := by decide +kernel
theorem dL_law_1794 : decode cL_law 1794 = .ok (.lcmp, 1) := by decide +kernel
theorem dL_law_1795 : decode cL_law 1795 = .ok (.ifCond .eq 473, 3) := by decide +kernel
theorem dL_law_1800 : decode cL_law 1800 = .ok (.aload_n 1, 1) := by decide +kernel
theorem dL_law_1801 : decode cL_law 1801 = .ok (.aload_n 0, 1) := by decide +kernel
theorem dL_law_1802 : decode cL_law 1802 = .ok (.iload_n 3, 1) := by decide +kernel
theorem dL_law_1803 : decode cL_law 1803 = .ok (.iconst 1, 1) := by decide +kernel
theorem dL_law_1804 : decode cL_law 1804 = .ok (.iadd, 1) := by decide +kernel
theorem dL_law_1805 : decode cL_law 1805 = .ok (.iaload, 1) := by decide +kernel
theorem dL_law_1806 : decode cL_law 1806 = .ok (.aload_n 0, 1) := by decide +kernel
theorem dL_law_1807 : decode cL_law 1807 = .ok (.iload_n 3, 1) := by decide +kernel
theorem dL_law_1808 : decode cL_law 1808 = .ok (.iconst 2, 1) := by decide +kernel
theorem dL_law_1809 : decode cL_law 1809 = .ok (.iadd, 1) := by decide +kernel
theorem dL_law_1810 : decode cL_law 1810 = .ok (.iaload, 1) := by decide +kernel
theorem dL_law_1811 : decode cL_law 1811 = .ok (.aload_n 0, 1) := by decide +kernel
theorem dL_law_1812 : decode cL_law 1812 = .ok (.iload_n 3, 1) := by decide +kernel
theorem dL_law_1813 : decode cL_law 1813 = .ok (.iconst 3, 1) := by decide +kernel
theorem dL_law_1814 : decode cL_law 1814 = .ok (.iadd, 1) := by decide +kernel
theorem dL_law_1815 : decode cL_law 1815 = .ok (.iaload, 1) := by decide +kernel
theorem dL_law_1816 : decode cL_law 1816 = .ok (.aload_n 0, 1) := by decide +kernel
theorem dL_law_1817 : decode cL_law 1817 = .ok (.iload_n 3, 1) := by decide +kernel
theorem dL_law_1818 : decode cL_law 1818 = .ok (.iconst 4, 1) := by decide +kernel
theorem dL_law_1819 : decode cL_law 1819 = .ok (.iadd, 1) := by decide +kernel
theorem dL_law_1820 : decode cL_law 1820 = .ok (.iaload, 1) := by decide +kernel
theorem dL_law_1821 : decode cL_law 1821 = .ok (.aload_n 0, 1) := by decide +kernel
theorem dL_law_1822 : decode cL_law 1822 = .ok (.iload_n 3, 1) := by decide +kernel
theorem dL_law_1823 : decode cL_law 1823 = .ok (.iconst 5, 1) := by decide +kernel
theorem dL_law_1824 : decode cL_law 1824 = .ok (.iadd, 1) := by decide +kernel
theorem dL_law_1825 : decode cL_law 1825 = .ok (.iaload, 1) := by decide +kernel
theorem dL_law_1826 : decode cL_law 1826 = .ok (.ifCond .eq 7, 3) := by decide +kernel
theorem dL_law_1829 : decode cL_law 1829 = .ok (.iconst 1, 1) := by decide +kernel
theorem dL_law_1830 : decode cL_law 1830 = .ok (.goto 4, 3) := by decide +kernel
theorem dL_law_1833 : decode cL_law 1833 = .ok (.iconst 0, 1) := by decide +kernel
theorem dL_law_1834 : decode cL_law 1834 = .ok (.invokevirtual 156, 3) := by decide +kernel
theorem dL_law_1837 : decode cL_law 1837 = .ok (.aload_n 2, 1) := by decide +kernel
theorem dL_law_1838 : decode cL_law 1838 = .ok (.aload_n 0, 1) := by decide +kernel
theorem dL_law_1839 : decode cL_law 1839 = .ok (.iload_n 3, 1) := by decide +kernel
theorem dL_law_1840 : decode cL_law 1840 = .ok (.iconst 1, 1) := by decide +kernel
theorem dL_law_1841 : decode cL_law 1841 = .ok (.iadd, 1) := by decide +kernel
theorem dL_law_1842 : decode cL_law 1842 = .ok (.iaload, 1) := by decide +kernel
theorem dL_law_1843 : decode cL_law 1843 = .ok (.aload_n 0, 1) := by decide +kernel
theorem dL_law_1844 : decode cL_law 1844 = .ok (.iload_n 3, 1) := by decide +kernel
theorem dL_law_1845 : decode cL_law 1845 = .ok (.iconst 2, 1) := by decide +kernel
theorem dL_law_1846 : decode cL_law 1846 = .ok (.iadd, 1) := by decide +kernel
theorem dL_law_1847 : decode cL_law 1847 = .ok (.iaload, 1) := by decide +kernel
theorem dL_law_1848 : decode cL_law 1848 = .ok (.aload_n 0, 1) := by decide +kernel
theorem dL_law_1849 : decode cL_law 1849 = .ok (.iload_n 3, 1) := by decide +kernel
theorem dL_law_1850 : decode cL_law 1850 = .ok (.iconst 3, 1) := by decide +kernel
theorem dL_law_1851 : decode cL_law 1851 = .ok (.iadd, 1) := by decide +kernel
theorem dL_law_1852 : decode cL_law 1852 = .ok (.iaload, 1) := by decide +kernel
theorem dL_law_1853 : decode cL_law 1853 = .ok (.aload_n 0, 1) := by decide +kernel
theorem dL_law_1854 : decode cL_law 1854 = .ok (.iload_n 3, 1) := by decide +kernel
theorem dL_law_1855 : decode cL_law 1855 = .ok (.iconst 4, 1) := by decide +kernel
theorem dL_law_1856 : decode cL_law 1856 = .ok (.iadd, 1) := by decide +kernel
theorem dL_law_1857 : decode cL_law 1857 = .ok (.iaload, 1) := by decide +kernel
theorem dL_law_1858 : decode cL_law 1858 = .ok (.aload_n 0, 1) := by decide +kernel
theorem dL_law_1859 : decode cL_law 1859 = .ok (.iload_n 3, 1) := by decide +kernel
theorem dL_law_1860 : decode cL_law 1860 = .ok (.iconst 5, 1) := by decide +kernel
theorem dL_law_1861 : decode cL_law 1861 = .ok (.iadd, 1) := by decide +kernel
theorem dL_law_1862 : decode cL_law 1862 = .ok (.iaload, 1) := by decide +kernel
theorem dL_law_1863 : decode cL_law 1863 = .ok (.ifCond .eq 7, 3) := by decide +kernel
theorem dL_law_1866 : decode cL_law 1866 = .ok (.iconst 1, 1) := by decide +kernel
theorem dL_law_1867 : decode cL_law 1867 = .ok (.goto 4, 3) := by decide +kernel
theorem dL_law_1870 : decode cL_law 1870 = .ok (.iconst 0, 1) := by decide +kernel
theorem dL_law_1871 : decode cL_law 1871 = .ok (.invokevirtual 160, 3) := by decide +kernel
theorem dL_law_1874 : decode cL_law 1874 = .ok (.lcmp, 1) := by decide +kernel
theorem dL_law_1875 : decode cL_law 1875 = .ok (.ifCond .eq 393, 3) := by decide +kernel
theorem dL_law_1880 : decode cL_law 1880 = .ok (.aload_n 1, 1) := by decide +kernel
theorem dL_law_1881 : decode cL_law 1881 = .ok (.aload_n 0, 1) := by decide +kernel
theorem dL_law_1882 : decode cL_law 1882 = .ok (.iload_n 3, 1) := by decide +kernel
theorem dL_law_1883 : decode cL_law 1883 = .ok (.iconst 1, 1) := by decide +kernel
theorem dL_law_1884 : decode cL_law 1884 = .ok (.iadd, 1) := by decide +kernel
theorem dL_law_1885 : decode cL_law 1885 = .ok (.iaload, 1) := by decide +kernel
theorem dL_law_1886 : decode cL_law 1886 = .ok (.aload_n 0, 1) := by decide +kernel
theorem dL_law_1887 : decode cL_law 1887 = .ok (.iload_n 3, 1) := by decide +kernel
theorem dL_law_1888 : decode cL_law 1888 = .ok (.iconst 2, 1) := by decide +kernel
theorem dL_law_1889 : decode cL_law 1889 = .ok (.iadd, 1) := by decide +kernel
theorem dL_law_1890 : decode cL_law 1890 = .ok (.iaload, 1) := by decide +kernel
theorem dL_law_1891 : decode cL_law 1891 = .ok (.aload_n 0, 1) := by decide +kernel
theorem dL_law_1892 : decode cL_law 1892 = .ok (.iload_n 3, 1) := by decide +kernel
theorem dL_law_1893 : decode cL_law 1893 = .ok (.iconst 3, 1) := by decide +kernel
theorem dL_law_1894 : decode cL_law 1894 = .ok (.iadd, 1) := by decide +kernel
theorem dL_law_1895 : decode cL_law 1895 = .ok (.iaload, 1) := by decide +kernel
theorem dL_law_1896 : decode cL_law 1896 = .ok (.invokevirtual 161, 3) := by decide +kernel
theorem dL_law_1899 : decode cL_law 1899 = .ok (.aload_n 2, 1) := by decide +kernel
theorem dL_law_1900 : decode cL_law 1900 = .ok (.aload_n 0, 1) := by decide +kernel
theorem dL_law_1901 : decode cL_law 1901 = .ok (.iload_n 3, 1) := by decide +kernel
theorem dL_law_1902 : decode cL_law 1902 = .ok (.iconst 1, 1) := by decide +kernel
theorem dL_law_1903 : decode cL_law 1903 = .ok (.iadd, 1) := by decide +kernel
theorem dL_law_1904 : decode cL_law 1904 = .ok (.iaload, 1) := by decide +kernel
theorem dL_law_1905 : decode cL_law 1905 = .ok (.aload_n 0, 1) := by decide +kernel
theorem dL_law_1906 : decode cL_law 1906 = .ok (.iload_n 3, 1) := by decide +kernel
theorem dL_law_1907 : decode cL_law 1907 = .ok (.iconst 2, 1) := by decide +kernel
theorem dL_law_1908 : decode cL_law 1908 = .ok (.iadd, 1) := by decide +kernel
theorem dL_law_1909 : decode cL_law 1909 = .ok (.iaload, 1) := by decide +kernel
theorem dL_law_1910 : decode cL_law 1910 = .ok (.aload_n 0, 1) := by decide +kernel
theorem dL_law_1911 : decode cL_law 1911 = .ok (.iload_n 3, 1) := by decide +kernel
theorem dL_law_1912 : decode cL_law 1912 = .ok (.iconst 3, 1) := by decide +kernel
theorem dL_law_1913 : decode cL_law 1913 = .ok (.iadd, 1) := by decide +kernel
theorem dL_law_1914 : decode cL_law 1914 = .ok (.iaload, 1) := by decide +kernel
theorem dL_law_1915 : decode cL_law 1915 = .ok (.invokevirtual 164, 3) := by decide +kernel
theorem dL_law_1918 : decode cL_law 1918 = .ok (.lcmp, 1) := by decide +kernel
theorem dL_law_1919 : decode cL_law 1919 = .ok (.ifCond .eq 349, 3) := by decide +kernel
theorem dL_law_1924 : decode cL_law 1924 = .ok (.aload_n 1, 1) := by decide +kernel
theorem dL_law_1925 : decode cL_law 1925 = .ok (.aload_n 0, 1) := by decide +kernel
theorem dL_law_1926 : decode cL_law 1926 = .ok (.iload_n 3, 1) := by decide +kernel
theorem dL_law_1927 : decode cL_law 1927 = .ok (.iconst 1, 1) := by decide +kernel
theorem dL_law_1928 : decode cL_law 1928 = .ok (.iadd, 1) := by decide +kernel
theorem dL_law_1929 : decode cL_law 1929 = .ok (.iaload, 1) := by decide +kernel
theorem dL_law_1930 : decode cL_law 1930 = .ok (.aload_n 0, 1) := by decide +kernel
theorem dL_law_1931 : decode cL_law 1931 = .ok (.iload_n 3, 1) := by decide +kernel
theorem dL_law_1932 : decode cL_law 1932 = .ok (.iconst 2, 1) := by decide +kernel
theorem dL_law_1933 : decode cL_law 1933 = .ok (.iadd, 1) := by decide +kernel
theorem dL_law_1934 : decode cL_law 1934 = .ok (.iaload, 1) := by decide +kernel
theorem dL_law_1935 : decode cL_law 1935 = .ok (.invokevirtual 165, 3) := by decide +kernel
theorem dL_law_1938 : decode cL_law 1938 = .ok (.aload_n 2, 1) := by decide +kernel
theorem dL_law_1939 : decode cL_law 1939 = .ok (.aload_n 0, 1) := by decide +kernel
theorem dL_law_1940 : decode cL_law 1940 = .ok (.iload_n 3, 1) := by decide +kernel
theorem dL_law_1941 : decode cL_law 1941 = .ok (.iconst 1, 1) := by decide +kernel
theorem dL_law_1942 : decode cL_law 1942 = .ok (.iadd, 1) := by decide +kernel
theorem dL_law_1943 : decode cL_law 1943 = .ok (.iaload, 1) := by decide +kernel
theorem dL_law_1944 : decode cL_law 1944 = .ok (.aload_n 0, 1) := by decide +kernel
theorem dL_law_1945 : decode cL_law 1945 = .ok (.iload_n 3, 1) := by decide +kernel
theorem dL_law_1946 : decode cL_law 1946 = .ok (.iconst 2, 1) := by decide +kernel
theorem dL_law_1947 : decode cL_law 1947 = .ok (.iadd, 1) := by decide +kernel
theorem dL_law_1948 : decode cL_law 1948 = .ok (.iaload, 1) := by decide +kernel
theorem dL_law_1949 : decode cL_law 1949 = .ok (.invokevirtual 168, 3) := by decide +kernel
theorem dL_law_1952 : decode cL_law 1952 = .ok (.if_icmp .eq 316, 3) := by decide +kernel
theorem dL_law_1957 : decode cL_law 1957 = .ok (.aload_n 1, 1) := by decide +kernel
theorem dL_law_1958 : decode cL_law 1958 = .ok (.aload_n 0, 1) := by decide +kernel
theorem dL_law_1959 : decode cL_law 1959 = .ok (.iload_n 3, 1) := by decide +kernel
theorem dL_law_1960 : decode cL_law 1960 = .ok (.iconst 1, 1) := by decide +kernel
theorem dL_law_1961 : decode cL_law 1961 = .ok (.iadd, 1) := by decide +kernel
theorem dL_law_1962 : decode cL_law 1962 = .ok (.iaload, 1) := by decide +kernel
theorem dL_law_1963 : decode cL_law 1963 = .ok (.aload_n 0, 1) := by decide +kernel
theorem dL_law_1964 : decode cL_law 1964 = .ok (.iload_n 3, 1) := by decide +kernel
theorem dL_law_1965 : decode cL_law 1965 = .ok (.iconst 2, 1) := by decide +kernel
theorem dL_law_1966 : decode cL_law 1966 = .ok (.iadd, 1) := by decide +kernel
theorem dL_law_1967 : decode cL_law 1967 = .ok (.iaload, 1) := by decide +kernel
theorem dL_law_1968 : decode cL_law 1968 = .ok (.aload_n 0, 1) := by decide +kernel
theorem dL_law_1969 : decode cL_law 1969 = .ok (.iload_n 3, 1) := by decide +kernel
theorem dL_law_1970 : decode cL_law 1970 = .ok (.iconst 3, 1) := by decide +kernel
theorem dL_law_1971 : decode cL_law 1971 = .ok (.iadd, 1) := by decide +kernel
theorem dL_law_1972 : decode cL_law 1972 = .ok (.iaload, 1) := by decide +kernel
theorem dL_law_1973 : decode cL_law 1973 = .ok (.ifCond .eq 7, 3) := by decide +kernel
theorem dL_law_1976 : decode cL_law 1976 = .ok (.iconst 1, 1) := by decide +kernel
theorem dL_law_1977 : decode cL_law 1977 = .ok (.goto 4, 3) := by decide +kernel
theorem dL_law_1980 : decode cL_law 1980 = .ok (.iconst 0, 1) := by decide +kernel
theorem dL_law_1981 : decode cL_law 1981 = .ok (.invokevirtual 169, 3) := by decide +kernel
theorem dL_law_1984 : decode cL_law 1984 = .ok (.aload_n 2, 1) := by decide +kernel
theorem dL_law_1985 : decode cL_law 1985 = .ok (.aload_n 0, 1) := by decide +kernel
theorem dL_law_1986 : decode cL_law 1986 = .ok (.iload_n 3, 1) := by decide +kernel
theorem dL_law_1987 : decode cL_law 1987 = .ok (.iconst 1, 1) := by decide +kernel
theorem dL_law_1988 : decode cL_law 1988 = .ok (.iadd, 1) := by decide +kernel
theorem dL_law_1989 : decode cL_law 1989 = .ok (.iaload, 1) := by decide +kernel
theorem dL_law_1990 : decode cL_law 1990 = .ok (.aload_n 0, 1) := by decide +kernel
theorem dL_law_1991 : decode cL_law 1991 = .ok (.iload_n 3, 1) := by decide +kernel
theorem dL_law_1992 : decode cL_law 1992 = .ok (.iconst 2, 1) := by decide +kernel
theorem dL_law_1993 : decode cL_law 1993 = .ok (.iadd, 1) := by decide +kernel
theorem dL_law_1994 : decode cL_law 1994 = .ok (.iaload, 1) := by decide +kernel
theorem dL_law_1995 : decode cL_law 1995 = .ok (.aload_n 0, 1) := by decide +kernel
theorem dL_law_1996 : decode cL_law 1996 = .ok (.iload_n 3, 1) := by decide +kernel
theorem dL_law_1997 : decode cL_law 1997 = .ok (.iconst 3, 1) := by decide +kernel
theorem dL_law_1998 : decode cL_law 1998 = .ok (.iadd, 1) := by decide +kernel
theorem dL_law_1999 : decode cL_law 1999 = .ok (.iaload, 1) := by decide +kernel
theorem dL_law_2000 : decode cL_law 2000 = .ok (.ifCond .eq 7, 3) := by decide +kernel
theorem dL_law_2003 : decode cL_law 2003 = .ok (.iconst 1, 1) := by decide +kernel
theorem dL_law_2004 : decode cL_law 2004 = .ok (.goto 4, 3) := by decide +kernel
theorem dL_law_2007 : decode cL_law 2007 = .ok (.iconst 0, 1) := by decide +kernel
theorem dL_law_2008 : decode cL_law 2008 = .ok (.invokevirtual 173, 3) := by decide +kernel
theorem dL_law_2011 : decode cL_law 2011 = .ok (.if_icmp .eq 257, 3) := by decide +kernel
theorem dL_law_2016 : decode cL_law 2016 = .ok (.aload_n 1, 1) := by decide +kernel
theorem dL_law_2017 : decode cL_law 2017 = .ok (.aload_n 0, 1) := by decide +kernel
theorem dL_law_2018 : decode cL_law 2018 = .ok (.iload_n 3, 1) := by decide +kernel
theorem dL_law_2019 : decode cL_law 2019 = .ok (.iconst 1, 1) := by decide +kernel
theorem dL_law_2020 : decode cL_law 2020 = .ok (.iadd, 1) := by decide +kernel
theorem dL_law_2021 : decode cL_law 2021 = .ok (.iaload, 1) := by decide +kernel
theorem dL_law_2022 : decode cL_law 2022 = .ok (.aload_n 0, 1) := by decide +kernel
theorem dL_law_2023 : decode cL_law 2023 = .ok (.iload_n 3, 1) := by decide +kernel
theorem dL_law_2024 : decode cL_law 2024 = .ok (.iconst 2, 1) := by decide +kernel
theorem dL_law_2025 : decode cL_law 2025 = .ok (.iadd, 1) := by decide +kernel
theorem dL_law_2026 : decode cL_law 2026 = .ok (.iaload, 1) := by decide +kernel
theorem dL_law_2027 : decode cL_law 2027 = .ok (.aload_n 0, 1) := by decide +kernel
theorem dL_law_2028 : decode cL_law 2028 = .ok (.iload_n 3, 1) := by decide +kernel
theorem dL_law_2029 : decode cL_law 2029 = .ok (.iconst 3, 1) := by decide +kernel
theorem dL_law_2030 : decode cL_law 2030 = .ok (.iadd, 1) := by decide +kernel
theorem dL_law_2031 : decode cL_law 2031 = .ok (.iaload, 1) := by decide +kernel
theorem dL_law_2032 : decode cL_law 2032 = .ok (.aload_n 0, 1) := by decide +kernel
theorem dL_law_2033 : decode cL_law 2033 = .ok (.iload_n 3, 1) := by decide +kernel
theorem dL_law_2034 : decode cL_law 2034 = .ok (.iconst 4, 1) := by decide +kernel
theorem dL_law_2035 : decode cL_law 2035 = .ok (.iadd, 1) := by decide +kernel
theorem dL_law_2036 : decode cL_law 2036 = .ok (.iaload, 1) := by decide +kernel
theorem dL_law_2037 : decode cL_law 2037 = .ok (.aload_n 0, 1) := by decide +kernel
theorem dL_law_2038 : decode cL_law 2038 = .ok (.iload_n 3, 1) := by decide +kernel
theorem dL_law_2039 : decode cL_law 2039 = .ok (.iconst 5, 1) := by decide +kernel
theorem dL_law_2040 : decode cL_law 2040 = .ok (.iadd, 1) := by decide +kernel
theorem dL_law_2041 : decode cL_law 2041 = .ok (.iaload, 1) := by decide +kernel
theorem dL_law_2042 : decode cL_law 2042 = .ok (.aload_n 0, 1) := by decide +kernel
theorem dL_law_2043 : decode cL_law 2043 = .ok (.iload_n 3, 1) := by decide +kernel
theorem dL_law_2044 : decode cL_law 2044 = .ok (.bipush 6, 2) := by decide +kernel
theorem dL_law_2046 : decode cL_law 2046 = .ok (.iadd, 1) := by decide +kernel
theorem dL_law_2047 : decode cL_law 2047 = .ok (.iaload, 1) := by decide +kernel
theorem dL_law_2048 : decode cL_law 2048 = .ok (.aload_n 0, 1) := by decide +kernel
theorem dL_law_2049 : decode cL_law 2049 = .ok (.iload_n 3, 1) := by decide +kernel
theorem dL_law_2050 : decode cL_law 2050 = .ok (.bipush 7, 2) := by decide +kernel
theorem dL_law_2052 : decode cL_law 2052 = .ok (.iadd, 1) := by decide +kernel
theorem dL_law_2053 : decode cL_law 2053 = .ok (.iaload, 1) := by decide +kernel
theorem dL_law_2054 : decode cL_law 2054 = .ok (.invokevirtual 174, 3) := by decide +kernel
theorem dL_law_2057 : decode cL_law 2057 = .ok (.aload_n 2, 1) := by decide +kernel
theorem dL_law_2058 : decode cL_law 2058 = .ok (.aload_n 0, 1) := by decide +kernel
theorem dL_law_2059 : decode cL_law 2059 = .ok (.iload_n 3, 1) := by decide +kernel
theorem dL_law_2060 : decode cL_law 2060 = .ok (.iconst 1, 1) := by decide +kernel
theorem dL_law_2061 : decode cL_law 2061 = .ok (.iadd, 1) := by decide +kernel
theorem dL_law_2062 : decode cL_law 2062 = .ok (.iaload, 1) := by decide +kernel
theorem dL_law_2063 : decode cL_law 2063 = .ok (.aload_n 0, 1) := by decide +kernel
theorem dL_law_2064 : decode cL_law 2064 = .ok (.iload_n 3, 1) := by decide +kernel
theorem dL_law_2065 : decode cL_law 2065 = .ok (.iconst 2, 1) := by decide +kernel
theorem dL_law_2066 : decode cL_law 2066 = .ok (.iadd, 1) := by decide +kernel
theorem dL_law_2067 : decode cL_law 2067 = .ok (.iaload, 1) := by decide +kernel
theorem dL_law_2068 : decode cL_law 2068 = .ok (.aload_n 0, 1) := by decide +kernel
theorem dL_law_2069 : decode cL_law 2069 = .ok (.iload_n 3, 1) := by decide +kernel
theorem dL_law_2070 : decode cL_law 2070 = .ok (.iconst 3, 1) := by decide +kernel
theorem dL_law_2071 : decode cL_law 2071 = .ok (.iadd, 1) := by decide +kernel
theorem dL_law_2072 : decode cL_law 2072 = .ok (.iaload, 1) := by decide +kernel
theorem dL_law_2073 : decode cL_law 2073 = .ok (.aload_n 0, 1) := by decide +kernel
theorem dL_law_2074 : decode cL_law 2074 = .ok (.iload_n 3, 1) := by decide +kernel
theorem dL_law_2075 : decode cL_law 2075 = .ok (.iconst 4, 1) := by decide +kernel
theorem dL_law_2076 : decode cL_law 2076 = .ok (.iadd, 1) := by decide +kernel
theorem dL_law_2077 : decode cL_law 2077 = .ok (.iaload, 1) := by decide +kernel
theorem dL_law_2078 : decode cL_law 2078 = .ok (.aload_n 0, 1) := by decide +kernel
theorem dL_law_2079 : decode cL_law 2079 = .ok (.iload_n 3, 1) := by decide +kernel
theorem dL_law_2080 : decode cL_law 2080 = .ok (.iconst 5, 1) := by decide +kernel
theorem dL_law_2081 : decode cL_law 2081 = .ok (.iadd, 1) := by decide +kernel
theorem dL_law_2082 : decode cL_law 2082 = .ok (.iaload, 1) := by decide +kernel
theorem dL_law_2083 : decode cL_law 2083 = .ok (.aload_n 0, 1) := by decide +kernel
theorem dL_law_2084 : decode cL_law 2084 = .ok (.iload_n 3, 1) := by decide +kernel
theorem dL_law_2085 : decode cL_law 2085 = .ok (.bipush 6, 2) := by decide +kernel
theorem dL_law_2087 : decode cL_law 2087 = .ok (.iadd, 1) := by decide +kernel
theorem dL_law_2088 : decode cL_law 2088 = .ok (.iaload, 1) := by decide +kernel
theorem dL_law_2089 : decode cL_law 2089 = .ok (.aload_n 0, 1) := by decide +kernel
theorem dL_law_2090 : decode cL_law 2090 = .ok (.iload_n 3, 1) := by decide +kernel
theorem dL_law_2091 : decode cL_law 2091 = .ok (.bipush 7, 2) := by decide +kernel
theorem dL_law_2093 : decode cL_law 2093 = .ok (.iadd, 1) := by decide +kernel
theorem dL_law_2094 : decode cL_law 2094 = .ok (.iaload, 1) := by decide +kernel
theorem dL_law_2095 : decode cL_law 2095 = .ok (.invokevirtual 178, 3) := by decide +kernel
theorem dL_law_2098 : decode cL_law 2098 = .ok (.if_icmp .eq 170, 3) := by decide +kernel
theorem dL_law_2103 : decode cL_law 2103 = .ok (.aload_n 1, 1) := by decide +kernel
theorem dL_law_2104 : decode cL_law 2104 = .ok (.aload_n 0, 1) := by decide +kernel
theorem dL_law_2105 : decode cL_law 2105 = .ok (.iload_n 3, 1) := by decide +kernel
theorem dL_law_2106 : decode cL_law 2106 = .ok (.iconst 1, 1) := by decide +kernel
theorem dL_law_2107 : decode cL_law 2107 = .ok (.iadd, 1) := by decide +kernel
theorem dL_law_2108 : decode cL_law 2108 = .ok (.iaload, 1) := by decide +kernel
theorem dL_law_2109 : decode cL_law 2109 = .ok (.aload_n 0, 1) := by decide +kernel
theorem dL_law_2110 : decode cL_law 2110 = .ok (.iload_n 3, 1) := by decide +kernel
theorem dL_law_2111 : decode cL_law 2111 = .ok (.iconst 2, 1) := by decide +kernel
theorem dL_law_2112 : decode cL_law 2112 = .ok (.iadd, 1) := by decide +kernel
theorem dL_law_2113 : decode cL_law 2113 = .ok (.iaload, 1) := by decide +kernel
theorem dL_law_2114 : decode cL_law 2114 = .ok (.aload_n 0, 1) := by decide +kernel
theorem dL_law_2115 : decode cL_law 2115 = .ok (.iload_n 3, 1) := by decide +kernel
theorem dL_law_2116 : decode cL_law 2116 = .ok (.iconst 3, 1) := by decide +kernel
theorem dL_law_2117 : decode cL_law 2117 = .ok (.iadd, 1) := by decide +kernel
theorem dL_law_2118 : decode cL_law 2118 = .ok (.iaload, 1) := by decide +kernel
theorem dL_law_2119 : decode cL_law 2119 = .ok (.invokevirtual 179, 3) := by decide +kernel
theorem dL_law_2122 : decode cL_law 2122 = .ok (.aload_n 2, 1) := by decide +kernel
theorem dL_law_2123 : decode cL_law 2123 = .ok (.aload_n 0, 1) := by decide +kernel
theorem dL_law_2124 : decode cL_law 2124 = .ok (.iload_n 3, 1) := by decide +kernel
theorem dL_law_2125 : decode cL_law 2125 = .ok (.iconst 1, 1) := by decide +kernel
theorem dL_law_2126 : decode cL_law 2126 = .ok (.iadd, 1) := by decide +kernel
theorem dL_law_2127 : decode cL_law 2127 = .ok (.iaload, 1) := by decide +kernel
theorem dL_law_2128 : decode cL_law 2128 = .ok (.aload_n 0, 1) := by decide +kernel
theorem dL_law_2129 : decode cL_law 2129 = .ok (.iload_n 3, 1) := by decide +kernel
theorem dL_law_2130 : decode cL_law 2130 = .ok (.iconst 2, 1) := by decide +kernel
theorem dL_law_2131 : decode cL_law 2131 = .ok (.iadd, 1) := by decide +kernel
theorem dL_law_2132 : decode cL_law 2132 = .ok (.iaload, 1) := by decide +kernel
theorem dL_law_2133 : decode cL_law 2133 = .ok (.aload_n 0, 1) := by decide +kernel
theorem dL_law_2134 : decode cL_law 2134 = .ok (.iload_n 3, 1) := by decide +kernel
theorem dL_law_2135 : decode cL_law 2135 = .ok (.iconst 3, 1) := by decide +kernel
theorem dL_law_2136 : decode cL_law 2136 = .ok (.iadd, 1) := by decide +kernel
theorem dL_law_2137 : decode cL_law 2137 = .ok (.iaload, 1) := by decide +kernel
theorem dL_law_2138 : decode cL_law 2138 = .ok (.invokevirtual 182, 3) := by decide +kernel
theorem dL_law_2141 : decode cL_law 2141 = .ok (.if_icmp .eq 127, 3) := by decide +kernel
theorem dL_law_2146 : decode cL_law 2146 = .ok (.aload_n 1, 1) := by decide +kernel
theorem dL_law_2147 : decode cL_law 2147 = .ok (.aload_n 0, 1) := by decide +kernel
theorem dL_law_2148 : decode cL_law 2148 = .ok (.iload_n 3, 1) := by decide +kernel
theorem dL_law_2149 : decode cL_law 2149 = .ok (.iconst 1, 1) := by decide +kernel
theorem dL_law_2150 : decode cL_law 2150 = .ok (.iadd, 1) := by decide +kernel
theorem dL_law_2151 : decode cL_law 2151 = .ok (.iaload, 1) := by decide +kernel
theorem dL_law_2152 : decode cL_law 2152 = .ok (.aload_n 0, 1) := by decide +kernel
theorem dL_law_2153 : decode cL_law 2153 = .ok (.iload_n 3, 1) := by decide +kernel
theorem dL_law_2154 : decode cL_law 2154 = .ok (.iconst 2, 1) := by decide +kernel
theorem dL_law_2155 : decode cL_law 2155 = .ok (.iadd, 1) := by decide +kernel
theorem dL_law_2156 : decode cL_law 2156 = .ok (.iaload, 1) := by decide +kernel
theorem dL_law_2157 : decode cL_law 2157 = .ok (.aload_n 0, 1) := by decide +kernel
theorem dL_law_2158 : decode cL_law 2158 = .ok (.iload_n 3, 1) := by decide +kernel
theorem dL_law_2159 : decode cL_law 2159 = .ok (.iconst 3, 1) := by decide +kernel
theorem dL_law_2160 : decode cL_law 2160 = .ok (.iadd, 1) := by decide +kernel
theorem dL_law_2161 : decode cL_law 2161 = .ok (.iaload, 1) := by decide +kernel
theorem dL_law_2162 : decode cL_law 2162 = .ok (.aload_n 0, 1) := by decide +kernel
theorem dL_law_2163 : decode cL_law 2163 = .ok (.iload_n 3, 1) := by decide +kernel
theorem dL_law_2164 : decode cL_law 2164 = .ok (.iconst 4, 1) := by decide +kernel
theorem dL_law_2165 : decode cL_law 2165 = .ok (.iadd, 1) := by decide +kernel
theorem dL_law_2166 : decode cL_law 2166 = .ok (.iaload, 1) := by decide +kernel
theorem dL_law_2167 : decode cL_law 2167 = .ok (.invokevirtual 183, 3) := by decide +kernel
theorem dL_law_2170 : decode cL_law 2170 = .ok (.aload_n 2, 1) := by decide +kernel
theorem dL_law_2171 : decode cL_law 2171 = .ok (.aload_n 0, 1) := by decide +kernel
theorem dL_law_2172 : decode cL_law 2172 = .ok (.iload_n 3, 1) := by decide +kernel
theorem dL_law_2173 : decode cL_law 2173 = .ok (.iconst 1, 1) := by decide +kernel
theorem dL_law_2174 : decode cL_law 2174 = .ok (.iadd, 1) := by decide +kernel
theorem dL_law_2175 : decode cL_law 2175 = .ok (.iaload, 1) := by decide +kernel
theorem dL_law_2176 : decode cL_law 2176 = .ok (.aload_n 0, 1) := by decide +kernel
theorem dL_law_2177 : decode cL_law 2177 = .ok (.iload_n 3, 1) := by decide +kernel
theorem dL_law_2178 : decode cL_law 2178 = .ok (.iconst 2, 1) := by decide +kernel
theorem dL_law_2179 : decode cL_law 2179 = .ok (.iadd, 1) := by decide +kernel
theorem dL_law_2180 : decode cL_law 2180 = .ok (.iaload, 1) := by decide +kernel
theorem dL_law_2181 : decode cL_law 2181 = .ok (.aload_n 0, 1) := by decide +kernel
theorem dL_law_2182 : decode cL_law 2182 = .ok (.iload_n 3, 1) := by decide +kernel
theorem dL_law_2183 : decode cL_law 2183 = .ok (.iconst 3, 1) := by decide +kernel
theorem dL_law_2184 : decode cL_law 2184 = .ok (.iadd, 1) := by decide +kernel
theorem dL_law_2185 : decode cL_law 2185 = .ok (.iaload, 1) := by decide +kernel
theorem dL_law_2186 : decode cL_law 2186 = .ok (.aload_n 0, 1) := by decide +kernel
theorem dL_law_2187 : decode cL_law 2187 = .ok (.iload_n 3, 1) := by decide +kernel
theorem dL_law_2188 : decode cL_law 2188 = .ok (.iconst 4, 1) := by decide +kernel
theorem dL_law_2189 : decode cL_law 2189 = .ok (.iadd, 1) := by decide +kernel
theorem dL_law_2190 : decode cL_law 2190 = .ok (.iaload, 1) := by decide +kernel
theorem dL_law_2191 : decode cL_law 2191 = .ok (.invokevirtual 186, 3) := by decide +kernel
theorem dL_law_2194 : decode cL_law 2194 = .ok (.if_icmp .eq 74, 3) := by decide +kernel
theorem dL_law_2199 : decode cL_law 2199 = .ok (.aload_n 1, 1) := by decide +kernel
theorem dL_law_2200 : decode cL_law 2200 = .ok (.aload_n 0, 1) := by decide +kernel
theorem dL_law_2201 : decode cL_law 2201 = .ok (.iload_n 3, 1) := by decide +kernel
theorem dL_law_2202 : decode cL_law 2202 = .ok (.iconst 1, 1) := by decide +kernel
theorem dL_law_2203 : decode cL_law 2203 = .ok (.iadd, 1) := by decide +kernel
theorem dL_law_2204 : decode cL_law 2204 = .ok (.iaload, 1) := by decide +kernel
theorem dL_law_2205 : decode cL_law 2205 = .ok (.invokevirtual 187, 3) := by decide +kernel
theorem dL_law_2208 : decode cL_law 2208 = .ok (.aload_n 2, 1) := by decide +kernel
theorem dL_law_2209 : decode cL_law 2209 = .ok (.aload_n 0, 1) := by decide +kernel
theorem dL_law_2210 : decode cL_law 2210 = .ok (.iload_n 3, 1) := by decide +kernel
theorem dL_law_2211 : decode cL_law 2211 = .ok (.iconst 1, 1) := by decide +kernel
theorem dL_law_2212 : decode cL_law 2212 = .ok (.iadd, 1) := by decide +kernel
theorem dL_law_2213 : decode cL_law 2213 = .ok (.iaload, 1) := by decide +kernel
theorem dL_law_2214 : decode cL_law 2214 = .ok (.invokevirtual 190, 3) := by decide +kernel
theorem dL_law_2217 : decode cL_law 2217 = .ok (.if_icmp .eq 51, 3) := by decide +kernel
theorem dL_law_2222 : decode cL_law 2222 = .ok (.aload_n 1, 1) := by decide +kernel
theorem dL_law_2223 : decode cL_law 2223 = .ok (.aload_n 0, 1) := by decide +kernel
theorem dL_law_2224 : decode cL_law 2224 = .ok (.iload_n 3, 1) := by decide +kernel
theorem dL_law_2225 : decode cL_law 2225 = .ok (.iconst 1, 1) := by decide +kernel
theorem dL_law_2226 : decode cL_law 2226 = .ok (.iadd, 1) := by decide +kernel
theorem dL_law_2227 : decode cL_law 2227 = .ok (.iaload, 1) := by decide +kernel
theorem dL_law_2228 : decode cL_law 2228 = .ok (.invokevirtual 191, 3) := by decide +kernel
theorem dL_law_2231 : decode cL_law 2231 = .ok (.aload_n 2, 1) := by decide +kernel
theorem dL_law_2232 : decode cL_law 2232 = .ok (.aload_n 0, 1) := by decide +kernel
theorem dL_law_2233 : decode cL_law 2233 = .ok (.iload_n 3, 1) := by decide +kernel
theorem dL_law_2234 : decode cL_law 2234 = .ok (.iconst 1, 1) := by decide +kernel
theorem dL_law_2235 : decode cL_law 2235 = .ok (.iadd, 1) := by decide +kernel
theorem dL_law_2236 : decode cL_law 2236 = .ok (.iaload, 1) := by decide +kernel
theorem dL_law_2237 : decode cL_law 2237 = .ok (.invokevirtual 195, 3) := by decide +kernel
theorem dL_law_2240 : decode cL_law 2240 = .ok (.if_icmp .eq 28, 3) := by decide +kernel
theorem dL_law_2245 : decode cL_law 2245 = .ok (.aload_n 1, 1) := by decide +kernel
theorem dL_law_2246 : decode cL_law 2246 = .ok (.aload_n 0, 1) := by decide +kernel
theorem dL_law_2247 : decode cL_law 2247 = .ok (.iload_n 3, 1) := by decide +kernel
theorem dL_law_2248 : decode cL_law 2248 = .ok (.iconst 1, 1) := by decide +kernel
theorem dL_law_2249 : decode cL_law 2249 = .ok (.iadd, 1) := by decide +kernel
theorem dL_law_2250 : decode cL_law 2250 = .ok (.iaload, 1) := by decide +kernel
theorem dL_law_2251 : decode cL_law 2251 = .ok (.invokevirtual 196, 3) := by decide +kernel
theorem dL_law_2254 : decode cL_law 2254 = .ok (.aload_n 2, 1) := by decide +kernel
theorem dL_law_2255 : decode cL_law 2255 = .ok (.aload_n 0, 1) := by decide +kernel
theorem dL_law_2256 : decode cL_law 2256 = .ok (.iload_n 3, 1) := by decide +kernel
theorem dL_law_2257 : decode cL_law 2257 = .ok (.iconst 1, 1) := by decide +kernel
theorem dL_law_2258 : decode cL_law 2258 = .ok (.iadd, 1) := by decide +kernel
theorem dL_law_2259 : decode cL_law 2259 = .ok (.iaload, 1) := by decide +kernel
theorem dL_law_2260 : decode cL_law 2260 = .ok (.invokevirtual 199, 3) := by decide +kernel
theorem dL_law_2263 : decode cL_law 2263 = .ok (.if_icmp .eq 5, 3) := by decide +kernel
theorem dL_law_2268 : decode cL_law 2268 = .ok (.iinc 3 8, 3) := by decide +kernel
theorem dL_law_2271 : decode cL_law 2271 = .ok (.goto (-2253), 3) := by decide +kernel
theorem dL_law_2274 : decode cL_law 2274 = .ok (.iconst 1, 1) := by decide +kernel
theorem dL_law_2275 : decode cL_law 2275 = .ok (.ireturn, 1) := by decide +kernel
