set_option maxRecDepth 100000 in
noncomputable def Fx_fill_36X_L5 (val : Int32) (n_ : Nat) : (Int32) → (Nat → Nat → Int32) → (Nat → Nat → Int32) := Nat.rec (motive := fun _ => (Int32) → (Nat → Nat → Int32) → (Nat → Nat → Int32)) (fun _ _ => default) (fun n_ ih_ w15 u16 => if (3 : Int32) ≤ w15 then (u16) else (xq_lt (ms u16 36 w15.toNatClampNeg val) fun u26 => ih_ (w15 + 1) u26)) n_
set_option maxRecDepth 100000 in
theorem Fx_fill_36X_L5_s {val : Int32} {w15 : Int32} {u16 : Nat → Nat → Int32} {n_ : Nat} : Fx_fill_36X_L5 val (n_ + 1) w15 u16 = if (3 : Int32) ≤ w15 then (u16) else (xq_lt (ms u16 36 w15.toNatClampNeg val) fun u26 => (Fx_fill_36X_L5 val n_) (w15 + 1) u26) := rfl
set_option maxRecDepth 100000 in
noncomputable def Fx_fill_36X (val : Int32) (u : Nat → Nat → Int32) (g : Nat → Nat → Int64) : (Nat → Nat → Int32) := Fx_fill_36X_L5 val ((3 - (0 : Int32).toInt).toNat + 1) (0 : Int32) u
set_option maxHeartbeats 4000000 in
set_option maxRecDepth 100000 in
theorem c_fill_36X {d : Nat} {u : Nat → Nat → Int32} {g : Nat → Nat → Int64} {ex : List MC} {val : Int32} (hd : 0 ≤ d)  : CT con0 d 0 0 yJ7_fill_53178 cJ7_fill_53178 4 none [.ref 36, .int val] (Wd u g ex) (fun r h2 => ∃ (u2 : Nat → Nat → Int32), r = none ∧ h2 = Wd u2 g ex ∧ u2 = Fx_fill_36X val u g ∧ (∀ c, c ≠ 36 → u2 c = u c)) := by
  refine CT_of (by decide) (Nat.le_of_ble_eq_true rfl) (fun x hq => ?_)
  show J x yJ7_fill_53178 cJ7_fill_53178 4 none d 0 0 (Wd u g ex).length 0 [(0, .ref 36), (1, .int val)] [] (Wd u g ex) 0 0
  have E : Fx_fill_36X val u g = Fx_fill_36X val u g := rfl
  refine J_iconst (v := 0) dJ7_fill_53178_0 (by decide) ?_
  refine J_istore_n (i := 2) (lw := [(2, .int 0), (0, .ref 36), (1, .int val)]) dJ7_fill_53178_1 rfl (by decide) rfl ?_
  refine J_aload_n (i := 0) (j := 1) dJ7_fill_53178_2 rfl rfl ?_
  refine J_alen dJ7_fill_53178_3 wc_36 (fun _ => rfl) ?_
  refine J_ci (v := 3) (by decide) ?_
  refine J_istore_n (i := 3) (lw := [(3, .int 3), (2, .int 0), (0, .ref 36), (1, .int val)]) dJ7_fill_53178_4 rfl (by decide) rfl ?_
  have lp21 : ∀ (n22 : Nat) (w15 : Int32) (u16 : Nat → Nat → Int32), Bd 0 3 w15 → (∀ c, c ≠ 36 → u16 c = u c) → (3 - w15.toInt).toNat < n22 → Fx_fill_36X_L5 val n22 w15 u16 = Fx_fill_36X val u g → J x yJ7_fill_53178 cJ7_fill_53178 4 none d 0 0 (Wd u g ex).length 5 [(0, .ref 36), (1, .int val), (2, .int w15), (3, .int 3)] [] (Wd u16 g ex) 0 0 := by
    intro n22
    induction n22 with
    | zero => intro w15 u16 bw15 fr17 hm24 _; exact absurd hm24 (Nat.not_lt_zero _)
    | succ n22 ih23 =>
      intro w15 u16 bw15 fr17 hm24 E
      replace E := Fx_fill_36X_L5_s.symm.trans E
      refine J_iload_n (i := 2) (j := 2) dJ7_fill_53178_5 rfl rfl ?_
      refine J_iload_n (i := 3) (j := 3) dJ7_fill_53178_6 rfl rfl ?_
      refine J_icmp_ge (tgt := 20) dJ7_fill_53178_7 (by decide) (fun c25 => ?_) (fun c25 => ?_)
      · replace E := xq_ep c25 E
        exact J_vret hq dJ7_fill_53178_20 rfl wlen (Nat.le_refl _) (Nat.le_refl _) ⟨u16, rfl, rfl, E, (fun c k0_ => (fr17 c k0_))⟩
      · replace E := xq_en c25 E
        refine J_aload_n (i := 0) (j := 0) dJ7_fill_53178_10 rfl rfl ?_
        refine J_iload_n (i := 2) (j := 2) dJ7_fill_53178_11 rfl rfl ?_
        refine J_iload_n (i := 1) (j := 1) dJ7_fill_53178_12 rfl rfl ?_
        obtain ⟨u26, e27⟩ : ∃ z, z = ms u16 36 w15.toNatClampNeg val := ⟨_, rfl⟩
        refine J_iast dJ7_fill_53178_13 wc_36 (vin (bd_lt_hi bw15 (i_nle c25) (bd_c (v := 3) (lo := 3) (hi := 3) (by decide))) (by decide)) (ws e27 wk_36 rfl) ?_
        replace E := xq_le e27 E
        refine J_iinc (i := 2) (j := 2) (v := (w15 + 1)) (lw := [(2, .int (w15 + 1)), (0, .ref 36), (1, .int val), (3, .int 3)]) dJ7_fill_53178_14 rfl rfl (by decide) rfl ?_
        refine J_goto (tgt := 5) dJ7_fill_53178_17 (by decide) ?_
        refine J_lv [1, 2, 0, 3] rfl ?_
        exact ih23 (w15 + 1) u26 (bd_w (l := 0) (h := 3) (bd_add (l := 1) (h := 3) (bd_lt_hi bw15 (i_nle c25) (bd_c (v := 3) (lo := 3) (hi := 3) (by decide))) (bd_c (v := 1) (lo := 1) (hi := 1) (by decide)) (by decide)) (by decide)) (fun c k0_ => ((ms_c e27 k0_).trans (fr17 c k0_))) (mu_up 1 bw15 rfl (by decide) (bd_w (l := 1) (h := 3) (bd_add (l := 1) (h := 3) (bd_lt_hi bw15 (i_nle c25) (bd_c (v := 3) (lo := 3) (hi := 3) (by decide))) (bd_c (v := 1) (lo := 1) (hi := 1) (by decide)) (by decide)) (by decide)) hm24) E
  refine J_lv [2, 3, 1, 0] rfl ?_
  exact lp21 ((3 - (0 : Int32).toInt).toNat + 1) (0 : Int32) u (bd_w (l := 0) (h := 3) (bd_c (v := 0) (lo := 0) (hi := 0) (by decide)) (by decide)) (fun c k0_ => rfl) (Nat.lt_succ_self _) E
set_option maxRecDepth 100000 in
noncomputable def Fx_fill4_33X_L10 (b : Int32) (val : Int32) (n_ : Nat) : (Int32) → (Nat → Nat → Int32) → (Nat → Nat → Int32) := Nat.rec (motive := fun _ => (Int32) → (Nat → Nat → Int32) → (Nat → Nat → Int32)) (fun _ _ => default) (fun n_ ih_ w19 u20 => if b ≤ w19 then (u20) else (xq_lt (ms u20 33 w19.toNatClampNeg val) fun u31 => ih_ (w19 + 1) u31)) n_
set_option maxRecDepth 100000 in
theorem Fx_fill4_33X_L10_s {b : Int32} {val : Int32} {w19 : Int32} {u20 : Nat → Nat → Int32} {n_ : Nat} : Fx_fill4_33X_L10 b val (n_ + 1) w19 u20 = if b ≤ w19 then (u20) else (xq_lt (ms u20 33 w19.toNatClampNeg val) fun u31 => (Fx_fill4_33X_L10 b val n_) (w19 + 1) u31) := rfl
set_option maxRecDepth 100000 in
noncomputable def Fx_fill4_33X (a : Int32) (b : Int32) (val : Int32) (u : Nat → Nat → Int32) (g : Nat → Nat → Int64) : (Nat → Nat → Int32) := Fx_fill4_33X_L10 b val ((144 - a.toInt).toNat + 1) a u
set_option maxHeartbeats 4000000 in
set_option maxRecDepth 100000 in
theorem c_fill4_33X {d : Nat} {u : Nat → Nat → Int32} {g : Nat → Nat → Int64} {ex : List MC} {a : Int32} {b : Int32} {val : Int32} (hd : 1 ≤ d) (hp0 : AB u 33 (-1) 999) (hp1 : Bd (-1) 999 val) (hp2 : Bd 0 128 a) (hp3 : Bd 0 144 b) (hp4 : (a ≤ b)) : CT con0 d 0 0 yJ7_fill_fda19 cJ7_fill_fda19 5 none [.ref 33, .int a, .int b, .int val] (Wd u g ex) (fun r h2 => ∃ (u2 : Nat → Nat → Int32), r = none ∧ h2 = Wd u2 g ex ∧ AB u2 33 (-1) 999 ∧ u2 = Fx_fill4_33X a b val u g ∧ (∀ c, c ≠ 33 → u2 c = u c)) := by
  refine CT_of (by decide) (Nat.le_of_ble_eq_true rfl) (fun x hq => ?_)
  show J x yJ7_fill_fda19 cJ7_fill_fda19 5 none d 0 0 (Wd u g ex).length 0 [(0, .ref 33), (1, .int a), (2, .int b), (3, .int val)] [] (Wd u g ex) 0 0
  have E : Fx_fill4_33X a b val u g = Fx_fill4_33X a b val u g := rfl
  refine J_aload_n (i := 0) (j := 0) dJ7_fill_fda19_0 rfl rfl ?_
  refine J_alen dJ7_fill_fda19_1 wc_33 (fun _ => rfl) ?_
  refine J_ci (v := 144) (by decide) ?_
  refine J_iload_n (i := 1) (j := 1) dJ7_fill_fda19_2 rfl rfl ?_
  refine J_iload_n (i := 2) (j := 2) dJ7_fill_fda19_3 rfl rfl ?_
  refine J_callS (As := [.int 144, .int a, .int b]) (rest := []) dJ7_fill_fda19_4 (c_rangeCheck (d := 0) (u := u) (g := g) (ex := ex) (a := a) (b := b)  (by decide) hp2 hp3 hp4) hq.n k646 k647 k98 k648 np_J7_rangeCheck_23922 (Nat.le_trans (by decide) hd) (by decide) (Nat.le_refl _) (Nat.le_refl _) wlen rfl (Nat.le_of_ble_eq_true rfl) (fun r_ h_ p1 => ?_)
  obtain ⟨rfl, rfl⟩ := p1
  refine J_iload_n (i := 1) (j := 1) dJ7_fill_fda19_7 rfl rfl ?_
  refine J_istore (i := 4) (lw := [(4, .int a), (0, .ref 33), (1, .int a), (2, .int b), (3, .int val)]) dJ7_fill_fda19_8 (by decide) rfl ?_
  have lp26 : ∀ (n27 : Nat) (w19 : Int32) (u20 : Nat → Nat → Int32), Bd 0 144 w19 → (∀ c, c ≠ 33 → u20 c = u c) → AB u20 33 (-1) 999 → (144 - w19.toInt).toNat < n27 → Fx_fill4_33X_L10 b val n27 w19 u20 = Fx_fill4_33X a b val u g → J x yJ7_fill_fda19 cJ7_fill_fda19 5 none d 0 0 (Wd u g ex).length 10 [(0, .ref 33), (2, .int b), (3, .int val), (4, .int w19)] [] (Wd u20 g ex) 0 0 := by
    intro n27
    induction n27 with
    | zero => intro w19 u20 bw19 fr21 ab22 hm29 _; exact absurd hm29 (Nat.not_lt_zero _)
    | succ n27 ih28 =>
      intro w19 u20 bw19 fr21 ab22 hm29 E
      replace E := Fx_fill4_33X_L10_s.symm.trans E
      refine J_iload (i := 4) (j := 3) dJ7_fill_fda19_10 rfl ?_
      refine J_iload_n (i := 2) (j := 1) dJ7_fill_fda19_12 rfl rfl ?_
      refine J_icmp_ge (tgt := 27) dJ7_fill_fda19_13 (by decide) (fun c30 => ?_) (fun c30 => ?_)
      · replace E := xq_ep c30 E
        exact J_vret hq dJ7_fill_fda19_27 rfl wlen (Nat.le_refl _) (Nat.le_refl _) ⟨u20, rfl, rfl, ab22, E, (fun c k0_ => (fr21 c k0_))⟩
      · replace E := xq_en c30 E
        refine J_aload_n (i := 0) (j := 0) dJ7_fill_fda19_16 rfl rfl ?_
        refine J_iload (i := 4) (j := 3) dJ7_fill_fda19_17 rfl ?_
        refine J_iload_n (i := 3) (j := 2) dJ7_fill_fda19_19 rfl rfl ?_
        obtain ⟨u31, e32⟩ : ∃ z, z = ms u20 33 w19.toNatClampNeg val := ⟨_, rfl⟩
        refine J_iast dJ7_fill_fda19_20 wc_33 (vin (bd_lt_hi bw19 (i_nle c30) hp3) (by decide)) (ws e32 wk_33 rfl) ?_
        replace E := xq_le e32 E
        refine J_iinc (i := 4) (j := 3) (v := (w19 + 1)) (lw := [(4, .int (w19 + 1)), (0, .ref 33), (2, .int b), (3, .int val)]) dJ7_fill_fda19_21 rfl rfl (by decide) rfl ?_
        refine J_goto (tgt := 10) dJ7_fill_fda19_24 (by decide) ?_
        refine J_lv [1, 2, 3, 0] rfl ?_
        exact ih28 (w19 + 1) u31 (bd_w (l := 0) (h := 144) (bd_add (l := 1) (h := 144) (bd_lt_hi bw19 (i_nle c30) hp3) (bd_c (v := 1) (lo := 1) (hi := 1) (by decide)) (by decide)) (by decide)) (fun c k0_ => ((ms_c e32 k0_).trans (fr21 c k0_))) (ab_s e32 ab22 hp1) (mu_up 1 bw19 rfl (by decide) (bd_w (l := 1) (h := 144) (bd_add (l := 1) (h := 144) (bd_lt_hi bw19 (i_nle c30) hp3) (bd_c (v := 1) (lo := 1) (hi := 1) (by decide)) (by decide)) (by decide)) hm29) E
  refine J_lv [1, 3, 4, 0] rfl ?_
  exact lp26 ((144 - a.toInt).toNat + 1) a u (bd_w (l := 0) (h := 144) hp2 (by decide)) (fun c k0_ => rfl) hp0 (Nat.lt_succ_self _) E
set_option maxRecDepth 100000 in
noncomputable def Fx_H_putBX (pond : Int32) (column : Int32) (value : Int32) (t : Nat) (u : Nat → Nat → Int32) (g : Nat → Nat → Int64) : (Nat → Nat → Int32) := if pond < (0 : Int32) then (u) else (if (9 : Int32) ≤ pond then (u) else (if column < (0 : Int32) then (u) else (if (16 : Int32) ≤ column then (u) else (xq_lt (ms u (t + 1) (((pond * 16) + column).toNatClampNeg) value) fun u5 => u5))))
set_option maxHeartbeats 4000000 in
set_option maxRecDepth 100000 in
theorem c_H_putBX {d : Nat} {u : Nat → Nat → Int32} {g : Nat → Nat → Int64} {ex : List MC} {pond : Int32} {column : Int32} {value : Int32} {t : Nat} (hd : 0 ≤ d) (hs_t : t ∈ hl) (hp0 : AB u (t + 1) (-1) 999) (hp1 : Bd (-1) 999 value) : CT con0 d 0 0 yX1_put cX1_put 4 none [.ref t, .int pond, .int column, .int value] (Wd u g ex) (fun r h2 => ∃ (u2 : Nat → Nat → Int32), r = none ∧ h2 = Wd u2 g ex ∧ AB u2 (t + 1) (-1) 999 ∧ u2 = Fx_H_putBX pond column value t u g ∧ (∀ c, c ≠ t + 1 → u2 c = u c)) := by
  refine CT_of (by decide) (Nat.le_of_ble_eq_true rfl) (fun x hq => ?_)
  show J x yX1_put cX1_put 4 none d 0 0 (Wd u g ex).length 0 [(0, .ref t), (1, .int pond), (2, .int column), (3, .int value)] [] (Wd u g ex) 0 0
  have E : Fx_H_putBX pond column value t u g = Fx_H_putBX pond column value t u g := rfl
  refine J_iload_n (i := 1) (j := 1) dX1_put_0 rfl rfl ?_
  refine J_if_lt (tgt := 32) dX1_put_1 (by decide) (fun c1 => ?_) (fun c1 => ?_)
  · replace E := xq_ep c1 E
    exact J_vret hq dX1_put_32 rfl wlen (Nat.le_refl _) (Nat.le_refl _) ⟨u, rfl, rfl, hp0, E, (fun c k0_ => rfl)⟩
  · replace E := xq_en c1 E
    refine J_iload_n (i := 1) (j := 1) dX1_put_4 rfl rfl ?_
    refine J_bipush (v := 9) dX1_put_5 (by decide) ?_
    refine J_icmp_ge (tgt := 32) dX1_put_7 (by decide) (fun c2 => ?_) (fun c2 => ?_)
    · replace E := xq_ep c2 E
      exact J_vret hq dX1_put_32 rfl wlen (Nat.le_refl _) (Nat.le_refl _) ⟨u, rfl, rfl, hp0, E, (fun c k0_ => rfl)⟩
    · replace E := xq_en c2 E
      refine J_iload_n (i := 2) (j := 2) dX1_put_10 rfl rfl ?_
      refine J_if_lt (tgt := 32) dX1_put_11 (by decide) (fun c3 => ?_) (fun c3 => ?_)
      · replace E := xq_ep c3 E
        exact J_vret hq dX1_put_32 rfl wlen (Nat.le_refl _) (Nat.le_refl _) ⟨u, rfl, rfl, hp0, E, (fun c k0_ => rfl)⟩
      · replace E := xq_en c3 E
        refine J_iload_n (i := 2) (j := 2) dX1_put_14 rfl rfl ?_
        refine J_bipush (v := 16) dX1_put_15 (by decide) ?_
        refine J_icmp_ge (tgt := 32) dX1_put_17 (by decide) (fun c4 => ?_) (fun c4 => ?_)
        · replace E := xq_ep c4 E
          exact J_vret hq dX1_put_32 rfl wlen (Nat.le_refl _) (Nat.le_refl _) ⟨u, rfl, rfl, hp0, E, (fun c k0_ => rfl)⟩
        · replace E := xq_en c4 E
          refine J_aload_n (i := 0) (j := 0) dX1_put_20 rfl rfl ?_
          refine J_get (C := RX1) (T := TX1) (Z := 6) (ci := 1) (f := 1) dX1_put_21 inG1 rfl (by decide) k137 (zh0c hs_t) rfl ?_
          refine J_iload_n (i := 1) (j := 1) dX1_put_24 rfl rfl ?_
          refine J_bipush (v := 16) dX1_put_25 (by decide) ?_
          refine J_imul dX1_put_27 ?_
          refine J_iload_n (i := 2) (j := 2) dX1_put_28 rfl rfl ?_
          refine J_iadd dX1_put_29 ?_
          refine J_iload_n (i := 3) (j := 3) dX1_put_30 rfl rfl ?_
          obtain ⟨u5, e6⟩ : ∃ z, z = ms u (t + 1) (((pond * 16) + column).toNatClampNeg) value := ⟨_, rfl⟩
          refine J_iast dX1_put_31 (zh1c hs_t) (vin (bd_add (l := 0) (h := 143) (bd_mul (l := 0) (h := 128) (bd_lt_hi (bd_le_lo (bd_any pond) (i_nlt c1) (bd_c (v := 0) (lo := 0) (hi := 0) (by decide))) (i_nle c2) (bd_c (v := 9) (lo := 9) (hi := 9) (by decide))) (bd_c (v := 16) (lo := 16) (hi := 16) (by decide)) (by decide)) (bd_lt_hi (bd_le_lo (bd_any column) (i_nlt c3) (bd_c (v := 0) (lo := 0) (hi := 0) (by decide))) (i_nle c4) (bd_c (v := 16) (lo := 16) (hi := 16) (by decide))) (by decide)) (by decide)) (ws e6 (zh1 hs_t) rfl) ?_
          replace E := xq_le e6 E
          exact J_vret hq dX1_put_32 rfl wlen (Nat.le_refl _) (Nat.le_refl _) ⟨u5, rfl, rfl, (ab_s e6 hp0 hp1), E, (fun c k0_ => (ms_c e6 k0_))⟩
set_option maxRecDepth 100000 in
noncomputable def Fx_H_addPond32X (holds : Int32) (level : Int32) (take : Int32) (u : Nat → Nat → Int32) (g : Nat → Nat → Int64) : Bool × (Nat → Nat → Int32) := if (u 32 0) < (9 : Int32) then (xq_lt (ms u 32 0 ((u 32 0) + 1)) fun u2 => xq_lt (Fx_fill4_33X ((u 32 0) * 16) (((u 32 0) * 16) + 16) (0 : Int32) u2 g) fun u5 => xq_lt (Fx_H_putBX (u 32 0) (0 : Int32) holds 32 u5 g) fun u10 => xq_lt (Fx_H_putBX (u 32 0) (1 : Int32) level 32 u10 g) fun u15 => xq_lt (Fx_H_putBX (u 32 0) (2 : Int32) take 32 u15 g) fun u20 => xq_lt (Fx_H_putBX (u 32 0) (8 : Int32) ((-1) : Int32) 32 u20 g) fun u25 => xq_lt (Fx_H_putBX (u 32 0) (9 : Int32) ((-1) : Int32) 32 u25 g) fun u30 => xq_lt (Fx_H_putBX (u 32 0) (12 : Int32) ((-1) : Int32) 32 u30 g) fun u35 => (true, u35)) else ((false, u))
set_option maxHeartbeats 4000000 in
set_option maxRecDepth 100000 in
theorem c_H_addPond32X {d : Nat} {u : Nat → Nat → Int32} {g : Nat → Nat → Int64} {ex : List MC} {holds : Int32} {level : Int32} {take : Int32} (hd : 2 ≤ d) (hp0 : Bd 0 9 (u 32 0)) (hp1 : Bd 0 4 (u 32 2)) (hp2 : AB u 33 (-1) 999) (hp3 : Bd (-1) 999 holds) (hp4 : Bd (-1) 999 level) (hp5 : Bd (-1) 999 take) : CT con0 d 0 0 yX1_addPond cX1_addPond 5 (some .boolean) [.ref 32, .int holds, .int level, .int take] (Wd u g ex) (fun r h2 => ∃ (z : Bool) (u2 : Nat → Nat → Int32), r = some (.int (bI z)) ∧ h2 = Wd u2 g ex ∧ Bd 0 9 (u2 32 0) ∧ AB u2 33 (-1) 999 ∧ (z, u2) = Fx_H_addPond32X holds level take u g ∧ (∀ c, c ≠ 32 → c ≠ 33 → u2 c = u c) ∧ (∀ j, j ≠ 0 → u2 32 j = u 32 j)) := by
  refine CT_of (by decide) (Nat.le_of_ble_eq_true rfl) (fun x hq => ?_)
  show J x yX1_addPond cX1_addPond 5 (some .boolean) d 0 0 (Wd u g ex).length 0 [(0, .ref 32), (1, .int holds), (2, .int level), (3, .int take)] [] (Wd u g ex) 0 0
  have E : Fx_H_addPond32X holds level take u g = Fx_H_addPond32X holds level take u g := rfl
  refine J_aload_n (i := 0) (j := 0) dX1_addPond_0 rfl rfl ?_
  refine J_get (C := RX1) (T := TX1) (Z := 6) (ci := 1) (f := 0) dX1_addPond_1 inG1 rfl (by decide) k130 wc_32 rfl ?_
  refine J_bipush (v := 9) dX1_addPond_4 (by decide) ?_
  refine J_icmp_lt (tgt := 11) dX1_addPond_6 (by decide) (fun c1 => ?_) (fun c1 => ?_)
  · replace E := xq_ep c1 E
    refine J_aload_n (i := 0) (j := 0) dX1_addPond_11 rfl rfl ?_
    refine J_get (C := RX1) (T := TX1) (Z := 6) (ci := 1) (f := 0) dX1_addPond_12 inG1 rfl (by decide) k130 wc_32 rfl ?_
    refine J_istore (i := 4) (lw := [(4, .int (u 32 0)), (0, .ref 32), (1, .int holds), (2, .int level), (3, .int take)]) dX1_addPond_15 (by decide) rfl ?_
    refine J_aload_n (i := 0) (j := 1) dX1_addPond_17 rfl rfl ?_
    refine J_dup dX1_addPond_18 rfl ?_
    refine J_get (C := RX1) (T := TX1) (Z := 6) (ci := 1) (f := 0) dX1_addPond_19 inG1 rfl (by decide) k130 wc_32 rfl ?_
    refine J_iconst (v := 1) dX1_addPond_22 (by decide) ?_
    refine J_iadd dX1_addPond_23 ?_
    obtain ⟨u2, e3⟩ : ∃ z, z = ms u 32 0 ((u 32 0) + 1) := ⟨_, rfl⟩
    refine J_put (C := RX1) (T := TX1) (Z := 6) (ci := 1) (f := 0) (ty0 := tyX1) dX1_addPond_24 inG1 rfl tyX1_ok nmX1 (by decide) k130 rfl rfl wc_32 (Nat.le_of_ble_eq_true rfl) (fun _ _ => ⟨rfl, rfl⟩) (ws e3 wk_32 rfl) ?_
    replace E := xq_le e3 E
    refine J_aload_n (i := 0) (j := 1) dX1_addPond_27 rfl rfl ?_
    refine J_get (C := RX1) (T := TX1) (Z := 6) (ci := 1) (f := 1) dX1_addPond_28 inG1 rfl (by decide) k137 wc_32 rfl ?_
    refine J_iload (i := 4) (j := 0) dX1_addPond_31 rfl ?_
    refine J_bipush (v := 16) dX1_addPond_33 (by decide) ?_
    refine J_imul dX1_addPond_35 ?_
    refine J_iload (i := 4) (j := 0) dX1_addPond_36 rfl ?_
    refine J_bipush (v := 16) dX1_addPond_38 (by decide) ?_
    refine J_imul dX1_addPond_40 ?_
    refine J_bipush (v := 16) dX1_addPond_41 (by decide) ?_
    refine J_iadd dX1_addPond_43 ?_
    refine J_iconst (v := 0) dX1_addPond_44 (by decide) ?_
    refine J_callS (As := [.ref 33, .int ((u 32 0) * 16), .int (((u 32 0) * 16) + 16), .int 0]) (rest := []) dX1_addPond_45 (c_fill4_33X (d := 1) (u := u2) (g := g) (ex := ex) (a := ((u 32 0) * 16)) (b := (((u 32 0) * 16) + 16)) (val := 0)  (by decide) (ab_c (ms_c e3 (Nat.ne_of_beq_eq_false rfl)) hp2) (bd_w (l := (-1)) (h := 999) (bd_c (v := 0) (lo := 0) (hi := 0) (by decide)) (by decide)) (bd_mul (l := 0) (h := 128) (bd_lt_hi hp0 c1 (bd_c (v := 9) (lo := 9) (hi := 9) (by decide))) (bd_c (v := 16) (lo := 16) (hi := 16) (by decide)) (by decide)) (bd_w (l := 0) (h := 144) (bd_add (l := 16) (h := 144) (bd_mul (l := 0) (h := 128) (bd_lt_hi hp0 c1 (bd_c (v := 9) (lo := 9) (hi := 9) (by decide))) (bd_c (v := 16) (lo := 16) (hi := 16) (by decide)) (by decide)) (bd_c (v := 16) (lo := 16) (hi := 16) (by decide)) (by decide)) (by decide)) (le_addc (bd_mul (l := 0) (h := 128) (bd_lt_hi hp0 c1 (bd_c (v := 9) (lo := 9) (hi := 9) (by decide))) (bd_c (v := 16) (lo := 16) (hi := 16) (by decide)) (by decide)) (by decide))) hq.n k643 k644 k98 k645 np_J7_fill_fda19 (Nat.le_trans (by decide) hd) (by decide) (Nat.le_refl _) (Nat.le_refl _) wlen rfl (Nat.le_of_ble_eq_true rfl) (fun r_ h_ p4 => ?_)
    obtain ⟨u5, rfl, rfl, h6, hx7, fr8⟩ := p4
    replace E := xq_le hx7 E
    refine J_aload_n (i := 0) (j := 1) dX1_addPond_48 rfl rfl ?_
    refine J_iload (i := 4) (j := 0) dX1_addPond_49 rfl ?_
    refine J_iconst (v := 0) dX1_addPond_51 (by decide) ?_
    refine J_iload_n (i := 1) (j := 2) dX1_addPond_52 rfl rfl ?_
    refine J_callV (As := [.int (u 32 0), .int 0, .int holds]) (rest := []) dX1_addPond_53 (c_H_putBX (d := 0) (u := u5) (g := g) (ex := ex) (pond := u 32 0) (column := 0) (value := holds) (t := 32) (by decide) (by decide) h6 hp3) hq.n k649 k650 k651 wc_32 rfl rfl k89 k652 np_X1_put (Nat.le_trans (by decide) hd) (by decide) (Nat.le_refl _) (Nat.le_refl _) wlen rfl (Nat.le_of_ble_eq_true rfl) (fun r_ h_ p9 => ?_)
    obtain ⟨u10, rfl, rfl, h11, hx12, fr13⟩ := p9
    replace E := xq_le hx12 E
    refine J_aload_n (i := 0) (j := 1) dX1_addPond_56 rfl rfl ?_
    refine J_iload (i := 4) (j := 0) dX1_addPond_57 rfl ?_
    refine J_iconst (v := 1) dX1_addPond_59 (by decide) ?_
    refine J_iload_n (i := 2) (j := 3) dX1_addPond_60 rfl rfl ?_
    refine J_callV (As := [.int (u 32 0), .int 1, .int level]) (rest := []) dX1_addPond_61 (c_H_putBX (d := 0) (u := u10) (g := g) (ex := ex) (pond := u 32 0) (column := 1) (value := level) (t := 32) (by decide) (by decide) h11 hp4) hq.n k649 k650 k651 wc_32 rfl rfl k89 k652 np_X1_put (Nat.le_trans (by decide) hd) (by decide) (Nat.le_refl _) (Nat.le_refl _) wlen rfl (Nat.le_of_ble_eq_true rfl) (fun r_ h_ p14 => ?_)
    obtain ⟨u15, rfl, rfl, h16, hx17, fr18⟩ := p14
    replace E := xq_le hx17 E
    refine J_aload_n (i := 0) (j := 1) dX1_addPond_64 rfl rfl ?_
    refine J_iload (i := 4) (j := 0) dX1_addPond_65 rfl ?_
    refine J_iconst (v := 2) dX1_addPond_67 (by decide) ?_
    refine J_iload_n (i := 3) (j := 4) dX1_addPond_68 rfl rfl ?_
    refine J_callV (As := [.int (u 32 0), .int 2, .int take]) (rest := []) dX1_addPond_69 (c_H_putBX (d := 0) (u := u15) (g := g) (ex := ex) (pond := u 32 0) (column := 2) (value := take) (t := 32) (by decide) (by decide) h16 hp5) hq.n k649 k650 k651 wc_32 rfl rfl k89 k652 np_X1_put (Nat.le_trans (by decide) hd) (by decide) (Nat.le_refl _) (Nat.le_refl _) wlen rfl (Nat.le_of_ble_eq_true rfl) (fun r_ h_ p19 => ?_)
    obtain ⟨u20, rfl, rfl, h21, hx22, fr23⟩ := p19
    replace E := xq_le hx22 E
    refine J_aload_n (i := 0) (j := 1) dX1_addPond_72 rfl rfl ?_
    refine J_iload (i := 4) (j := 0) dX1_addPond_73 rfl ?_
    refine J_bipush (v := 8) dX1_addPond_75 (by decide) ?_
    refine J_iconst (v := (-1)) dX1_addPond_77 (by decide) ?_
    refine J_callV (As := [.int (u 32 0), .int 8, .int (-1)]) (rest := []) dX1_addPond_78 (c_H_putBX (d := 0) (u := u20) (g := g) (ex := ex) (pond := u 32 0) (column := 8) (value := (-1)) (t := 32) (by decide) (by decide) h21 (bd_w (l := (-1)) (h := 999) (bd_c (v := (-1)) (lo := (-1)) (hi := (-1)) (by decide)) (by decide))) hq.n k649 k650 k651 wc_32 rfl rfl k89 k652 np_X1_put (Nat.le_trans (by decide) hd) (by decide) (Nat.le_refl _) (Nat.le_refl _) wlen rfl (Nat.le_of_ble_eq_true rfl) (fun r_ h_ p24 => ?_)
    obtain ⟨u25, rfl, rfl, h26, hx27, fr28⟩ := p24
    replace E := xq_le hx27 E
    refine J_aload_n (i := 0) (j := 1) dX1_addPond_81 rfl rfl ?_
    refine J_iload (i := 4) (j := 0) dX1_addPond_82 rfl ?_
    refine J_bipush (v := 9) dX1_addPond_84 (by decide) ?_
    refine J_iconst (v := (-1)) dX1_addPond_86 (by decide) ?_
    refine J_callV (As := [.int (u 32 0), .int 9, .int (-1)]) (rest := []) dX1_addPond_87 (c_H_putBX (d := 0) (u := u25) (g := g) (ex := ex) (pond := u 32 0) (column := 9) (value := (-1)) (t := 32) (by decide) (by decide) h26 (bd_w (l := (-1)) (h := 999) (bd_c (v := (-1)) (lo := (-1)) (hi := (-1)) (by decide)) (by decide))) hq.n k649 k650 k651 wc_32 rfl rfl k89 k652 np_X1_put (Nat.le_trans (by decide) hd) (by decide) (Nat.le_refl _) (Nat.le_refl _) wlen rfl (Nat.le_of_ble_eq_true rfl) (fun r_ h_ p29 => ?_)
    obtain ⟨u30, rfl, rfl, h31, hx32, fr33⟩ := p29
    replace E := xq_le hx32 E
    refine J_aload_n (i := 0) (j := 1) dX1_addPond_90 rfl rfl ?_
    refine J_iload (i := 4) (j := 0) dX1_addPond_91 rfl ?_
    refine J_bipush (v := 12) dX1_addPond_93 (by decide) ?_
    refine J_iconst (v := (-1)) dX1_addPond_95 (by decide) ?_
    refine J_callV (As := [.int (u 32 0), .int 12, .int (-1)]) (rest := []) dX1_addPond_96 (c_H_putBX (d := 0) (u := u30) (g := g) (ex := ex) (pond := u 32 0) (column := 12) (value := (-1)) (t := 32) (by decide) (by decide) h31 (bd_w (l := (-1)) (h := 999) (bd_c (v := (-1)) (lo := (-1)) (hi := (-1)) (by decide)) (by decide))) hq.n k649 k650 k651 wc_32 rfl rfl k89 k652 np_X1_put (Nat.le_trans (by decide) hd) (by decide) (Nat.le_refl _) (Nat.le_refl _) wlen rfl (Nat.le_of_ble_eq_true rfl) (fun r_ h_ p34 => ?_)
    obtain ⟨u35, rfl, rfl, h36, hx37, fr38⟩ := p34
    replace E := xq_le hx37 E
    refine J_iconst (v := 1) dX1_addPond_99 (by decide) ?_
    exact J_zret hq dX1_addPond_100 rfl rfl wlen (Nat.le_refl _) (Nat.le_refl _) ⟨true, u35, rfl, rfl, (bd_r ((congrFun (fr38 32 (Nat.ne_of_beq_eq_false rfl)) 0).trans ((congrFun (fr33 32 (Nat.ne_of_beq_eq_false rfl)) 0).trans ((congrFun (fr28 32 (Nat.ne_of_beq_eq_false rfl)) 0).trans ((congrFun (fr23 32 (Nat.ne_of_beq_eq_false rfl)) 0).trans ((congrFun (fr18 32 (Nat.ne_of_beq_eq_false rfl)) 0).trans ((congrFun (fr13 32 (Nat.ne_of_beq_eq_false rfl)) 0).trans ((congrFun (fr8 32 (Nat.ne_of_beq_eq_false rfl)) 0).trans (ms_e e3)))))))) (bd_w (l := 0) (h := 9) (bd_add (l := 1) (h := 9) (bd_lt_hi hp0 c1 (bd_c (v := 9) (lo := 9) (hi := 9) (by decide))) (bd_c (v := 1) (lo := 1) (hi := 1) (by decide)) (by decide)) (by decide))), h36, E, (fun c k0_ k1_ => ((fr38 c k1_).trans ((fr33 c k1_).trans ((fr28 c k1_).trans ((fr23 c k1_).trans ((fr18 c k1_).trans ((fr13 c k1_).trans ((fr8 c k1_).trans (ms_c e3 k0_))))))))), (fun j k0_ => ((congrFun (fr38 32 (Nat.ne_of_beq_eq_false rfl)) j).trans ((congrFun (fr33 32 (Nat.ne_of_beq_eq_false rfl)) j).trans ((congrFun (fr28 32 (Nat.ne_of_beq_eq_false rfl)) j).trans ((congrFun (fr23 32 (Nat.ne_of_beq_eq_false rfl)) j).trans ((congrFun (fr18 32 (Nat.ne_of_beq_eq_false rfl)) j).trans ((congrFun (fr13 32 (Nat.ne_of_beq_eq_false rfl)) j).trans ((congrFun (fr8 32 (Nat.ne_of_beq_eq_false rfl)) j).trans (ms_i e3 k0_)))))))))⟩
  · replace E := xq_en c1 E
    refine J_iconst (v := 0) dX1_addPond_9 (by decide) ?_
    exact J_zret hq dX1_addPond_10 rfl rfl wlen (Nat.le_refl _) (Nat.le_refl _) ⟨false, u, rfl, rfl, (bd_w (l := 0) (h := 9) (bd_le_lo hp0 (i_nlt c1) (bd_c (v := 9) (lo := 9) (hi := 9) (by decide))) (by decide)), hp2, E, (fun c k0_ k1_ => rfl), (fun j k0_ => rfl)⟩
set_option maxRecDepth 100000 in
noncomputable def Fx_H_addRainX (steps : Int32) (chance : Int32) (t : Nat) (u : Nat → Nat → Int32) (g : Nat → Nat → Int64) : Bool × (Nat → Nat → Int32) := if (u t 2) < (4 : Int32) then (xq_lt (ms u (t + 2) ((u t 2).toNatClampNeg) steps) fun u2 => xq_lt (ms u2 (t + 3) ((u t 2).toNatClampNeg) chance) fun u4 => xq_lt (ms u4 t 2 ((u t 2) + 1)) fun u6 => (true, u6)) else ((false, u))
set_option maxHeartbeats 4000000 in
set_option maxRecDepth 100000 in
theorem c_H_addRainX {d : Nat} {u : Nat → Nat → Int32} {g : Nat → Nat → Int64} {ex : List MC} {steps : Int32} {chance : Int32} {t : Nat} (hd : 0 ≤ d) (hs_t : t ∈ hl) (hp0 : Bd 0 9 (u t 0)) (hp1 : Bd 0 4 (u t 2)) : CT con0 d 0 0 yX1_addRain cX1_addRain 3 (some .boolean) [.ref t, .int steps, .int chance] (Wd u g ex) (fun r h2 => ∃ (z : Bool) (u2 : Nat → Nat → Int32), r = some (.int (bI z)) ∧ h2 = Wd u2 g ex ∧ Bd 0 4 (u2 t 2) ∧ (z, u2) = Fx_H_addRainX steps chance t u g ∧ (∀ c, c ≠ t → c ≠ t + 2 → c ≠ t + 3 → u2 c = u c) ∧ (∀ j, j ≠ 2 → u2 t j = u t j)) := by
  refine CT_of (by decide) (Nat.le_of_ble_eq_true rfl) (fun x hq => ?_)
  show J x yX1_addRain cX1_addRain 3 (some .boolean) d 0 0 (Wd u g ex).length 0 [(0, .ref t), (1, .int steps), (2, .int chance)] [] (Wd u g ex) 0 0
  have E : Fx_H_addRainX steps chance t u g = Fx_H_addRainX steps chance t u g := rfl
  refine J_aload_n (i := 0) (j := 0) dX1_addRain_0 rfl rfl ?_
  refine J_get (C := RX1) (T := TX1) (Z := 6) (ci := 1) (f := 2) dX1_addRain_1 inG1 rfl (by decide) k138 (zh0c hs_t) rfl ?_
  refine J_iconst (v := 4) dX1_addRain_4 (by decide) ?_
  refine J_icmp_lt (tgt := 10) dX1_addRain_5 (by decide) (fun c1 => ?_) (fun c1 => ?_)
  · replace E := xq_ep c1 E
    refine J_aload_n (i := 0) (j := 0) dX1_addRain_10 rfl rfl ?_
    refine J_get (C := RX1) (T := TX1) (Z := 6) (ci := 1) (f := 3) dX1_addRain_11 inG1 rfl (by decide) k143 (zh0c hs_t) rfl ?_
    refine J_aload_n (i := 0) (j := 0) dX1_addRain_14 rfl rfl ?_
    refine J_get (C := RX1) (T := TX1) (Z := 6) (ci := 1) (f := 2) dX1_addRain_15 inG1 rfl (by decide) k138 (zh0c hs_t) rfl ?_
    refine J_iload_n (i := 1) (j := 1) dX1_addRain_18 rfl rfl ?_
    obtain ⟨u2, e3⟩ : ∃ z, z = ms u (t + 2) ((u t 2).toNatClampNeg) steps := ⟨_, rfl⟩
    refine J_iast dX1_addRain_19 (zh2c hs_t) (vin (bd_lt_hi hp1 c1 (bd_c (v := 4) (lo := 4) (hi := 4) (by decide))) (by decide)) (ws e3 (zh2 hs_t) rfl) ?_
    replace E := xq_le e3 E
    refine J_aload_n (i := 0) (j := 0) dX1_addRain_20 rfl rfl ?_
    refine J_get (C := RX1) (T := TX1) (Z := 6) (ci := 1) (f := 4) dX1_addRain_21 inG1 rfl (by decide) k144 (zh0c hs_t) rfl ?_
    refine J_aload_n (i := 0) (j := 0) dX1_addRain_24 rfl rfl ?_
    refine J_get (C := RX1) (T := TX1) (Z := 6) (ci := 1) (f := 2) dX1_addRain_25 inG1 rfl (by decide) k138 (zh0c hs_t) rfl ?_
    refine J_ci (v := u t 2) (congrFun (ms_c e3 (by omega)) 2) ?_
    refine J_iload_n (i := 2) (j := 2) dX1_addRain_28 rfl rfl ?_
    obtain ⟨u4, e5⟩ : ∃ z, z = ms u2 (t + 3) ((u t 2).toNatClampNeg) chance := ⟨_, rfl⟩
    refine J_iast dX1_addRain_29 (zh3c hs_t) (vin (bd_lt_hi hp1 c1 (bd_c (v := 4) (lo := 4) (hi := 4) (by decide))) (by decide)) (ws e5 (zh3 hs_t) rfl) ?_
    replace E := xq_le e5 E
    refine J_aload_n (i := 0) (j := 0) dX1_addRain_30 rfl rfl ?_
    refine J_dup dX1_addRain_31 rfl ?_
    refine J_get (C := RX1) (T := TX1) (Z := 6) (ci := 1) (f := 2) dX1_addRain_32 inG1 rfl (by decide) k138 (zh0c hs_t) rfl ?_
    refine J_ci (v := u t 2) ((congrFun (ms_c e5 (by omega)) 2).trans (congrFun (ms_c e3 (by omega)) 2)) ?_
    refine J_iconst (v := 1) dX1_addRain_35 (by decide) ?_
    refine J_iadd dX1_addRain_36 ?_
    obtain ⟨u6, e7⟩ : ∃ z, z = ms u4 t 2 ((u t 2) + 1) := ⟨_, rfl⟩
    refine J_put (C := RX1) (T := TX1) (Z := 6) (ci := 1) (f := 2) (ty0 := tyX1) dX1_addRain_37 inG1 rfl tyX1_ok nmX1 (by decide) k138 rfl rfl (zh0c hs_t) (Nat.le_of_ble_eq_true rfl) (fun _ _ => ⟨rfl, rfl⟩) (ws e7 (zh0 hs_t) rfl) ?_
    replace E := xq_le e7 E
    refine J_iconst (v := 1) dX1_addRain_40 (by decide) ?_
    exact J_zret hq dX1_addRain_41 rfl rfl wlen (Nat.le_refl _) (Nat.le_refl _) ⟨true, u6, rfl, rfl, (bd_r (ms_e e7) (bd_w (l := 0) (h := 4) (bd_add (l := 1) (h := 4) (bd_lt_hi hp1 c1 (bd_c (v := 4) (lo := 4) (hi := 4) (by decide))) (bd_c (v := 1) (lo := 1) (hi := 1) (by decide)) (by decide)) (by decide))), E, (fun c k0_ k1_ k2_ => ((ms_c e7 k0_).trans ((ms_c e5 k2_).trans (ms_c e3 k1_)))), (fun j k2_ => ((ms_i e7 k2_).trans ((congrFun (ms_c e5 (by omega)) j).trans (congrFun (ms_c e3 (by omega)) j))))⟩
  · replace E := xq_en c1 E
    refine J_iconst (v := 0) dX1_addRain_8 (by decide) ?_
    exact J_zret hq dX1_addRain_9 rfl rfl wlen (Nat.le_refl _) (Nat.le_refl _) ⟨false, u, rfl, rfl, (bd_w (l := 0) (h := 4) (bd_le_lo hp1 (i_nlt c1) (bd_c (v := 4) (lo := 4) (hi := 4) (by decide))) (by decide)), E, (fun c k0_ k1_ k2_ => rfl), (fun j k2_ => rfl)⟩
set_option maxRecDepth 100000 in
noncomputable def Fx_H_clear32X (u : Nat → Nat → Int32) (g : Nat → Nat → Int64) : (Nat → Nat → Int32) := xq_lt (ms u 32 0 0) fun u1 => xq_lt (ms u1 32 2 0) fun u3 => xq_lt (Fx_fill_36X (1 : Int32) u3 g) fun u6 => u6
set_option maxHeartbeats 4000000 in
set_option maxRecDepth 100000 in
theorem c_H_clear32X {d : Nat} {u : Nat → Nat → Int32} {g : Nat → Nat → Int64} {ex : List MC}  (hd : 1 ≤ d)  : CT con0 d 0 0 yX1_clear cX1_clear 1 none [.ref 32] (Wd u g ex) (fun r h2 => ∃ (u2 : Nat → Nat → Int32), r = none ∧ h2 = Wd u2 g ex ∧ Bd 0 9 (u2 32 0) ∧ Bd 0 4 (u2 32 2) ∧ u2 = Fx_H_clear32X u g ∧ (∀ c, c ≠ 32 → c ≠ 36 → u2 c = u c) ∧ (∀ j, j ≠ 0 → j ≠ 2 → u2 32 j = u 32 j)) := by
  refine CT_of (by decide) (Nat.le_of_ble_eq_true rfl) (fun x hq => ?_)
  show J x yX1_clear cX1_clear 1 none d 0 0 (Wd u g ex).length 0 [(0, .ref 32)] [] (Wd u g ex) 0 0
  have E : Fx_H_clear32X u g = Fx_H_clear32X u g := rfl
  refine J_aload_n (i := 0) (j := 0) dX1_clear_0 rfl rfl ?_
  refine J_iconst (v := 0) dX1_clear_1 (by decide) ?_
  obtain ⟨u1, e2⟩ : ∃ z, z = ms u 32 0 0 := ⟨_, rfl⟩
  refine J_put (C := RX1) (T := TX1) (Z := 6) (ci := 1) (f := 0) (ty0 := tyX1) dX1_clear_2 inG1 rfl tyX1_ok nmX1 (by decide) k130 rfl rfl wc_32 (Nat.le_of_ble_eq_true rfl) (fun _ _ => ⟨rfl, rfl⟩) (ws e2 wk_32 rfl) ?_
  replace E := xq_le e2 E
  refine J_aload_n (i := 0) (j := 0) dX1_clear_5 rfl rfl ?_
  refine J_iconst (v := 0) dX1_clear_6 (by decide) ?_
  obtain ⟨u3, e4⟩ : ∃ z, z = ms u1 32 2 0 := ⟨_, rfl⟩
  refine J_put (C := RX1) (T := TX1) (Z := 6) (ci := 1) (f := 2) (ty0 := tyX1) dX1_clear_7 inG1 rfl tyX1_ok nmX1 (by decide) k138 rfl rfl wc_32 (Nat.le_of_ble_eq_true rfl) (fun _ _ => ⟨rfl, rfl⟩) (ws e4 wk_32 rfl) ?_
  replace E := xq_le e4 E
  refine J_aload_n (i := 0) (j := 0) dX1_clear_10 rfl rfl ?_
  refine J_get (C := RX1) (T := TX1) (Z := 6) (ci := 1) (f := 5) dX1_clear_11 inG1 rfl (by decide) k145 wc_32 rfl ?_
  refine J_iconst (v := 1) dX1_clear_14 (by decide) ?_
  refine J_callS (As := [.ref 36, .int 1]) (rest := []) dX1_clear_15 (c_fill_36X (d := 0) (u := u3) (g := g) (ex := ex) (val := 1)  (by decide) ) hq.n k482 k483 k98 k484 np_J7_fill_53178 (Nat.le_trans (by decide) hd) (by decide) (Nat.le_refl _) (Nat.le_refl _) wlen rfl (Nat.le_of_ble_eq_true rfl) (fun r_ h_ p5 => ?_)
  obtain ⟨u6, rfl, rfl, hx7, fr8⟩ := p5
  replace E := xq_le hx7 E
  exact J_vret hq dX1_clear_18 rfl wlen (Nat.le_refl _) (Nat.le_refl _) ⟨u6, rfl, rfl, (bd_r ((congrFun (fr8 32 (Nat.ne_of_beq_eq_false rfl)) 0).trans ((ms_i e4 (Nat.ne_of_beq_eq_false rfl)).trans (ms_e e2))) (bd_w (l := 0) (h := 9) (bd_c (v := 0) (lo := 0) (hi := 0) (by decide)) (by decide))), (bd_r ((congrFun (fr8 32 (Nat.ne_of_beq_eq_false rfl)) 2).trans (ms_e e4)) (bd_w (l := 0) (h := 4) (bd_c (v := 0) (lo := 0) (hi := 0) (by decide)) (by decide))), E, (fun c k0_ k1_ => ((fr8 c k1_).trans ((ms_c e4 k0_).trans (ms_c e2 k0_)))), (fun j k0_ k2_ => ((congrFun (fr8 32 (Nat.ne_of_beq_eq_false rfl)) j).trans ((ms_i e4 k2_).trans (ms_i e2 k0_))))⟩
set_option maxRecDepth 100000 in
noncomputable def Fx_W_clearX (w : Nat) (u : Nat → Nat → Int32) (g : Nat → Nat → Int64) : (Nat → Nat → Int32) := xq_lt (ms u w 0 0) fun u1 => u1
set_option maxHeartbeats 4000000 in
set_option maxRecDepth 100000 in
theorem c_W_clearX {d : Nat} {u : Nat → Nat → Int32} {g : Nat → Nat → Int64} {ex : List MC} {w : Nat} (hd : 0 ≤ d) (hs_w : w ∈ wkl) : CT con0 d 0 0 yX8_clear cX8_clear 1 none [.ref w] (Wd u g ex) (fun r h2 => ∃ (u2 : Nat → Nat → Int32), r = none ∧ h2 = Wd u2 g ex ∧ Bd 0 0 (u2 w 0) ∧ u2 = Fx_W_clearX w u g ∧ (∀ c, c ≠ w → u2 c = u c) ∧ (∀ j, j ≠ 0 → u2 w j = u w j)) := by
  refine CT_of (by decide) (Nat.le_of_ble_eq_true rfl) (fun x hq => ?_)
  show J x yX8_clear cX8_clear 1 none d 0 0 (Wd u g ex).length 0 [(0, .ref w)] [] (Wd u g ex) 0 0
  have E : Fx_W_clearX w u g = Fx_W_clearX w u g := rfl
  refine J_aload_n (i := 0) (j := 0) dX8_clear_0 rfl rfl ?_
  refine J_iconst (v := 0) dX8_clear_1 (by decide) ?_
  obtain ⟨u1, e2⟩ : ∃ z, z = ms u w 0 0 := ⟨_, rfl⟩
  refine J_put (C := RX8) (T := TX8) (Z := 4) (ci := 8) (f := 0) (ty0 := tyX8) dX8_clear_2 inG8 rfl tyX8_ok nmX8 (by decide) k168 rfl rfl (zw0c hs_w) (Nat.le_of_ble_eq_true rfl) (fun _ _ => ⟨rfl, rfl⟩) (ws e2 (zw0 hs_w) rfl) ?_
  replace E := xq_le e2 E
  exact J_vret hq dX8_clear_5 rfl wlen (Nat.le_refl _) (Nat.le_refl _) ⟨u1, rfl, rfl, (bd_r (ms_e e2) (bd_c (v := 0) (lo := 0) (hi := 0) (by decide))), E, (fun c k0_ => (ms_c e2 k0_)), (fun j k0_ => (ms_i e2 k0_))⟩
set_option maxRecDepth 100000 in
noncomputable def Fx_H_chanceOfX (rain : Int32) (t : Nat) (u : Nat → Nat → Int32) (g : Nat → Nat → Int64) : Int32 := if rain < (0 : Int32) then ((0 : Int32)) else (if (u t 2) ≤ rain then ((0 : Int32)) else (xq_lt (u (t + 3) rain.toNatClampNeg) fun v3 => v3))
set_option maxHeartbeats 4000000 in
set_option maxRecDepth 100000 in
theorem c_H_chanceOfX {d : Nat} {u : Nat → Nat → Int32} {g : Nat → Nat → Int64} {ex : List MC} {rain : Int32} {t : Nat} (hd : 0 ≤ d) (hs_t : t ∈ hl) (hp0 : Bd 0 9 (u t 0)) (hp1 : Bd 0 4 (u t 2)) : CT con0 d 0 0 yX1_chanceOf cX1_chanceOf 2 (some .int) [.ref t, .int rain] (Wd u g ex) (fun r h2 => ∃ (z : Int32), r = some (.int z) ∧ h2 = Wd u g ex ∧ z = Fx_H_chanceOfX rain t u g) := by
  refine CT_of (by decide) (Nat.le_of_ble_eq_true rfl) (fun x hq => ?_)
  show J x yX1_chanceOf cX1_chanceOf 2 (some .int) d 0 0 (Wd u g ex).length 0 [(0, .ref t), (1, .int rain)] [] (Wd u g ex) 0 0
  have E : Fx_H_chanceOfX rain t u g = Fx_H_chanceOfX rain t u g := rfl
  refine J_iload_n (i := 1) (j := 1) dX1_chanceOf_0 rfl rfl ?_
  refine J_if_lt (tgt := 21) dX1_chanceOf_1 (by decide) (fun c1 => ?_) (fun c1 => ?_)
  · replace E := xq_ep c1 E
    refine J_iconst (v := 0) dX1_chanceOf_21 (by decide) ?_
    exact J_iret hq dX1_chanceOf_22 rfl wlen (Nat.le_refl _) (Nat.le_refl _) ⟨(0 : Int32), rfl, rfl, E⟩
  · replace E := xq_en c1 E
    refine J_iload_n (i := 1) (j := 1) dX1_chanceOf_4 rfl rfl ?_
    refine J_aload_n (i := 0) (j := 0) dX1_chanceOf_5 rfl rfl ?_
    refine J_get (C := RX1) (T := TX1) (Z := 6) (ci := 1) (f := 2) dX1_chanceOf_6 inG1 rfl (by decide) k138 (zh0c hs_t) rfl ?_
    refine J_icmp_ge (tgt := 21) dX1_chanceOf_9 (by decide) (fun c2 => ?_) (fun c2 => ?_)
    · replace E := xq_ep c2 E
      refine J_iconst (v := 0) dX1_chanceOf_21 (by decide) ?_
      exact J_iret hq dX1_chanceOf_22 rfl wlen (Nat.le_refl _) (Nat.le_refl _) ⟨(0 : Int32), rfl, rfl, E⟩
    · replace E := xq_en c2 E
      refine J_aload_n (i := 0) (j := 0) dX1_chanceOf_12 rfl rfl ?_
      refine J_get (C := RX1) (T := TX1) (Z := 6) (ci := 1) (f := 4) dX1_chanceOf_13 inG1 rfl (by decide) k144 (zh0c hs_t) rfl ?_
      refine J_iload_n (i := 1) (j := 1) dX1_chanceOf_16 rfl rfl ?_
      refine J_iald dX1_chanceOf_17 (zh3c hs_t) (vin (bd_lt_hi (bd_le_lo (bd_any rain) (i_nlt c1) (bd_c (v := 0) (lo := 0) (hi := 0) (by decide))) (i_nle c2) hp1) (by decide)) ?_
      refine J_topi (fun v3 qv3 => ?_)
      replace E := xq_le qv3 E
      refine J_goto (tgt := 22) dX1_chanceOf_18 (by decide) ?_
      exact J_iret hq dX1_chanceOf_22 rfl wlen (Nat.le_refl _) (Nat.le_refl _) ⟨v3, rfl, rfl, E⟩
set_option maxRecDepth 100000 in
noncomputable def Fx_H_chancesX_L4 (t : Nat) (u : Nat → Nat → Int32) (g : Nat → Nat → Int64) (n_ : Nat) : (Int32) → (Int32) → Int32 := Nat.rec (motive := fun _ => (Int32) → (Int32) → Int32) (fun _ _ => default) (fun n_ ih_ w26 w27 => if (u t 2) ≤ w27 then (w26) else (xq_lt (Fx_H_chanceOfX w27 t u g) fun v44 => ih_ (w26 + v44) (w27 + 1))) n_
set_option maxRecDepth 100000 in
theorem Fx_H_chancesX_L4_s {t : Nat} {u : Nat → Nat → Int32} {g : Nat → Nat → Int64} {w26 : Int32} {w27 : Int32} {n_ : Nat} : Fx_H_chancesX_L4 t u g (n_ + 1) w26 w27 = if (u t 2) ≤ w27 then (w26) else (xq_lt (Fx_H_chanceOfX w27 t u g) fun v44 => (Fx_H_chancesX_L4 t u g n_) (w26 + v44) (w27 + 1)) := rfl
set_option maxRecDepth 100000 in
noncomputable def Fx_H_chancesX (t : Nat) (u : Nat → Nat → Int32) (g : Nat → Nat → Int64) : Int32 := Fx_H_chancesX_L4 t u g ((4 - (0 : Int32).toInt).toNat + 1) (0 : Int32) (0 : Int32)
set_option maxHeartbeats 4000000 in
set_option maxRecDepth 100000 in
theorem c_H_chancesX {d : Nat} {u : Nat → Nat → Int32} {g : Nat → Nat → Int64} {ex : List MC} {t : Nat} (hd : 1 ≤ d) (hs_t : t ∈ hl) (hp0 : Bd 0 9 (u t 0)) (hp1 : Bd 0 4 (u t 2)) : CT con0 d 0 0 yX1_chancesTogether cX1_chancesTogether 3 (some .int) [.ref t] (Wd u g ex) (fun r h2 => ∃ (z : Int32), r = some (.int z) ∧ h2 = Wd u g ex ∧ z = Fx_H_chancesX t u g) := by
  refine CT_of (by decide) (Nat.le_of_ble_eq_true rfl) (fun x hq => ?_)
  show J x yX1_chancesTogether cX1_chancesTogether 3 (some .int) d 0 0 (Wd u g ex).length 0 [(0, .ref t)] [] (Wd u g ex) 0 0
  have E : Fx_H_chancesX t u g = Fx_H_chancesX t u g := rfl
  refine J_iconst (v := 0) dX1_chancesTogether_0 (by decide) ?_
  refine J_istore_n (i := 1) (lw := [(1, .int 0), (0, .ref t)]) dX1_chancesTogether_1 rfl (by decide) rfl ?_
  refine J_iconst (v := 0) dX1_chancesTogether_2 (by decide) ?_
  refine J_istore_n (i := 2) (lw := [(2, .int 0), (1, .int 0), (0, .ref t)]) dX1_chancesTogether_3 rfl (by decide) rfl ?_
  have lp35 : ∀ (n36 : Nat) (w26 : Int32) (w27 : Int32), Bd 0 4 w27 → (4 - w27.toInt).toNat < n36 → Fx_H_chancesX_L4 t u g n36 w26 w27 = Fx_H_chancesX t u g → J x yX1_chancesTogether cX1_chancesTogether 3 (some .int) d 0 0 (Wd u g ex).length 4 [(0, .ref t), (1, .int w26), (2, .int w27)] [] (Wd u g ex) 0 0 := by
    intro n36
    induction n36 with
    | zero => intro w26 w27 bw27 hm38 _; exact absurd hm38 (Nat.not_lt_zero _)
    | succ n36 ih37 =>
      intro w26 w27 bw27 hm38 E
      replace E := Fx_H_chancesX_L4_s.symm.trans E
      refine J_iload_n (i := 2) (j := 2) dX1_chancesTogether_4 rfl rfl ?_
      refine J_aload_n (i := 0) (j := 0) dX1_chancesTogether_5 rfl rfl ?_
      refine J_get (C := RX1) (T := TX1) (Z := 6) (ci := 1) (f := 2) dX1_chancesTogether_6 inG1 rfl (by decide) k138 (zh0c hs_t) rfl ?_
      refine J_icmp_ge (tgt := 26) dX1_chancesTogether_9 (by decide) (fun c39 => ?_) (fun c39 => ?_)
      · replace E := xq_ep c39 E
        refine J_iload_n (i := 1) (j := 1) dX1_chancesTogether_26 rfl rfl ?_
        exact J_iret hq dX1_chancesTogether_27 rfl wlen (Nat.le_refl _) (Nat.le_refl _) ⟨w26, rfl, rfl, E⟩
      · replace E := xq_en c39 E
        refine J_iload_n (i := 1) (j := 1) dX1_chancesTogether_12 rfl rfl ?_
        refine J_aload_n (i := 0) (j := 0) dX1_chancesTogether_13 rfl rfl ?_
        refine J_iload_n (i := 2) (j := 2) dX1_chancesTogether_14 rfl rfl ?_
        refine J_callV (As := [.int w27]) (rest := [.int w26]) dX1_chancesTogether_15 (c_H_chanceOfX (d := 0) (u := u) (g := g) (ex := ex) (rain := w27) (t := t) (by decide) hs_t hp0 (bd_w (l := 0) (h := 4) (bd_lt_lo hp1 (i_nle c39) bw27) (by decide))) hq.n k672 k673 k674 (zh0c hs_t) rfl rfl k89 k675 np_X1_chanceOf (Nat.le_trans (by decide) hd) (by decide) (Nat.le_refl _) (Nat.le_refl _) wlen rfl (Nat.le_of_ble_eq_true rfl) (fun r_ h_ p43 => ?_)
        obtain ⟨v44, rfl, rfl, hx45⟩ := p43
        replace E := xq_le hx45 E
        refine J_iadd dX1_chancesTogether_18 ?_
        refine J_istore_n (i := 1) (lw := [(1, .int (w26 + v44)), (0, .ref t), (2, .int w27)]) dX1_chancesTogether_19 rfl (by decide) rfl ?_
        refine J_iinc (i := 2) (j := 2) (v := (w27 + 1)) (lw := [(2, .int (w27 + 1)), (1, .int (w26 + v44)), (0, .ref t)]) dX1_chancesTogether_20 rfl rfl (by decide) rfl ?_
        refine J_goto (tgt := 4) dX1_chancesTogether_23 (by decide) ?_
        refine J_lv [2, 1, 0] rfl ?_
        exact ih37 (w26 + v44) (w27 + 1) (bd_w (l := 0) (h := 4) (bd_add (l := 1) (h := 4) (bd_lt_hi bw27 (i_nle c39) hp1) (bd_c (v := 1) (lo := 1) (hi := 1) (by decide)) (by decide)) (by decide)) (mu_up 1 bw27 rfl (by decide) (bd_w (l := 1) (h := 4) (bd_add (l := 1) (h := 4) (bd_lt_hi bw27 (i_nle c39) hp1) (bd_c (v := 1) (lo := 1) (hi := 1) (by decide)) (by decide)) (by decide)) hm38) E
  refine J_lv [2, 1, 0] rfl ?_
  exact lp35 ((4 - (0 : Int32).toInt).toNat + 1) (0 : Int32) (0 : Int32) (bd_w (l := 0) (h := 4) (bd_c (v := 0) (lo := 0) (hi := 0) (by decide)) (by decide)) (Nat.lt_succ_self _) E
set_option maxRecDepth 100000 in
noncomputable def Fx_Rd_takeForHillX (line : Int32) (count : Int32) (u : Nat → Nat → Int32) (g : Nat → Nat → Int64) : (Nat → Nat → Int32) := if line = (0 : Int32) then (xq_c2 (Fx_H_addPond32X (u 41 0) (u 41 1) (u 41 2) u g) fun t27 u28 => u28) else (if line = (11 : Int32) then (xq_c2 (Fx_H_addRainX (u 41 0) (u 41 1) 32 u g) fun t20 u21 => u21) else (if line < (12 : Int32) then (xq_lt ((sAr 1).getD line.toNatClampNeg 0) fun v4 => xq_lt (Fx_H_putBX (u 41 0) v4 (u 41 1) 32 u g) fun u6 => if count = (3 : Int32) then (xq_lt ((sAr 1).getD line.toNatClampNeg 0) fun v11 => xq_lt (Fx_H_putBX (u 41 0) (v11 + 1) (u 41 2) 32 u6 g) fun u13 => u13) else (u6)) else (xq_lt (ms u 36 ((line - 12).toNatClampNeg) (u 41 0)) fun u17 => u17)))
set_option maxHeartbeats 4000000 in
set_option maxRecDepth 100000 in
theorem c_Rd_takeForHillX {d : Nat} {u : Nat → Nat → Int32} {g : Nat → Nat → Int64} {ex : List MC} {line : Int32} {count : Int32} (hd : 3 ≤ d) (hp0 : Bd 0 14 line) (hp1 : Bd 0 3 count) (hp2 : Bd 0 9 (u 32 0)) (hp3 : Bd 0 4 (u 32 2)) (hp4 : AB u 33 (-1) 999) (hp5 : AB u 41 0 999) : CT con0 d 0 0 yX3_takeForHill cX3_takeForHill 3 none [.ref 29, .int line, .int count] (Wd u g ex) (fun r h2 => ∃ (u2 : Nat → Nat → Int32), r = none ∧ h2 = Wd u2 g ex ∧ Bd 0 9 (u2 32 0) ∧ Bd 0 4 (u2 32 2) ∧ AB u2 33 (-1) 999 ∧ u2 = Fx_Rd_takeForHillX line count u g ∧ (∀ c, nin c [(32, 36)] = true → u2 c = u c) ∧ (∀ j, j ≠ 0 → j ≠ 2 → u2 32 j = u 32 j)) := by
  refine CT_of (by decide) (Nat.le_of_ble_eq_true rfl) (fun x hq => ?_)
  show J x yX3_takeForHill cX3_takeForHill 3 none d 0 0 (Wd u g ex).length 0 [(0, .ref 29), (1, .int line), (2, .int count)] [] (Wd u g ex) 0 0
  have E : Fx_Rd_takeForHillX line count u g = Fx_Rd_takeForHillX line count u g := rfl
  refine J_iload_n (i := 1) (j := 1) dX3_takeForHill_0 rfl rfl ?_
  refine J_if_ne (tgt := 33) dX3_takeForHill_1 (by decide) (fun c1 => ?_) (fun c1 => ?_)
  · replace E := xq_en c1 E
    refine J_iload_n (i := 1) (j := 1) dX3_takeForHill_33 rfl rfl ?_
    refine J_bipush (v := 11) dX3_takeForHill_34 (by decide) ?_
    refine J_icmp_ne (tgt := 62) dX3_takeForHill_36 (by decide) (fun c2 => ?_) (fun c2 => ?_)
    · replace E := xq_en c2 E
      refine J_iload_n (i := 1) (j := 1) dX3_takeForHill_62 rfl rfl ?_
      refine J_bipush (v := 12) dX3_takeForHill_63 (by decide) ?_
      refine J_icmp_lt (tgt := 89) dX3_takeForHill_65 (by decide) (fun c3 => ?_) (fun c3 => ?_)
      · replace E := xq_ep c3 E
        refine J_aload_n (i := 0) (j := 0) dX3_takeForHill_89 rfl rfl ?_
        refine J_get (C := RX3) (T := TX3) (Z := 7) (ci := 3) (f := 1) dX3_takeForHill_90 inG3 rfl (by decide) k261 wc_29 rfl ?_
        refine J_aload_n (i := 0) (j := 0) dX3_takeForHill_93 rfl rfl ?_
        refine J_get (C := RX3) (T := TX3) (Z := 7) (ci := 3) (f := 3) dX3_takeForHill_94 inG3 rfl (by decide) k265 wc_29 rfl ?_
        refine J_iconst (v := 0) dX3_takeForHill_97 (by decide) ?_
        refine J_iald dX3_takeForHill_98 wc_41 (vin (bd_c (v := 0) (lo := 0) (hi := 0) (by decide)) (by decide)) ?_
        refine J_ci (v := u 41 0) rfl ?_
        refine J_gets (i := 1) dX3_takeForHill_99 (by decide) rfl k657 ?_
        refine J_iload_n (i := 1) (j := 1) dX3_takeForHill_102 rfl rfl ?_
        refine J_sald (i := 1) dX3_takeForHill_103 (by decide) (vin (bd_lt_hi (bd_ne_lo hp0 c1 (by decide)) c3 (bd_c (v := 12) (lo := 12) (hi := 12) (by decide))) (by decide)) ?_
        refine J_topi (fun v4 qv4 => ?_)
        replace E := xq_le qv4 E
        refine J_aload_n (i := 0) (j := 0) dX3_takeForHill_104 rfl rfl ?_
        refine J_get (C := RX3) (T := TX3) (Z := 7) (ci := 3) (f := 3) dX3_takeForHill_105 inG3 rfl (by decide) k265 wc_29 rfl ?_
        refine J_iconst (v := 1) dX3_takeForHill_108 (by decide) ?_
        refine J_iald dX3_takeForHill_109 wc_41 (vin (bd_c (v := 1) (lo := 1) (hi := 1) (by decide)) (by decide)) ?_
        refine J_ci (v := u 41 1) rfl ?_
        refine J_callV (As := [.int (u 41 0), .int v4, .int (u 41 1)]) (rest := []) dX3_takeForHill_110 (c_H_putBX (d := 0) (u := u) (g := g) (ex := ex) (pond := u 41 0) (column := v4) (value := u 41 1) (t := 32) (by decide) (by decide) hp4 (bd_w (l := (-1)) (h := 999) (hp5 1) (by decide))) hq.n k659 k650 k651 wc_32 rfl rfl k89 k652 np_X1_put (Nat.le_trans (by decide) hd) (by decide) (Nat.le_refl _) (Nat.le_refl _) wlen rfl (Nat.le_of_ble_eq_true rfl) (fun r_ h_ p5 => ?_)
        obtain ⟨u6, rfl, rfl, h7, hx8, fr9⟩ := p5
        replace E := xq_le hx8 E
        refine J_iload_n (i := 2) (j := 2) dX3_takeForHill_113 rfl rfl ?_
        refine J_iconst (v := 3) dX3_takeForHill_114 (by decide) ?_
        refine J_icmp_ne (tgt := 144) dX3_takeForHill_115 (by decide) (fun c10 => ?_) (fun c10 => ?_)
        · replace E := xq_en c10 E
          exact J_vret hq dX3_takeForHill_144 rfl wlen (Nat.le_refl _) (Nat.le_refl _) ⟨u6, rfl, rfl, (bd_r (congrFun (fr9 32 (Nat.ne_of_beq_eq_false rfl)) 0) hp2), (bd_r (congrFun (fr9 32 (Nat.ne_of_beq_eq_false rfl)) 2) hp3), h7, E, (fun c k_ => (fr9 c (nin_ne (a := 33) k_ rfl))), (fun j k0_ k2_ => (congrFun (fr9 32 (Nat.ne_of_beq_eq_false rfl)) j))⟩
        · replace E := xq_ep c10 E
          refine J_aload_n (i := 0) (j := 0) dX3_takeForHill_118 rfl rfl ?_
          refine J_get (C := RX3) (T := TX3) (Z := 7) (ci := 3) (f := 1) dX3_takeForHill_119 inG3 rfl (by decide) k261 wc_29 rfl ?_
          refine J_aload_n (i := 0) (j := 0) dX3_takeForHill_122 rfl rfl ?_
          refine J_get (C := RX3) (T := TX3) (Z := 7) (ci := 3) (f := 3) dX3_takeForHill_123 inG3 rfl (by decide) k265 wc_29 rfl ?_
          refine J_iconst (v := 0) dX3_takeForHill_126 (by decide) ?_
          refine J_iald dX3_takeForHill_127 wc_41 (vin (bd_c (v := 0) (lo := 0) (hi := 0) (by decide)) (by decide)) ?_
          refine J_ci (v := u 41 0) (congrFun (fr9 41 (Nat.ne_of_beq_eq_false rfl)) 0) ?_
          refine J_gets (i := 1) dX3_takeForHill_128 (by decide) rfl k657 ?_
          refine J_iload_n (i := 1) (j := 1) dX3_takeForHill_131 rfl rfl ?_
          refine J_sald (i := 1) dX3_takeForHill_132 (by decide) (vin (bd_lt_hi (bd_ne_lo hp0 c1 (by decide)) c3 (bd_c (v := 12) (lo := 12) (hi := 12) (by decide))) (by decide)) ?_
          refine J_topi (fun v11 qv11 => ?_)
          replace E := xq_le qv11 E
          refine J_iconst (v := 1) dX3_takeForHill_133 (by decide) ?_
          refine J_iadd dX3_takeForHill_134 ?_
          refine J_aload_n (i := 0) (j := 0) dX3_takeForHill_135 rfl rfl ?_
          refine J_get (C := RX3) (T := TX3) (Z := 7) (ci := 3) (f := 3) dX3_takeForHill_136 inG3 rfl (by decide) k265 wc_29 rfl ?_
          refine J_iconst (v := 2) dX3_takeForHill_139 (by decide) ?_
          refine J_iald dX3_takeForHill_140 wc_41 (vin (bd_c (v := 2) (lo := 2) (hi := 2) (by decide)) (by decide)) ?_
          refine J_ci (v := u 41 2) (congrFun (fr9 41 (Nat.ne_of_beq_eq_false rfl)) 2) ?_
          refine J_callV (As := [.int (u 41 0), .int (v11 + 1), .int (u 41 2)]) (rest := []) dX3_takeForHill_141 (c_H_putBX (d := 0) (u := u6) (g := g) (ex := ex) (pond := u 41 0) (column := (v11 + 1)) (value := u 41 2) (t := 32) (by decide) (by decide) h7 (bd_w (l := (-1)) (h := 999) (hp5 2) (by decide))) hq.n k659 k650 k651 wc_32 rfl rfl k89 k652 np_X1_put (Nat.le_trans (by decide) hd) (by decide) (Nat.le_refl _) (Nat.le_refl _) wlen rfl (Nat.le_of_ble_eq_true rfl) (fun r_ h_ p12 => ?_)
          obtain ⟨u13, rfl, rfl, h14, hx15, fr16⟩ := p12
          replace E := xq_le hx15 E
          exact J_vret hq dX3_takeForHill_144 rfl wlen (Nat.le_refl _) (Nat.le_refl _) ⟨u13, rfl, rfl, (bd_r ((congrFun (fr16 32 (Nat.ne_of_beq_eq_false rfl)) 0).trans (congrFun (fr9 32 (Nat.ne_of_beq_eq_false rfl)) 0)) hp2), (bd_r ((congrFun (fr16 32 (Nat.ne_of_beq_eq_false rfl)) 2).trans (congrFun (fr9 32 (Nat.ne_of_beq_eq_false rfl)) 2)) hp3), h14, E, (fun c k_ => ((fr16 c (nin_ne (a := 33) k_ rfl)).trans (fr9 c (nin_ne (a := 33) k_ rfl)))), (fun j k0_ k2_ => ((congrFun (fr16 32 (Nat.ne_of_beq_eq_false rfl)) j).trans (congrFun (fr9 32 (Nat.ne_of_beq_eq_false rfl)) j)))⟩
      · replace E := xq_en c3 E
        refine J_aload_n (i := 0) (j := 0) dX3_takeForHill_68 rfl rfl ?_
        refine J_get (C := RX3) (T := TX3) (Z := 7) (ci := 3) (f := 1) dX3_takeForHill_69 inG3 rfl (by decide) k261 wc_29 rfl ?_
        refine J_getN (C := RX1) (T := TX1) (Z := 6) (ci := 1) (f := 5) dX3_takeForHill_72 inG1 rfl (by decide) k147 wc_32 rfl ?_
        refine J_iload_n (i := 1) (j := 1) dX3_takeForHill_75 rfl rfl ?_
        refine J_bipush (v := 12) dX3_takeForHill_76 (by decide) ?_
        refine J_isub dX3_takeForHill_78 ?_
        refine J_aload_n (i := 0) (j := 0) dX3_takeForHill_79 rfl rfl ?_
        refine J_get (C := RX3) (T := TX3) (Z := 7) (ci := 3) (f := 3) dX3_takeForHill_80 inG3 rfl (by decide) k265 wc_29 rfl ?_
        refine J_iconst (v := 0) dX3_takeForHill_83 (by decide) ?_
        refine J_iald dX3_takeForHill_84 wc_41 (vin (bd_c (v := 0) (lo := 0) (hi := 0) (by decide)) (by decide)) ?_
        refine J_ci (v := u 41 0) rfl ?_
        obtain ⟨u17, e18⟩ : ∃ z, z = ms u 36 ((line - 12).toNatClampNeg) (u 41 0) := ⟨_, rfl⟩
        refine J_iast dX3_takeForHill_85 wc_36 (vin (bd_sub (l := 0) (h := 2) (bd_le_lo (bd_ne_lo hp0 c1 (by decide)) (i_nlt c3) (bd_c (v := 12) (lo := 12) (hi := 12) (by decide))) (bd_c (v := 12) (lo := 12) (hi := 12) (by decide)) (by decide)) (by decide)) (ws e18 wk_36 rfl) ?_
        replace E := xq_le e18 E
        refine J_goto (tgt := 144) dX3_takeForHill_86 (by decide) ?_
        exact J_vret hq dX3_takeForHill_144 rfl wlen (Nat.le_refl _) (Nat.le_refl _) ⟨u17, rfl, rfl, (bd_r (congrFun (ms_c e18 (Nat.ne_of_beq_eq_false rfl)) 0) hp2), (bd_r (congrFun (ms_c e18 (Nat.ne_of_beq_eq_false rfl)) 2) hp3), (ab_c (ms_c e18 (Nat.ne_of_beq_eq_false rfl)) hp4), E, (fun c k_ => (ms_c e18 (nin_ne (a := 36) k_ rfl))), (fun j k0_ k2_ => (congrFun (ms_c e18 (Nat.ne_of_beq_eq_false rfl)) j))⟩
    · replace E := xq_ep c2 E
      refine J_aload_n (i := 0) (j := 0) dX3_takeForHill_39 rfl rfl ?_
      refine J_get (C := RX3) (T := TX3) (Z := 7) (ci := 3) (f := 1) dX3_takeForHill_40 inG3 rfl (by decide) k261 wc_29 rfl ?_
      refine J_aload_n (i := 0) (j := 0) dX3_takeForHill_43 rfl rfl ?_
      refine J_get (C := RX3) (T := TX3) (Z := 7) (ci := 3) (f := 3) dX3_takeForHill_44 inG3 rfl (by decide) k265 wc_29 rfl ?_
      refine J_iconst (v := 0) dX3_takeForHill_47 (by decide) ?_
      refine J_iald dX3_takeForHill_48 wc_41 (vin (bd_c (v := 0) (lo := 0) (hi := 0) (by decide)) (by decide)) ?_
      refine J_ci (v := u 41 0) rfl ?_
      refine J_aload_n (i := 0) (j := 0) dX3_takeForHill_49 rfl rfl ?_
      refine J_get (C := RX3) (T := TX3) (Z := 7) (ci := 3) (f := 3) dX3_takeForHill_50 inG3 rfl (by decide) k265 wc_29 rfl ?_
      refine J_iconst (v := 1) dX3_takeForHill_53 (by decide) ?_
      refine J_iald dX3_takeForHill_54 wc_41 (vin (bd_c (v := 1) (lo := 1) (hi := 1) (by decide)) (by decide)) ?_
      refine J_ci (v := u 41 1) rfl ?_
      refine J_callV (As := [.int (u 41 0), .int (u 41 1)]) (rest := []) dX3_takeForHill_55 (c_H_addRainX (d := 0) (u := u) (g := g) (ex := ex) (steps := u 41 0) (chance := u 41 1) (t := 32) (by decide) (by decide) hp2 hp3) hq.n k653 k654 k655 wc_32 rfl rfl k89 k656 np_X1_addRain (Nat.le_trans (by decide) hd) (by decide) (Nat.le_refl _) (Nat.le_refl _) wlen rfl (Nat.le_of_ble_eq_true rfl) (fun r_ h_ p19 => ?_)
      obtain ⟨t20, u21, rfl, rfl, h22, hx23, fr24, fc25⟩ := p19
      replace E := xq_e2 hx23 E
      refine J_pop dX3_takeForHill_58 rfl ?_
      refine J_goto (tgt := 144) dX3_takeForHill_59 (by decide) ?_
      exact J_vret hq dX3_takeForHill_144 rfl wlen (Nat.le_refl _) (Nat.le_refl _) ⟨u21, rfl, rfl, (bd_r (fc25 0 (Nat.ne_of_beq_eq_false rfl)) hp2), h22, (ab_c (fr24 33 (Nat.ne_of_beq_eq_false rfl) (Nat.ne_of_beq_eq_false rfl) (Nat.ne_of_beq_eq_false rfl)) hp4), E, (fun c k_ => (fr24 c (nin_ne (a := 32) k_ rfl) (nin_ne (a := 34) k_ rfl) (nin_ne (a := 35) k_ rfl))), (fun j k0_ k2_ => (fc25 j k2_))⟩
  · replace E := xq_ep c1 E
    refine J_aload_n (i := 0) (j := 0) dX3_takeForHill_4 rfl rfl ?_
    refine J_get (C := RX3) (T := TX3) (Z := 7) (ci := 3) (f := 1) dX3_takeForHill_5 inG3 rfl (by decide) k261 wc_29 rfl ?_
    refine J_aload_n (i := 0) (j := 0) dX3_takeForHill_8 rfl rfl ?_
    refine J_get (C := RX3) (T := TX3) (Z := 7) (ci := 3) (f := 3) dX3_takeForHill_9 inG3 rfl (by decide) k265 wc_29 rfl ?_
    refine J_iconst (v := 0) dX3_takeForHill_12 (by decide) ?_
    refine J_iald dX3_takeForHill_13 wc_41 (vin (bd_c (v := 0) (lo := 0) (hi := 0) (by decide)) (by decide)) ?_
    refine J_ci (v := u 41 0) rfl ?_
    refine J_aload_n (i := 0) (j := 0) dX3_takeForHill_14 rfl rfl ?_
    refine J_get (C := RX3) (T := TX3) (Z := 7) (ci := 3) (f := 3) dX3_takeForHill_15 inG3 rfl (by decide) k265 wc_29 rfl ?_
    refine J_iconst (v := 1) dX3_takeForHill_18 (by decide) ?_
    refine J_iald dX3_takeForHill_19 wc_41 (vin (bd_c (v := 1) (lo := 1) (hi := 1) (by decide)) (by decide)) ?_
    refine J_ci (v := u 41 1) rfl ?_
    refine J_aload_n (i := 0) (j := 0) dX3_takeForHill_20 rfl rfl ?_
    refine J_get (C := RX3) (T := TX3) (Z := 7) (ci := 3) (f := 3) dX3_takeForHill_21 inG3 rfl (by decide) k265 wc_29 rfl ?_
    refine J_iconst (v := 2) dX3_takeForHill_24 (by decide) ?_
    refine J_iald dX3_takeForHill_25 wc_41 (vin (bd_c (v := 2) (lo := 2) (hi := 2) (by decide)) (by decide)) ?_
    refine J_ci (v := u 41 2) rfl ?_
    refine J_callV (As := [.int (u 41 0), .int (u 41 1), .int (u 41 2)]) (rest := []) dX3_takeForHill_26 (c_H_addPond32X (d := 2) (u := u) (g := g) (ex := ex) (holds := u 41 0) (level := u 41 1) (take := u 41 2)  (by decide) hp2 hp3 hp4 (bd_w (l := (-1)) (h := 999) (hp5 0) (by decide)) (bd_w (l := (-1)) (h := 999) (hp5 1) (by decide)) (bd_w (l := (-1)) (h := 999) (hp5 2) (by decide))) hq.n k639 k640 k641 wc_32 rfl rfl k89 k642 np_X1_addPond (Nat.le_trans (by decide) hd) (by decide) (Nat.le_refl _) (Nat.le_refl _) wlen rfl (Nat.le_of_ble_eq_true rfl) (fun r_ h_ p26 => ?_)
    obtain ⟨t27, u28, rfl, rfl, h29, h30, hx31, fr32, fc33⟩ := p26
    replace E := xq_e2 hx31 E
    refine J_pop dX3_takeForHill_29 rfl ?_
    refine J_goto (tgt := 144) dX3_takeForHill_30 (by decide) ?_
    exact J_vret hq dX3_takeForHill_144 rfl wlen (Nat.le_refl _) (Nat.le_refl _) ⟨u28, rfl, rfl, h29, (bd_r (fc33 2 (Nat.ne_of_beq_eq_false rfl)) hp3), h30, E, (fun c k_ => (fr32 c (nin_ne (a := 32) k_ rfl) (nin_ne (a := 33) k_ rfl))), (fun j k0_ k2_ => (fc33 j k0_))⟩
set_option maxRecDepth 100000 in
noncomputable def Fx_W_addKX (kind : Int32) (pond : Int32) (much : Int32) (u : Nat → Nat → Int32) (g : Nat → Nat → Int64) : Bool × (Nat → Nat → Int32) := if (u 37 0) < (12 : Int32) then (xq_lt (ms u 38 ((u 37 0).toNatClampNeg) kind) fun u2 => xq_lt (ms u2 39 ((u 37 0).toNatClampNeg) pond) fun u4 => xq_lt (ms u4 40 ((u 37 0).toNatClampNeg) much) fun u6 => xq_lt (ms u6 37 0 ((u 37 0) + 1)) fun u8 => (true, u8)) else ((false, u))
set_option maxHeartbeats 4000000 in
set_option maxRecDepth 100000 in
theorem c_W_addKX {d : Nat} {u : Nat → Nat → Int32} {g : Nat → Nat → Int64} {ex : List MC} {kind : Int32} {pond : Int32} {much : Int32} (hd : 0 ≤ d) (hp0 : Bd 0 12 (u 37 0)) (hp1 : (KM u 37)) (hp2 : (kind = 4 ∨ Bd 0 999 much)) : CT con0 d 0 0 yX8_add cX8_add 4 (some .boolean) [.ref 37, .int kind, .int pond, .int much] (Wd u g ex) (fun r h2 => ∃ (z : Bool) (u2 : Nat → Nat → Int32), r = some (.int (bI z)) ∧ h2 = Wd u2 g ex ∧ Bd 0 12 (u2 37 0) ∧ (KM u2 37) ∧ (z, u2) = Fx_W_addKX kind pond much u g ∧ (∀ c, nin c [(37, 40)] = true → u2 c = u c) ∧ (∀ j, j ≠ 0 → u2 37 j = u 37 j)) := by
  refine CT_of (by decide) (Nat.le_of_ble_eq_true rfl) (fun x hq => ?_)
  show J x yX8_add cX8_add 4 (some .boolean) d 0 0 (Wd u g ex).length 0 [(0, .ref 37), (1, .int kind), (2, .int pond), (3, .int much)] [] (Wd u g ex) 0 0
  have E : Fx_W_addKX kind pond much u g = Fx_W_addKX kind pond much u g := rfl
  refine J_aload_n (i := 0) (j := 0) dX8_add_0 rfl rfl ?_
  refine J_get (C := RX8) (T := TX8) (Z := 4) (ci := 8) (f := 0) dX8_add_1 inG8 rfl (by decide) k168 wc_37 rfl ?_
  refine J_bipush (v := 12) dX8_add_4 (by decide) ?_
  refine J_icmp_lt (tgt := 11) dX8_add_6 (by decide) (fun c1 => ?_) (fun c1 => ?_)
  · replace E := xq_ep c1 E
    refine J_aload_n (i := 0) (j := 0) dX8_add_11 rfl rfl ?_
    refine J_get (C := RX8) (T := TX8) (Z := 4) (ci := 8) (f := 1) dX8_add_12 inG8 rfl (by decide) k171 wc_37 rfl ?_
    refine J_aload_n (i := 0) (j := 0) dX8_add_15 rfl rfl ?_
    refine J_get (C := RX8) (T := TX8) (Z := 4) (ci := 8) (f := 0) dX8_add_16 inG8 rfl (by decide) k168 wc_37 rfl ?_
    refine J_iload_n (i := 1) (j := 1) dX8_add_19 rfl rfl ?_
    obtain ⟨u2, e3⟩ : ∃ z, z = ms u 38 ((u 37 0).toNatClampNeg) kind := ⟨_, rfl⟩
    refine J_iast dX8_add_20 wc_38 (vin (bd_lt_hi hp0 c1 (bd_c (v := 12) (lo := 12) (hi := 12) (by decide))) (by decide)) (ws e3 wk_38 rfl) ?_
    replace E := xq_le e3 E
    refine J_aload_n (i := 0) (j := 0) dX8_add_21 rfl rfl ?_
    refine J_get (C := RX8) (T := TX8) (Z := 4) (ci := 8) (f := 2) dX8_add_22 inG8 rfl (by decide) k173 wc_37 rfl ?_
    refine J_aload_n (i := 0) (j := 0) dX8_add_25 rfl rfl ?_
    refine J_get (C := RX8) (T := TX8) (Z := 4) (ci := 8) (f := 0) dX8_add_26 inG8 rfl (by decide) k168 wc_37 rfl ?_
    refine J_ci (v := u 37 0) (congrFun (ms_c e3 (Nat.ne_of_beq_eq_false rfl)) 0) ?_
    refine J_iload_n (i := 2) (j := 2) dX8_add_29 rfl rfl ?_
    obtain ⟨u4, e5⟩ : ∃ z, z = ms u2 39 ((u 37 0).toNatClampNeg) pond := ⟨_, rfl⟩
    refine J_iast dX8_add_30 wc_39 (vin (bd_lt_hi hp0 c1 (bd_c (v := 12) (lo := 12) (hi := 12) (by decide))) (by decide)) (ws e5 wk_39 rfl) ?_
    replace E := xq_le e5 E
    refine J_aload_n (i := 0) (j := 0) dX8_add_31 rfl rfl ?_
    refine J_get (C := RX8) (T := TX8) (Z := 4) (ci := 8) (f := 3) dX8_add_32 inG8 rfl (by decide) k175 wc_37 rfl ?_
    refine J_aload_n (i := 0) (j := 0) dX8_add_35 rfl rfl ?_
    refine J_get (C := RX8) (T := TX8) (Z := 4) (ci := 8) (f := 0) dX8_add_36 inG8 rfl (by decide) k168 wc_37 rfl ?_
    refine J_ci (v := u 37 0) ((congrFun (ms_c e5 (Nat.ne_of_beq_eq_false rfl)) 0).trans (congrFun (ms_c e3 (Nat.ne_of_beq_eq_false rfl)) 0)) ?_
    refine J_iload_n (i := 3) (j := 3) dX8_add_39 rfl rfl ?_
    obtain ⟨u6, e7⟩ : ∃ z, z = ms u4 40 ((u 37 0).toNatClampNeg) much := ⟨_, rfl⟩
    refine J_iast dX8_add_40 wc_40 (vin (bd_lt_hi hp0 c1 (bd_c (v := 12) (lo := 12) (hi := 12) (by decide))) (by decide)) (ws e7 wk_40 rfl) ?_
    replace E := xq_le e7 E
    refine J_aload_n (i := 0) (j := 0) dX8_add_41 rfl rfl ?_
    refine J_dup dX8_add_42 rfl ?_
    refine J_get (C := RX8) (T := TX8) (Z := 4) (ci := 8) (f := 0) dX8_add_43 inG8 rfl (by decide) k168 wc_37 rfl ?_
    refine J_ci (v := u 37 0) ((congrFun (ms_c e7 (Nat.ne_of_beq_eq_false rfl)) 0).trans ((congrFun (ms_c e5 (Nat.ne_of_beq_eq_false rfl)) 0).trans (congrFun (ms_c e3 (Nat.ne_of_beq_eq_false rfl)) 0))) ?_
    refine J_iconst (v := 1) dX8_add_46 (by decide) ?_
    refine J_iadd dX8_add_47 ?_
    obtain ⟨u8, e9⟩ : ∃ z, z = ms u6 37 0 ((u 37 0) + 1) := ⟨_, rfl⟩
    refine J_put (C := RX8) (T := TX8) (Z := 4) (ci := 8) (f := 0) (ty0 := tyX8) dX8_add_48 inG8 rfl tyX8_ok nmX8 (by decide) k168 rfl rfl wc_37 (Nat.le_of_ble_eq_true rfl) (fun _ _ => ⟨rfl, rfl⟩) (ws e9 wk_37 rfl) ?_
    replace E := xq_le e9 E
    refine J_iconst (v := 1) dX8_add_51 (by decide) ?_
    exact J_zret hq dX8_add_52 rfl rfl wlen (Nat.le_refl _) (Nat.le_refl _) ⟨true, u8, rfl, rfl, (bd_r (ms_e e9) (bd_w (l := 0) (h := 12) (bd_add (l := 1) (h := 12) (bd_lt_hi hp0 c1 (bd_c (v := 12) (lo := 12) (hi := 12) (by decide))) (bd_c (v := 1) (lo := 1) (hi := 1) (by decide)) (by decide)) (by decide))), (km_s (u := u) (w := 37) (show u8 38 = upd (u 38) ((u 37 0).toNatClampNeg) kind by rw [((ms_c e9 (Nat.ne_of_beq_eq_false rfl)).trans ((ms_c e7 (Nat.ne_of_beq_eq_false rfl)).trans (ms_c e5 (Nat.ne_of_beq_eq_false rfl)))), ms_a e3]) (show u8 40 = upd (u 40) ((u 37 0).toNatClampNeg) much by rw [(ms_c e9 (Nat.ne_of_beq_eq_false rfl)), ms_a e7, ((ms_c e5 (Nat.ne_of_beq_eq_false rfl)).trans (ms_c e3 (Nat.ne_of_beq_eq_false rfl)))]) hp1 hp2), E, (fun c k_ => ((ms_c e9 (nin_ne (a := 37) k_ rfl)).trans ((ms_c e7 (nin_ne (a := 40) k_ rfl)).trans ((ms_c e5 (nin_ne (a := 39) k_ rfl)).trans (ms_c e3 (nin_ne (a := 38) k_ rfl)))))), (fun j k0_ => ((ms_i e9 k0_).trans ((congrFun (ms_c e7 (Nat.ne_of_beq_eq_false rfl)) j).trans ((congrFun (ms_c e5 (Nat.ne_of_beq_eq_false rfl)) j).trans (congrFun (ms_c e3 (Nat.ne_of_beq_eq_false rfl)) j)))))⟩
  · replace E := xq_en c1 E
    refine J_iconst (v := 0) dX8_add_9 (by decide) ?_
    exact J_zret hq dX8_add_10 rfl rfl wlen (Nat.le_refl _) (Nat.le_refl _) ⟨false, u, rfl, rfl, (bd_w (l := 0) (h := 12) (bd_le_lo hp0 (i_nlt c1) (bd_c (v := 12) (lo := 12) (hi := 12) (by decide))) (by decide)), hp1, E, (fun c k_ => rfl), (fun j k0_ => rfl)⟩
set_option maxRecDepth 100000 in
noncomputable def Fx_Rd_takeX_J82 (ih_lp477 : (Int32) → (Nat → Nat → Int32) → (Nat → Nat → Int32)) (w356 : Int32) (u574 : Nat → Nat → Int32) : (Nat → Nat → Int32) := ih_lp477 (w356 + 1) u574
set_option maxRecDepth 100000 in
noncomputable def Fx_Rd_takeX_L36 (sort : Int32) (line : Int32) (count : Int32) (u : Nat → Nat → Int32) (g : Nat → Nat → Int64) (n_ : Nat) : (Int32) → (Nat → Nat → Int32) → (Nat → Nat → Int32) := Nat.rec (motive := fun _ => (Int32) → (Nat → Nat → Int32) → (Nat → Nat → Int32)) (fun _ _ => default) (fun n_ ih_ w356 u357 => if count ≤ w356 then (if sort = (0 : Int32) then (xq_lt (Fx_Rd_takeForHillX line count u357 g) fun u546 => u546) else (if count ≤ (1 : Int32) then (xq_c2 (Fx_W_addKX line (u 41 0) ((-1) : Int32) u357 g) fun t530 u531 => u531) else (xq_c2 (Fx_W_addKX line (u 41 0) (u 41 1) u357 g) fun t538 u539 => u539))) else (if sort = (0 : Int32) then (xq_lt (Fx_Rd_canBeInHillX line w356 u357 g) fun t589 => if t589 = true then (Fx_Rd_takeX_J82 ih_ w356 u357) else (xq_lt (u357 42 w356.toNatClampNeg) fun v592 => xq_lt (Fx_Rd_rememberX (2 : Int32) v592 u357 g) fun u594 => Fx_Rd_takeX_J82 ih_ w356 u594)) else (xq_lt (Fx_Rd_canBeInPlanX line w356 u357 g) fun t579 => if t579 = true then (Fx_Rd_takeX_J82 ih_ w356 u357) else (xq_lt (u357 42 w356.toNatClampNeg) fun v582 => xq_lt (Fx_Rd_rememberX (2 : Int32) v582 u357 g) fun u584 => Fx_Rd_takeX_J82 ih_ w356 u584)))) n_
set_option maxRecDepth 100000 in
theorem Fx_Rd_takeX_L36_s {sort : Int32} {line : Int32} {count : Int32} {u : Nat → Nat → Int32} {g : Nat → Nat → Int64} {w356 : Int32} {u357 : Nat → Nat → Int32} {n_ : Nat} : Fx_Rd_takeX_L36 sort line count u g (n_ + 1) w356 u357 = if count ≤ w356 then (if sort = (0 : Int32) then (xq_lt (Fx_Rd_takeForHillX line count u357 g) fun u546 => u546) else (if count ≤ (1 : Int32) then (xq_c2 (Fx_W_addKX line (u 41 0) ((-1) : Int32) u357 g) fun t530 u531 => u531) else (xq_c2 (Fx_W_addKX line (u 41 0) (u 41 1) u357 g) fun t538 u539 => u539))) else (if sort = (0 : Int32) then (xq_lt (Fx_Rd_canBeInHillX line w356 u357 g) fun t589 => if t589 = true then (Fx_Rd_takeX_J82 (Fx_Rd_takeX_L36 sort line count u g n_) w356 u357) else (xq_lt (u357 42 w356.toNatClampNeg) fun v592 => xq_lt (Fx_Rd_rememberX (2 : Int32) v592 u357 g) fun u594 => Fx_Rd_takeX_J82 (Fx_Rd_takeX_L36 sort line count u g n_) w356 u594)) else (xq_lt (Fx_Rd_canBeInPlanX line w356 u357 g) fun t579 => if t579 = true then (Fx_Rd_takeX_J82 (Fx_Rd_takeX_L36 sort line count u g n_) w356 u357) else (xq_lt (u357 42 w356.toNatClampNeg) fun v582 => xq_lt (Fx_Rd_rememberX (2 : Int32) v582 u357 g) fun u584 => Fx_Rd_takeX_J82 (Fx_Rd_takeX_L36 sort line count u g n_) w356 u584))) := rfl
set_option maxRecDepth 100000 in
noncomputable def Fx_Rd_takeX_J33 (sort : Int32) (line : Int32) (count : Int32) (u : Nat → Nat → Int32) (g : Nat → Nat → Int64) (u17 : Nat → Nat → Int32) : (Nat → Nat → Int32) := Fx_Rd_takeX_L36 sort line count u g ((3 - (0 : Int32).toInt).toNat + 1) (0 : Int32) u17
set_option maxRecDepth 100000 in
noncomputable def Fx_Rd_takeX (sort : Int32) (line : Int32) (first : Int32) (count : Int32) (u : Nat → Nat → Int32) (g : Nat → Nat → Int64) : (Nat → Nat → Int32) := if sort = (0 : Int32) then (xq_lt (Fx_Rd_isFullX line u g) fun t605 => if t605 = true then (xq_lt (Fx_Rd_rememberX (3 : Int32) first u g) fun u609 => Fx_Rd_takeX_J33 sort line count u g u609) else (Fx_Rd_takeX_J33 sort line count u g u)) else (if (u 37 0) < (12 : Int32) then (Fx_Rd_takeX_J33 sort line count u g u) else (xq_lt (Fx_Rd_rememberX (3 : Int32) first u g) fun u600 => Fx_Rd_takeX_J33 sort line count u g u600))
set_option maxHeartbeats 4000000 in
set_option maxRecDepth 100000 in
theorem c_Rd_takeX {d : Nat} {u : Nat → Nat → Int32} {g : Nat → Nat → Int64} {ex : List MC} {sort : Int32} {line : Int32} {first : Int32} {count : Int32} (hd : 4 ≤ d) (hp0 : Bd 0 14 line) (hp1 : Bd 0 3 count) (hp2 : (sort = 0 ∨ Bd (-1) 4 line)) (hp3 : (sort = 0 ∨ 1 < count ∨ line = 4)) (hp4 : Bd 0 9 (u 32 0)) (hp5 : Bd 0 4 (u 32 2)) (hp6 : AB u 33 (-1) 999) (hp7 : Bd 0 12 (u 37 0)) (hp8 : (KM u 37)) (hp9 : AB u 41 0 999) : CT con0 d 0 0 yX3_take cX3_take 6 none [.ref 29, .int sort, .int line, .int first, .int count] (Wd u g ex) (fun r h2 => ∃ (u2 : Nat → Nat → Int32), r = none ∧ h2 = Wd u2 g ex ∧ Bd 0 9 (u2 32 0) ∧ Bd 0 4 (u2 32 2) ∧ AB u2 33 (-1) 999 ∧ Bd 0 12 (u2 37 0) ∧ (KM u2 37) ∧ u2 = Fx_Rd_takeX sort line first count u g ∧ (∀ c, nin c [(29, 29), (32, 40)] = true → u2 c = u c) ∧ (∀ j, j ≠ 5 → j ≠ 6 → u2 29 j = u 29 j) ∧ (∀ j, j ≠ 0 → j ≠ 2 → u2 32 j = u 32 j) ∧ (∀ j, j ≠ 0 → u2 37 j = u 37 j)) := by
  refine CT_of (by decide) (Nat.le_of_ble_eq_true rfl) (fun x hq => ?_)
  show J x yX3_take cX3_take 6 none d 0 0 (Wd u g ex).length 0 [(0, .ref 29), (1, .int sort), (2, .int line), (3, .int first), (4, .int count)] [] (Wd u g ex) 0 0
  have E : Fx_Rd_takeX sort line first count u g = Fx_Rd_takeX sort line first count u g := rfl
  refine J_iload_n (i := 1) (j := 1) dX3_take_0 rfl rfl ?_
  have jn20 : ∀ (u17 : Nat → Nat → Int32), (∀ c, c ≠ 29 → u17 c = u c) → (∀ j, j ≠ 5 → j ≠ 6 → u17 29 j = u 29 j) → Fx_Rd_takeX_J33 sort line count u g u17 = Fx_Rd_takeX sort line first count u g → J x yX3_take cX3_take 6 none d 0 0 (Wd u g ex).length 33 [(0, .ref 29), (1, .int sort), (2, .int line), (4, .int count)] [] (Wd u17 g ex) 0 0 := by
    intro u17 fr18 fc19 E
    refine J_iconst (v := 0) dX3_take_33 (by decide) ?_
    refine J_istore (i := 5) (lw := [(5, .int 0), (0, .ref 29), (1, .int sort), (2, .int line), (4, .int count)]) dX3_take_34 (by decide) rfl ?_
    have lp477 : ∀ (n478 : Nat) (w356 : Int32) (u357 : Nat → Nat → Int32), Bd 0 3 w356 → (∀ c, c ≠ 29 → u357 c = u17 c) → (∀ j, j ≠ 5 → j ≠ 6 → u357 29 j = u17 29 j) → (3 - w356.toInt).toNat < n478 → Fx_Rd_takeX_L36 sort line count u g n478 w356 u357 = Fx_Rd_takeX sort line first count u g → J x yX3_take cX3_take 6 none d 0 0 (Wd u g ex).length 36 [(0, .ref 29), (1, .int sort), (2, .int line), (4, .int count), (5, .int w356)] [] (Wd u357 g ex) 0 0 := by
      intro n478
      induction n478 with
      | zero => intro w356 u357 bw356 fr358 fc359 hm480 _; exact absurd hm480 (Nat.not_lt_zero _)
      | succ n478 ih479 =>
        intro w356 u357 bw356 fr358 fc359 hm480 E
        replace E := Fx_Rd_takeX_L36_s.symm.trans E
        refine J_iload (i := 5) (j := 4) dX3_take_36 rfl ?_
        refine J_iload (i := 4) (j := 3) dX3_take_38 rfl ?_
        refine J_icmp_ge (tgt := 88) dX3_take_40 (by decide) (fun c481 => ?_) (fun c481 => ?_)
        · replace E := xq_ep c481 E
          refine J_iload_n (i := 1) (j := 1) dX3_take_88 rfl rfl ?_
          refine J_if_ne (tgt := 102) dX3_take_89 (by decide) (fun c527 => ?_) (fun c527 => ?_)
          · replace E := xq_en c527 E
            refine J_aload_n (i := 0) (j := 0) dX3_take_102 rfl rfl ?_
            refine J_get (C := RX3) (T := TX3) (Z := 7) (ci := 3) (f := 2) dX3_take_103 inG3 rfl (by decide) k263 wc_29 rfl ?_
            refine J_iload_n (i := 2) (j := 2) dX3_take_106 rfl rfl ?_
            refine J_aload_n (i := 0) (j := 0) dX3_take_107 rfl rfl ?_
            refine J_get (C := RX3) (T := TX3) (Z := 7) (ci := 3) (f := 3) dX3_take_108 inG3 rfl (by decide) k265 wc_29 rfl ?_
            refine J_iconst (v := 0) dX3_take_111 (by decide) ?_
            refine J_iald dX3_take_112 wc_41 (vin (bd_c (v := 0) (lo := 0) (hi := 0) (by decide)) (by decide)) ?_
            refine J_ci (v := u 41 0) ((congrFun (fr358 41 (Nat.ne_of_beq_eq_false rfl)) 0).trans (congrFun (fr18 41 (Nat.ne_of_beq_eq_false rfl)) 0)) ?_
            refine J_iload (i := 4) (j := 3) dX3_take_113 rfl ?_
            refine J_iconst (v := 1) dX3_take_115 (by decide) ?_
            refine J_icmp_le (tgt := 128) dX3_take_116 (by decide) (fun c528 => ?_) (fun c528 => ?_)
            · replace E := xq_ep c528 E
              refine J_iconst (v := (-1)) dX3_take_128 (by decide) ?_
              refine J_callV (As := [.int line, .int (u 41 0), .int (-1)]) (rest := []) dX3_take_129 (c_W_addKX (d := 0) (u := u357) (g := g) (ex := ex) (kind := line) (pond := u 41 0) (much := (-1))  (by decide) (bd_r ((congrFun (fr358 37 (Nat.ne_of_beq_eq_false rfl)) 0).trans (congrFun (fr18 37 (Nat.ne_of_beq_eq_false rfl)) 0)) hp7) (km_c ((fr358 38 (Nat.ne_of_beq_eq_false rfl)).trans (fr18 38 (Nat.ne_of_beq_eq_false rfl))) ((fr358 40 (Nat.ne_of_beq_eq_false rfl)).trans (fr18 40 (Nat.ne_of_beq_eq_false rfl))) hp8) (Or.inl ((hp3.resolve_left c527).resolve_left (fun q => lt_le_no q c528)))) hq.n k660 k661 k662 wc_37 rfl rfl k90 k663 np_X8_add (Nat.le_trans (by decide) hd) (by decide) (Nat.le_refl _) (Nat.le_refl _) wlen rfl (Nat.le_of_ble_eq_true rfl) (fun r_ h_ p529 => ?_)
              obtain ⟨t530, u531, rfl, rfl, h532, h533, hx534, fr535, fc536⟩ := p529
              replace E := xq_e2 hx534 E
              refine J_pop dX3_take_132 rfl ?_
              exact J_vret hq dX3_take_133 rfl wlen (Nat.le_refl _) (Nat.le_refl _) ⟨u531, rfl, rfl, (bd_r ((congrFun (fr535 32 rfl) 0).trans ((congrFun (fr358 32 (Nat.ne_of_beq_eq_false rfl)) 0).trans (congrFun (fr18 32 (Nat.ne_of_beq_eq_false rfl)) 0))) hp4), (bd_r ((congrFun (fr535 32 rfl) 2).trans ((congrFun (fr358 32 (Nat.ne_of_beq_eq_false rfl)) 2).trans (congrFun (fr18 32 (Nat.ne_of_beq_eq_false rfl)) 2))) hp5), (ab_c ((fr535 33 rfl).trans ((fr358 33 (Nat.ne_of_beq_eq_false rfl)).trans (fr18 33 (Nat.ne_of_beq_eq_false rfl)))) hp6), h532, h533, E, (fun c k_ => ((fr535 c (nin_sub (M := [(37, 40)]) k_ rfl)).trans ((fr358 c (nin_ne (a := 29) k_ rfl)).trans (fr18 c (nin_ne (a := 29) k_ rfl))))), (fun j k5_ k6_ => ((congrFun (fr535 29 rfl) j).trans ((fc359 j k5_ k6_).trans (fc19 j k5_ k6_)))), (fun j k0_ k2_ => ((congrFun (fr535 32 rfl) j).trans ((congrFun (fr358 32 (Nat.ne_of_beq_eq_false rfl)) j).trans (congrFun (fr18 32 (Nat.ne_of_beq_eq_false rfl)) j)))), (fun j k0_ => ((fc536 j k0_).trans ((congrFun (fr358 37 (Nat.ne_of_beq_eq_false rfl)) j).trans (congrFun (fr18 37 (Nat.ne_of_beq_eq_false rfl)) j))))⟩
            · replace E := xq_en c528 E
              refine J_aload_n (i := 0) (j := 0) dX3_take_119 rfl rfl ?_
              refine J_get (C := RX3) (T := TX3) (Z := 7) (ci := 3) (f := 3) dX3_take_120 inG3 rfl (by decide) k265 wc_29 rfl ?_
              refine J_iconst (v := 1) dX3_take_123 (by decide) ?_
              refine J_iald dX3_take_124 wc_41 (vin (bd_c (v := 1) (lo := 1) (hi := 1) (by decide)) (by decide)) ?_
              refine J_ci (v := u 41 1) ((congrFun (fr358 41 (Nat.ne_of_beq_eq_false rfl)) 1).trans (congrFun (fr18 41 (Nat.ne_of_beq_eq_false rfl)) 1)) ?_
              refine J_goto (tgt := 129) dX3_take_125 (by decide) ?_
              refine J_callV (As := [.int line, .int (u 41 0), .int (u 41 1)]) (rest := []) dX3_take_129 (c_W_addKX (d := 0) (u := u357) (g := g) (ex := ex) (kind := line) (pond := u 41 0) (much := u 41 1)  (by decide) (bd_r ((congrFun (fr358 37 (Nat.ne_of_beq_eq_false rfl)) 0).trans (congrFun (fr18 37 (Nat.ne_of_beq_eq_false rfl)) 0)) hp7) (km_c ((fr358 38 (Nat.ne_of_beq_eq_false rfl)).trans (fr18 38 (Nat.ne_of_beq_eq_false rfl))) ((fr358 40 (Nat.ne_of_beq_eq_false rfl)).trans (fr18 40 (Nat.ne_of_beq_eq_false rfl))) hp8) (Or.inr (hp9 1))) hq.n k660 k661 k662 wc_37 rfl rfl k90 k663 np_X8_add (Nat.le_trans (by decide) hd) (by decide) (Nat.le_refl _) (Nat.le_refl _) wlen rfl (Nat.le_of_ble_eq_true rfl) (fun r_ h_ p537 => ?_)
              obtain ⟨t538, u539, rfl, rfl, h540, h541, hx542, fr543, fc544⟩ := p537
              replace E := xq_e2 hx542 E
              refine J_pop dX3_take_132 rfl ?_
              exact J_vret hq dX3_take_133 rfl wlen (Nat.le_refl _) (Nat.le_refl _) ⟨u539, rfl, rfl, (bd_r ((congrFun (fr543 32 rfl) 0).trans ((congrFun (fr358 32 (Nat.ne_of_beq_eq_false rfl)) 0).trans (congrFun (fr18 32 (Nat.ne_of_beq_eq_false rfl)) 0))) hp4), (bd_r ((congrFun (fr543 32 rfl) 2).trans ((congrFun (fr358 32 (Nat.ne_of_beq_eq_false rfl)) 2).trans (congrFun (fr18 32 (Nat.ne_of_beq_eq_false rfl)) 2))) hp5), (ab_c ((fr543 33 rfl).trans ((fr358 33 (Nat.ne_of_beq_eq_false rfl)).trans (fr18 33 (Nat.ne_of_beq_eq_false rfl)))) hp6), h540, h541, E, (fun c k_ => ((fr543 c (nin_sub (M := [(37, 40)]) k_ rfl)).trans ((fr358 c (nin_ne (a := 29) k_ rfl)).trans (fr18 c (nin_ne (a := 29) k_ rfl))))), (fun j k5_ k6_ => ((congrFun (fr543 29 rfl) j).trans ((fc359 j k5_ k6_).trans (fc19 j k5_ k6_)))), (fun j k0_ k2_ => ((congrFun (fr543 32 rfl) j).trans ((congrFun (fr358 32 (Nat.ne_of_beq_eq_false rfl)) j).trans (congrFun (fr18 32 (Nat.ne_of_beq_eq_false rfl)) j)))), (fun j k0_ => ((fc544 j k0_).trans ((congrFun (fr358 37 (Nat.ne_of_beq_eq_false rfl)) j).trans (congrFun (fr18 37 (Nat.ne_of_beq_eq_false rfl)) j))))⟩
          · replace E := xq_ep c527 E
            refine J_aload_n (i := 0) (j := 0) dX3_take_92 rfl rfl ?_
            refine J_iload_n (i := 2) (j := 2) dX3_take_93 rfl rfl ?_
            refine J_iload (i := 4) (j := 3) dX3_take_94 rfl ?_
            refine J_callV (As := [.int line, .int count]) (rest := []) dX3_take_96 (c_Rd_takeForHillX (d := 3) (u := u357) (g := g) (ex := ex) (line := line) (count := count)  (by decide) hp0 hp1 (bd_r ((congrFun (fr358 32 (Nat.ne_of_beq_eq_false rfl)) 0).trans (congrFun (fr18 32 (Nat.ne_of_beq_eq_false rfl)) 0)) hp4) (bd_r ((congrFun (fr358 32 (Nat.ne_of_beq_eq_false rfl)) 2).trans (congrFun (fr18 32 (Nat.ne_of_beq_eq_false rfl)) 2)) hp5) (ab_c ((fr358 33 (Nat.ne_of_beq_eq_false rfl)).trans (fr18 33 (Nat.ne_of_beq_eq_false rfl))) hp6) (ab_c ((fr358 41 (Nat.ne_of_beq_eq_false rfl)).trans (fr18 41 (Nat.ne_of_beq_eq_false rfl))) hp9)) hq.n k635 k637 k10 wc_29 rfl rfl k91 k638 np_X3_takeForHill (Nat.le_trans (by decide) hd) (by decide) (Nat.le_refl _) (Nat.le_refl _) wlen rfl (Nat.le_of_ble_eq_true rfl) (fun r_ h_ p545 => ?_)
            obtain ⟨u546, rfl, rfl, h547, h548, h549, hx550, fr551, fc552⟩ := p545
            replace E := xq_le hx550 E
            refine J_goto (tgt := 133) dX3_take_99 (by decide) ?_
            exact J_vret hq dX3_take_133 rfl wlen (Nat.le_refl _) (Nat.le_refl _) ⟨u546, rfl, rfl, h547, h548, h549, (bd_r ((congrFun (fr551 37 rfl) 0).trans ((congrFun (fr358 37 (Nat.ne_of_beq_eq_false rfl)) 0).trans (congrFun (fr18 37 (Nat.ne_of_beq_eq_false rfl)) 0))) hp7), (km_c ((fr551 38 rfl).trans ((fr358 38 (Nat.ne_of_beq_eq_false rfl)).trans (fr18 38 (Nat.ne_of_beq_eq_false rfl)))) ((fr551 40 rfl).trans ((fr358 40 (Nat.ne_of_beq_eq_false rfl)).trans (fr18 40 (Nat.ne_of_beq_eq_false rfl)))) hp8), E, (fun c k_ => ((fr551 c (nin_sub (M := [(32, 36)]) k_ rfl)).trans ((fr358 c (nin_ne (a := 29) k_ rfl)).trans (fr18 c (nin_ne (a := 29) k_ rfl))))), (fun j k5_ k6_ => ((congrFun (fr551 29 rfl) j).trans ((fc359 j k5_ k6_).trans (fc19 j k5_ k6_)))), (fun j k0_ k2_ => ((fc552 j k0_ k2_).trans ((congrFun (fr358 32 (Nat.ne_of_beq_eq_false rfl)) j).trans (congrFun (fr18 32 (Nat.ne_of_beq_eq_false rfl)) j)))), (fun j k0_ => ((congrFun (fr551 37 rfl) j).trans ((congrFun (fr358 37 (Nat.ne_of_beq_eq_false rfl)) j).trans (congrFun (fr18 37 (Nat.ne_of_beq_eq_false rfl)) j))))⟩
        · replace E := xq_en c481 E
          refine J_iload_n (i := 1) (j := 1) dX3_take_43 rfl rfl ?_
          have jn577 : ∀ (u574 : Nat → Nat → Int32), (∀ c, c ≠ 29 → u574 c = u357 c) → (∀ j, j ≠ 5 → j ≠ 6 → u574 29 j = u357 29 j) → Fx_Rd_takeX_J82 (Fx_Rd_takeX_L36 sort line count u g n478) w356 u574 = Fx_Rd_takeX sort line first count u g → J x yX3_take cX3_take 6 none d 0 0 (Wd u g ex).length 82 [(0, .ref 29), (1, .int sort), (2, .int line), (4, .int count), (5, .int w356)] [] (Wd u574 g ex) 0 0 := by
            intro u574 fr575 fc576 E
            refine J_iinc (i := 5) (j := 4) (v := (w356 + 1)) (lw := [(5, .int (w356 + 1)), (0, .ref 29), (1, .int sort), (2, .int line), (4, .int count)]) dX3_take_82 rfl rfl (by decide) rfl ?_
            refine J_goto (tgt := 36) dX3_take_85 (by decide) ?_
            refine J_lv [1, 2, 3, 4, 0] rfl ?_
            exact ih479 (w356 + 1) u574 (bd_w (l := 0) (h := 3) (bd_add (l := 1) (h := 3) (bd_lt_hi bw356 (i_nle c481) hp1) (bd_c (v := 1) (lo := 1) (hi := 1) (by decide)) (by decide)) (by decide)) (fun c k0_ => ((fr575 c k0_).trans (fr358 c k0_))) (fun j k5_ k6_ => ((fc576 j k5_ k6_).trans (fc359 j k5_ k6_))) (mu_up 1 bw356 rfl (by decide) (bd_w (l := 1) (h := 3) (bd_add (l := 1) (h := 3) (bd_lt_hi bw356 (i_nle c481) hp1) (bd_c (v := 1) (lo := 1) (hi := 1) (by decide)) (by decide)) (by decide)) hm480) E
          refine J_if_ne (tgt := 60) dX3_take_44 (by decide) (fun c553 => ?_) (fun c553 => ?_)
          · replace E := xq_en c553 E
            refine J_aload_n (i := 0) (j := 0) dX3_take_60 rfl rfl ?_
            refine J_iload_n (i := 2) (j := 2) dX3_take_61 rfl rfl ?_
            refine J_iload (i := 5) (j := 4) dX3_take_62 rfl ?_
            refine J_callV (As := [.int line, .int w356]) (rest := []) dX3_take_64 (c_Rd_canBeInPlanX (d := 0) (u := u357) (g := g) (ex := ex) (line := line) (i := w356)  (by decide) (bd_in (l := 0) (h := 4) hp0 (hp2.resolve_left c553) (by decide)) (bd_lt_hi bw356 (i_nle c481) hp1) (ab_c ((fr358 41 (Nat.ne_of_beq_eq_false rfl)).trans (fr18 41 (Nat.ne_of_beq_eq_false rfl))) hp9)) hq.n k627 k629 k9 wc_29 rfl rfl k91 k630 np_X3_canBeInPlan (Nat.le_trans (by decide) hd) (by decide) (Nat.le_refl _) (Nat.le_refl _) wlen rfl (Nat.le_of_ble_eq_true rfl) (fun r_ h_ p578 => ?_)
            obtain ⟨t579, rfl, rfl, hx580⟩ := p578
            replace E := xq_le hx580 E
            refine J_ifB_ne (tgt := 82) dX3_take_67 (by decide) (fun c581 => ?_) (fun c581 => ?_)
            · replace E := xq_ep c581 E
              refine J_lv [0, 1, 2, 3, 4] rfl ?_
              exact jn577 u357 (fun c k0_ => rfl) (fun j k5_ k6_ => rfl) E
            · replace E := xq_ef c581 E
              refine J_aload_n (i := 0) (j := 0) dX3_take_70 rfl rfl ?_
              refine J_iconst (v := 2) dX3_take_71 (by decide) ?_
              refine J_aload_n (i := 0) (j := 0) dX3_take_72 rfl rfl ?_
              refine J_get (C := RX3) (T := TX3) (Z := 7) (ci := 3) (f := 4) dX3_take_73 inG3 rfl (by decide) k266 wc_29 rfl ?_
              refine J_iload (i := 5) (j := 4) dX3_take_76 rfl ?_
              refine J_iald dX3_take_78 wc_42 (vin (bd_lt_hi bw356 (i_nle c481) hp1) (by decide)) ?_
              refine J_topi (fun v582 qv582 => ?_)
              replace E := xq_le qv582 E
              refine J_callV (As := [.int 2, .int v582]) (rest := []) dX3_take_79 (c_Rd_rememberX (d := 0) (u := u357) (g := g) (ex := ex) (newFault := 2) (newPlace := v582)  (by decide) ) hq.n k617 k619 k7 wc_29 rfl rfl k91 k620 np_X3_remember (Nat.le_trans (by decide) hd) (by decide) (Nat.le_refl _) (Nat.le_refl _) wlen rfl (Nat.le_of_ble_eq_true rfl) (fun r_ h_ p583 => ?_)
              obtain ⟨u584, rfl, rfl, hx585, fr586, fc587⟩ := p583
              replace E := xq_le hx585 E
              refine J_lv [0, 1, 2, 3, 4] rfl ?_
              exact jn577 u584 (fun c k0_ => (fr586 c k0_)) (fun j k5_ k6_ => (fc587 j k5_ k6_)) E
          · replace E := xq_ep c553 E
            refine J_aload_n (i := 0) (j := 0) dX3_take_47 rfl rfl ?_
            refine J_iload_n (i := 2) (j := 2) dX3_take_48 rfl rfl ?_
            refine J_iload (i := 5) (j := 4) dX3_take_49 rfl ?_
            refine J_callV (As := [.int line, .int w356]) (rest := []) dX3_take_51 (c_Rd_canBeInHillX (d := 0) (u := u357) (g := g) (ex := ex) (line := line) (i := w356)  (by decide) hp0 (bd_lt_hi bw356 (i_nle c481) hp1) (ab_c ((fr358 41 (Nat.ne_of_beq_eq_false rfl)).trans (fr18 41 (Nat.ne_of_beq_eq_false rfl))) hp9)) hq.n k621 k623 k8 wc_29 rfl rfl k91 k624 np_X3_canBeInHill (Nat.le_trans (by decide) hd) (by decide) (Nat.le_refl _) (Nat.le_refl _) wlen rfl (Nat.le_of_ble_eq_true rfl) (fun r_ h_ p588 => ?_)
            obtain ⟨t589, rfl, rfl, hx590⟩ := p588
            replace E := xq_le hx590 E
            refine J_ifB_eq (tgt := 70) dX3_take_54 (by decide) (fun c591 => ?_) (fun c591 => ?_)
            · replace E := xq_ef c591 E
              refine J_aload_n (i := 0) (j := 0) dX3_take_70 rfl rfl ?_
              refine J_iconst (v := 2) dX3_take_71 (by decide) ?_
              refine J_aload_n (i := 0) (j := 0) dX3_take_72 rfl rfl ?_
              refine J_get (C := RX3) (T := TX3) (Z := 7) (ci := 3) (f := 4) dX3_take_73 inG3 rfl (by decide) k266 wc_29 rfl ?_
              refine J_iload (i := 5) (j := 4) dX3_take_76 rfl ?_
              refine J_iald dX3_take_78 wc_42 (vin (bd_lt_hi bw356 (i_nle c481) hp1) (by decide)) ?_
              refine J_topi (fun v592 qv592 => ?_)
              replace E := xq_le qv592 E
              refine J_callV (As := [.int 2, .int v592]) (rest := []) dX3_take_79 (c_Rd_rememberX (d := 0) (u := u357) (g := g) (ex := ex) (newFault := 2) (newPlace := v592)  (by decide) ) hq.n k617 k619 k7 wc_29 rfl rfl k91 k620 np_X3_remember (Nat.le_trans (by decide) hd) (by decide) (Nat.le_refl _) (Nat.le_refl _) wlen rfl (Nat.le_of_ble_eq_true rfl) (fun r_ h_ p593 => ?_)
              obtain ⟨u594, rfl, rfl, hx595, fr596, fc597⟩ := p593
              replace E := xq_le hx595 E
              refine J_lv [0, 1, 2, 3, 4] rfl ?_
              exact jn577 u594 (fun c k0_ => (fr596 c k0_)) (fun j k5_ k6_ => (fc597 j k5_ k6_)) E
            · replace E := xq_ep c591 E
              refine J_goto (tgt := 82) dX3_take_57 (by decide) ?_
              refine J_lv [0, 1, 2, 3, 4] rfl ?_
              exact jn577 u357 (fun c k0_ => rfl) (fun j k5_ k6_ => rfl) E
    refine J_lv [1, 2, 3, 4, 0] rfl ?_
    exact lp477 ((3 - (0 : Int32).toInt).toNat + 1) (0 : Int32) u17 (bd_w (l := 0) (h := 3) (bd_c (v := 0) (lo := 0) (hi := 0) (by decide)) (by decide)) (fun c k0_ => rfl) (fun j k5_ k6_ => rfl) (Nat.lt_succ_self _) E
  refine J_if_ne (tgt := 15) dX3_take_1 (by decide) (fun c1 => ?_) (fun c1 => ?_)
  · replace E := xq_en c1 E
    refine J_aload_n (i := 0) (j := 0) dX3_take_15 rfl rfl ?_
    refine J_get (C := RX3) (T := TX3) (Z := 7) (ci := 3) (f := 2) dX3_take_16 inG3 rfl (by decide) k263 wc_29 rfl ?_
    refine J_getN (C := RX8) (T := TX8) (Z := 4) (ci := 8) (f := 0) dX3_take_19 inG8 rfl (by decide) k170 wc_37 rfl ?_
    refine J_bipush (v := 12) dX3_take_22 (by decide) ?_
    refine J_icmp_lt (tgt := 33) dX3_take_24 (by decide) (fun c598 => ?_) (fun c598 => ?_)
    · replace E := xq_ep c598 E
      refine J_lv [0, 1, 2, 4] rfl ?_
      exact jn20 u (fun c k0_ => rfl) (fun j k5_ k6_ => rfl) E
    · replace E := xq_en c598 E
      refine J_aload_n (i := 0) (j := 0) dX3_take_27 rfl rfl ?_
      refine J_iconst (v := 3) dX3_take_28 (by decide) ?_
      refine J_iload_n (i := 3) (j := 3) dX3_take_29 rfl rfl ?_
      refine J_callV (As := [.int 3, .int first]) (rest := []) dX3_take_30 (c_Rd_rememberX (d := 0) (u := u) (g := g) (ex := ex) (newFault := 3) (newPlace := first)  (by decide) ) hq.n k617 k619 k7 wc_29 rfl rfl k91 k620 np_X3_remember (Nat.le_trans (by decide) hd) (by decide) (Nat.le_refl _) (Nat.le_refl _) wlen rfl (Nat.le_of_ble_eq_true rfl) (fun r_ h_ p599 => ?_)
      obtain ⟨u600, rfl, rfl, hx601, fr602, fc603⟩ := p599
      replace E := xq_le hx601 E
      refine J_lv [0, 1, 2, 4] rfl ?_
      exact jn20 u600 (fun c k0_ => (fr602 c k0_)) (fun j k5_ k6_ => (fc603 j k5_ k6_)) E
  · replace E := xq_ep c1 E
    refine J_aload_n (i := 0) (j := 0) dX3_take_4 rfl rfl ?_
    refine J_iload_n (i := 2) (j := 2) dX3_take_5 rfl rfl ?_
    refine J_callV (As := [.int line]) (rest := []) dX3_take_6 (c_Rd_isFullX (d := 0) (u := u) (g := g) (ex := ex) (line := line)  (by decide) ) hq.n k613 k615 k6 wc_29 rfl rfl k91 k616 np_X3_isFull (Nat.le_trans (by decide) hd) (by decide) (Nat.le_refl _) (Nat.le_refl _) wlen rfl (Nat.le_of_ble_eq_true rfl) (fun r_ h_ p604 => ?_)
    obtain ⟨t605, rfl, rfl, hx606⟩ := p604
    replace E := xq_le hx606 E
    refine J_ifB_eq (tgt := 33) dX3_take_9 (by decide) (fun c607 => ?_) (fun c607 => ?_)
    · replace E := xq_ef c607 E
      refine J_lv [0, 1, 2, 4] rfl ?_
      exact jn20 u (fun c k0_ => rfl) (fun j k5_ k6_ => rfl) E
    · replace E := xq_ep c607 E
      refine J_goto (tgt := 27) dX3_take_12 (by decide) ?_
      refine J_aload_n (i := 0) (j := 0) dX3_take_27 rfl rfl ?_
      refine J_iconst (v := 3) dX3_take_28 (by decide) ?_
      refine J_iload_n (i := 3) (j := 3) dX3_take_29 rfl rfl ?_
      refine J_callV (As := [.int 3, .int first]) (rest := []) dX3_take_30 (c_Rd_rememberX (d := 0) (u := u) (g := g) (ex := ex) (newFault := 3) (newPlace := first)  (by decide) ) hq.n k617 k619 k7 wc_29 rfl rfl k91 k620 np_X3_remember (Nat.le_trans (by decide) hd) (by decide) (Nat.le_refl _) (Nat.le_refl _) wlen rfl (Nat.le_of_ble_eq_true rfl) (fun r_ h_ p608 => ?_)
      obtain ⟨u609, rfl, rfl, hx610, fr611, fc612⟩ := p608
      replace E := xq_le hx610 E
      refine J_lv [0, 1, 2, 4] rfl ?_
      exact jn20 u609 (fun c k0_ => (fr611 c k0_)) (fun j k5_ k6_ => (fc612 j k5_ k6_)) E
set_option maxRecDepth 100000 in
noncomputable def Fx_Rd_readLineX_L65 (sort : Int32) (g : Nat → Nat → Int64) (u2 : Nat → Nat → Int32) (v11 : Int32) (v17 : Int32) (n_ : Nat) : (Int32) → (Nat → Nat → Int32) → Bool × (Nat → Nat → Int32) := Nat.rec (motive := fun _ => (Int32) → (Nat → Nat → Int32) → Bool × (Nat → Nat → Int32)) (fun _ _ => default) (fun n_ ih_ w173 u174 => if v17 ≤ w173 then (xq_lt (Fx_Tk_advanceX u174 g) fun u233 => if (u233 30 3) = (3 : Int32) then (xq_lt (Fx_Rd_takeX sort v11 (u2 30 4) v17 u233 g) fun u242 => (true, u242)) else (xq_c2 (Fx_Rd_breaksOffX u233 g) fun t254 u255 => (t254, u255))) else (xq_lt (Fx_Tk_advanceX u174 g) fun u260 => if (u260 30 3) = (2 : Int32) then (xq_lt (ms u260 41 w173.toNatClampNeg (u260 30 5)) fun u268 => xq_lt (ms u268 42 w173.toNatClampNeg (u260 30 4)) fun u270 => ih_ (w173 + 1) u270) else (xq_c2 (Fx_Rd_breaksOffX u260 g) fun t273 u274 => (t273, u274)))) n_
set_option maxRecDepth 100000 in
theorem Fx_Rd_readLineX_L65_s {sort : Int32} {g : Nat → Nat → Int64} {u2 : Nat → Nat → Int32} {v11 : Int32} {v17 : Int32} {w173 : Int32} {u174 : Nat → Nat → Int32} {n_ : Nat} : Fx_Rd_readLineX_L65 sort g u2 v11 v17 (n_ + 1) w173 u174 = if v17 ≤ w173 then (xq_lt (Fx_Tk_advanceX u174 g) fun u233 => if (u233 30 3) = (3 : Int32) then (xq_lt (Fx_Rd_takeX sort v11 (u2 30 4) v17 u233 g) fun u242 => (true, u242)) else (xq_c2 (Fx_Rd_breaksOffX u233 g) fun t254 u255 => (t254, u255))) else (xq_lt (Fx_Tk_advanceX u174 g) fun u260 => if (u260 30 3) = (2 : Int32) then (xq_lt (ms u260 41 w173.toNatClampNeg (u260 30 5)) fun u268 => xq_lt (ms u268 42 w173.toNatClampNeg (u260 30 4)) fun u270 => (Fx_Rd_readLineX_L65 sort g u2 v11 v17 n_) (w173 + 1) u270) else (xq_c2 (Fx_Rd_breaksOffX u260 g) fun t273 u274 => (t273, u274))) := rfl
set_option maxRecDepth 100000 in
noncomputable def Fx_Rd_readLineX_L65b (sort : Int32) (g : Nat → Nat → Int64) (u2 : Nat → Nat → Int32) (v11 : Int32) (v278 : Int32) (n_ : Nat) : (Int32) → (Nat → Nat → Int32) → Bool × (Nat → Nat → Int32) := Nat.rec (motive := fun _ => (Int32) → (Nat → Nat → Int32) → Bool × (Nat → Nat → Int32)) (fun _ _ => default) (fun n_ ih_ w434 u435 => if v278 ≤ w434 then (xq_lt (Fx_Tk_advanceX u435 g) fun u494 => if (u494 30 3) = (3 : Int32) then (xq_lt (Fx_Rd_takeX sort v11 (u2 30 4) v278 u494 g) fun u503 => (true, u503)) else (xq_c2 (Fx_Rd_breaksOffX u494 g) fun t515 u516 => (t515, u516))) else (xq_lt (Fx_Tk_advanceX u435 g) fun u521 => if (u521 30 3) = (2 : Int32) then (xq_lt (ms u521 41 w434.toNatClampNeg (u521 30 5)) fun u529 => xq_lt (ms u529 42 w434.toNatClampNeg (u521 30 4)) fun u531 => ih_ (w434 + 1) u531) else (xq_c2 (Fx_Rd_breaksOffX u521 g) fun t534 u535 => (t534, u535)))) n_
set_option maxRecDepth 100000 in
theorem Fx_Rd_readLineX_L65b_s {sort : Int32} {g : Nat → Nat → Int64} {u2 : Nat → Nat → Int32} {v11 : Int32} {v278 : Int32} {w434 : Int32} {u435 : Nat → Nat → Int32} {n_ : Nat} : Fx_Rd_readLineX_L65b sort g u2 v11 v278 (n_ + 1) w434 u435 = if v278 ≤ w434 then (xq_lt (Fx_Tk_advanceX u435 g) fun u494 => if (u494 30 3) = (3 : Int32) then (xq_lt (Fx_Rd_takeX sort v11 (u2 30 4) v278 u494 g) fun u503 => (true, u503)) else (xq_c2 (Fx_Rd_breaksOffX u494 g) fun t515 u516 => (t515, u516))) else (xq_lt (Fx_Tk_advanceX u435 g) fun u521 => if (u521 30 3) = (2 : Int32) then (xq_lt (ms u521 41 w434.toNatClampNeg (u521 30 5)) fun u529 => xq_lt (ms u529 42 w434.toNatClampNeg (u521 30 4)) fun u531 => (Fx_Rd_readLineX_L65b sort g u2 v11 v278 n_) (w434 + 1) u531) else (xq_c2 (Fx_Rd_breaksOffX u521 g) fun t534 u535 => (t534, u535))) := rfl
set_option maxRecDepth 100000 in
noncomputable def Fx_Rd_readLineX (sort : Int32) (u : Nat → Nat → Int32) (g : Nat → Nat → Int64) : Bool × (Nat → Nat → Int32) := xq_lt (Fx_Tk_advanceX u g) fun u2 => if (u2 30 3) = (0 : Int32) then ((false, u2)) else (xq_lt (Fx_Rd_lineOfX sort u2 g) fun v11 => if v11 = ((-1) : Int32) then (xq_c2 (Fx_Rd_breaksOffX u2 g) fun t540 u541 => (t540, u541)) else (if sort = (0 : Int32) then (xq_lt ((sAr 0).getD v11.toNatClampNeg 0) fun v278 => Fx_Rd_readLineX_L65b sort g u2 v11 v278 ((3 - (0 : Int32).toInt).toNat + 1) (0 : Int32) u2) else (xq_lt ((sAr 3).getD v11.toNatClampNeg 0) fun v17 => Fx_Rd_readLineX_L65 sort g u2 v11 v17 ((2 - (0 : Int32).toInt).toNat + 1) (0 : Int32) u2)))
set_option maxHeartbeats 4000000 in
set_option maxRecDepth 100000 in
theorem c_Rd_readLineX {d : Nat} {u : Nat → Nat → Int32} {g : Nat → Nat → Int64} {ex : List MC} {sort : Int32} (hd : 6 ≤ d) (hp0 : (u 30 0) = 1) (hp1 : Bd 0 600 (u 30 1)) (hp2 : Bd 0 600 (u 30 2)) (hp3 : Bd 0 9 (u 32 0)) (hp4 : Bd 0 4 (u 32 2)) (hp5 : AB u 33 (-1) 999) (hp6 : Bd 0 12 (u 37 0)) (hp7 : (KM u 37)) (hp8 : AB u 41 0 999) : CT con0 d 0 0 yX3_readLine cX3_readLine 6 (some .boolean) [.ref 29, .int sort] (Wd u g ex) (fun r h2 => ∃ (z : Bool) (u2 : Nat → Nat → Int32), r = some (.int (bI z)) ∧ h2 = Wd u2 g ex ∧ Bd 0 600 (u2 30 2) ∧ Bd 0 9 (u2 32 0) ∧ Bd 0 4 (u2 32 2) ∧ AB u2 33 (-1) 999 ∧ Bd 0 12 (u2 37 0) ∧ (KM u2 37) ∧ AB u2 41 0 999 ∧ (z, u2) = Fx_Rd_readLineX sort u g ∧ (∀ c, nin c [(29, 30), (32, 42)] = true → u2 c = u c) ∧ (∀ j, j ≠ 5 → j ≠ 6 → u2 29 j = u 29 j) ∧ (∀ j, j ≠ 2 → j ≠ 3 → j ≠ 4 → j ≠ 5 → u2 30 j = u 30 j) ∧ (∀ j, j ≠ 0 → j ≠ 2 → u2 32 j = u 32 j) ∧ (∀ j, j ≠ 0 → u2 37 j = u 37 j)) := by
  refine CT_of (by decide) (Nat.le_of_ble_eq_true rfl) (fun x hq => ?_)
  show J x yX3_readLine cX3_readLine 6 (some .boolean) d 0 0 (Wd u g ex).length 0 [(0, .ref 29), (1, .int sort)] [] (Wd u g ex) 0 0
  have E : Fx_Rd_readLineX sort u g = Fx_Rd_readLineX sort u g := rfl
  refine J_aload_n (i := 0) (j := 0) dX3_readLine_0 rfl rfl ?_
  refine J_get (C := RX3) (T := TX3) (Z := 7) (ci := 3) (f := 0) dX3_readLine_1 inG3 rfl (by decide) k260 wc_29 rfl ?_
  refine J_callV (As := []) (rest := []) dX3_readLine_4 (c_Tk_advanceX (d := 2) (u := u) (g := g) (ex := ex)   (by decide) hp0 hp1 hp2) hq.n k500 k501 k502 wc_30 rfl rfl k92 k503 np_X6_advance (Nat.le_trans (by decide) hd) (by decide) (Nat.le_refl _) (Nat.le_refl _) wlen rfl (Nat.le_of_ble_eq_true rfl) (fun r_ h_ p1 => ?_)
  obtain ⟨u2, rfl, rfl, h3, h4, h5, hx6, fr7, fc8⟩ := p1
  replace E := xq_le hx6 E
  refine J_aload_n (i := 0) (j := 0) dX3_readLine_7 rfl rfl ?_
  refine J_get (C := RX3) (T := TX3) (Z := 7) (ci := 3) (f := 0) dX3_readLine_8 inG3 rfl (by decide) k260 wc_29 rfl ?_
  refine J_getN (C := RX6) (T := TX6) (Z := 6) (ci := 6) (f := 3) dX3_readLine_11 inG6 rfl (by decide) k237 wc_30 rfl ?_
  refine J_if_ne (tgt := 19) dX3_readLine_14 (by decide) (fun c9 => ?_) (fun c9 => ?_)
  · replace E := xq_en c9 E
    refine J_aload_n (i := 0) (j := 0) dX3_readLine_19 rfl rfl ?_
    refine J_iload_n (i := 1) (j := 1) dX3_readLine_20 rfl rfl ?_
    refine J_callV (As := [.int sort]) (rest := []) dX3_readLine_21 (c_Rd_lineOfX (d := 5) (u := u2) (g := g) (ex := ex) (sort := sort)  (by decide) ((fc8 0 (Nat.ne_of_beq_eq_false rfl) (Nat.ne_of_beq_eq_false rfl) (Nat.ne_of_beq_eq_false rfl) (Nat.ne_of_beq_eq_false rfl)).trans hp0) (bd_r (fc8 1 (Nat.ne_of_beq_eq_false rfl) (Nat.ne_of_beq_eq_false rfl) (Nat.ne_of_beq_eq_false rfl) (Nat.ne_of_beq_eq_false rfl)) hp1) h3 h4) hq.n k521 k523 k3 wc_29 rfl rfl k91 k524 np_X3_lineOf (Nat.le_trans (by decide) hd) (by decide) (Nat.le_refl _) (Nat.le_refl _) wlen rfl (Nat.le_of_ble_eq_true rfl) (fun r_ h_ p10 => ?_)
    obtain ⟨v11, rfl, rfl, h12, h13, hx14⟩ := p10
    replace E := xq_le hx14 E
    refine J_istore_n (i := 2) (lw := [(2, .int v11), (0, .ref 29), (1, .int sort)]) dX3_readLine_24 rfl (by decide) rfl ?_
    refine J_aload_n (i := 0) (j := 1) dX3_readLine_25 rfl rfl ?_
    refine J_get (C := RX3) (T := TX3) (Z := 7) (ci := 3) (f := 0) dX3_readLine_26 inG3 rfl (by decide) k260 wc_29 rfl ?_
    refine J_getN (C := RX6) (T := TX6) (Z := 6) (ci := 6) (f := 4) dX3_readLine_29 inG6 rfl (by decide) k239 wc_30 rfl ?_
    refine J_istore_n (i := 3) (lw := [(3, .int (u2 30 4)), (2, .int v11), (0, .ref 29), (1, .int sort)]) dX3_readLine_32 rfl (by decide) rfl ?_
    refine J_iload_n (i := 2) (j := 1) dX3_readLine_33 rfl rfl ?_
    refine J_iconst (v := (-1)) dX3_readLine_34 (by decide) ?_
    refine J_icmp_ne (tgt := 43) dX3_readLine_35 (by decide) (fun c15 => ?_) (fun c15 => ?_)
    · replace E := xq_en c15 E
      refine J_iload_n (i := 1) (j := 3) dX3_readLine_43 rfl rfl ?_
      refine J_if_ne (tgt := 55) dX3_readLine_44 (by decide) (fun c16 => ?_) (fun c16 => ?_)
      · replace E := xq_en c16 E
        refine J_gets (i := 3) dX3_readLine_55 (by decide) rfl k607 ?_
        refine J_iload_n (i := 2) (j := 1) dX3_readLine_58 rfl rfl ?_
        refine J_sald (i := 3) dX3_readLine_59 (by decide) (vin (bd_in (l := 0) (h := 4) (bd_ne_lo h12 c15 (by decide)) (h13.resolve_left c16) (by decide)) (by decide)) ?_
        refine J_topi (fun v17 qv17 => ?_)
        replace E := xq_le qv17 E
        refine J_istore (i := 4) (lw := [(4, .int v17), (3, .int (u2 30 4)), (2, .int v11), (0, .ref 29), (1, .int sort)]) dX3_readLine_60 (by decide) rfl ?_
        refine J_iconst (v := 0) dX3_readLine_62 (by decide) ?_
        refine J_istore (i := 5) (lw := [(5, .int 0), (4, .int v17), (3, .int (u2 30 4)), (2, .int v11), (0, .ref 29), (1, .int sort)]) dX3_readLine_63 (by decide) rfl ?_
        have lp227 : ∀ (n228 : Nat) (w173 : Int32) (u174 : Nat → Nat → Int32), Bd 0 2 w173 → (∀ c, nin c [(30, 30), (41, 42)] = true → u174 c = u2 c) → (∀ j, j ≠ 2 → j ≠ 3 → j ≠ 4 → j ≠ 5 → u174 30 j = u2 30 j) → Bd 0 600 (u174 30 2) → Bd 0 600 (u174 30 4) → AB u174 41 0 999 → (2 - w173.toInt).toNat < n228 → Fx_Rd_readLineX_L65 sort g u2 v11 v17 n228 w173 u174 = Fx_Rd_readLineX sort u g → J x yX3_readLine cX3_readLine 6 (some .boolean) d 0 0 (Wd u g ex).length 65 [(0, .ref 29), (1, .int sort), (2, .int v11), (3, .int (u2 30 4)), (4, .int v17), (5, .int w173)] [] (Wd u174 g ex) 0 0 := by
          intro n228
          induction n228 with
          | zero => intro w173 u174 bw173 fr175 fc176 bm177 bm178 ab179 hm230 _; exact absurd hm230 (Nat.not_lt_zero _)
          | succ n228 ih229 =>
            intro w173 u174 bw173 fr175 fc176 bm177 bm178 ab179 hm230 E
            replace E := Fx_Rd_readLineX_L65_s.symm.trans E
            refine J_iload (i := 5) (j := 5) dX3_readLine_65 rfl ?_
            refine J_iload (i := 4) (j := 4) dX3_readLine_67 rfl ?_
            refine J_icmp_ge (tgt := 129) dX3_readLine_69 (by decide) (fun c231 => ?_) (fun c231 => ?_)
            · replace E := xq_ep c231 E
              refine J_aload_n (i := 0) (j := 0) dX3_readLine_129 rfl rfl ?_
              refine J_get (C := RX3) (T := TX3) (Z := 7) (ci := 3) (f := 0) dX3_readLine_130 inG3 rfl (by decide) k260 wc_29 rfl ?_
              refine J_callV (As := []) (rest := []) dX3_readLine_133 (c_Tk_advanceX (d := 2) (u := u174) (g := g) (ex := ex)   (by decide) (((fc176 0 (Nat.ne_of_beq_eq_false rfl) (Nat.ne_of_beq_eq_false rfl) (Nat.ne_of_beq_eq_false rfl) (Nat.ne_of_beq_eq_false rfl)).trans (fc8 0 (Nat.ne_of_beq_eq_false rfl) (Nat.ne_of_beq_eq_false rfl) (Nat.ne_of_beq_eq_false rfl) (Nat.ne_of_beq_eq_false rfl))).trans hp0) (bd_r ((fc176 1 (Nat.ne_of_beq_eq_false rfl) (Nat.ne_of_beq_eq_false rfl) (Nat.ne_of_beq_eq_false rfl) (Nat.ne_of_beq_eq_false rfl)).trans (fc8 1 (Nat.ne_of_beq_eq_false rfl) (Nat.ne_of_beq_eq_false rfl) (Nat.ne_of_beq_eq_false rfl) (Nat.ne_of_beq_eq_false rfl))) hp1) bm177) hq.n k500 k501 k502 wc_30 rfl rfl k92 k503 np_X6_advance (Nat.le_trans (by decide) hd) (by decide) (Nat.le_refl _) (Nat.le_refl _) wlen rfl (Nat.le_of_ble_eq_true rfl) (fun r_ h_ p232 => ?_)
              obtain ⟨u233, rfl, rfl, h234, h235, h236, hx237, fr238, fc239⟩ := p232
              replace E := xq_le hx237 E
              refine J_aload_n (i := 0) (j := 0) dX3_readLine_136 rfl rfl ?_
              refine J_get (C := RX3) (T := TX3) (Z := 7) (ci := 3) (f := 0) dX3_readLine_137 inG3 rfl (by decide) k260 wc_29 rfl ?_
              refine J_getN (C := RX6) (T := TX6) (Z := 6) (ci := 6) (f := 3) dX3_readLine_140 inG6 rfl (by decide) k237 wc_30 rfl ?_
              refine J_iconst (v := 3) dX3_readLine_143 (by decide) ?_
              refine J_icmp_eq (tgt := 152) dX3_readLine_144 (by decide) (fun c240 => ?_) (fun c240 => ?_)
              · replace E := xq_ep c240 E
                refine J_aload_n (i := 0) (j := 0) dX3_readLine_152 rfl rfl ?_
                refine J_iload_n (i := 1) (j := 1) dX3_readLine_153 rfl rfl ?_
                refine J_iload_n (i := 2) (j := 2) dX3_readLine_154 rfl rfl ?_
                refine J_iload_n (i := 3) (j := 3) dX3_readLine_155 rfl rfl ?_
                refine J_iload (i := 4) (j := 4) dX3_readLine_156 rfl ?_
                refine J_callV (As := [.int sort, .int v11, .int (u2 30 4), .int v17]) (rest := []) dX3_readLine_158 (c_Rd_takeX (d := 4) (u := u233) (g := g) (ex := ex) (sort := sort) (line := v11) (first := u2 30 4) (count := v17)  (by decide) (bd_w (l := 0) (h := 14) (bd_in (l := 0) (h := 4) (bd_ne_lo h12 c15 (by decide)) (h13.resolve_left c16) (by decide)) (by decide)) (bd_w (l := 0) (h := 3) (bd_r qv17 (sar_b (l := sAr 3) (lo := 0) (hi := 2) (by decide) _)) (by decide)) h13 (Or.inr (plan_count (bd_in (l := 0) (h := 4) (bd_ne_lo h12 c15 (by decide)) (h13.resolve_left c16) (by decide)) qv17)) (bd_r ((congrFun (fr238 32 (Nat.ne_of_beq_eq_false rfl)) 0).trans ((congrFun (fr175 32 rfl) 0).trans (congrFun (fr7 32 (Nat.ne_of_beq_eq_false rfl)) 0))) hp3) (bd_r ((congrFun (fr238 32 (Nat.ne_of_beq_eq_false rfl)) 2).trans ((congrFun (fr175 32 rfl) 2).trans (congrFun (fr7 32 (Nat.ne_of_beq_eq_false rfl)) 2))) hp4) (ab_c ((fr238 33 (Nat.ne_of_beq_eq_false rfl)).trans ((fr175 33 rfl).trans (fr7 33 (Nat.ne_of_beq_eq_false rfl)))) hp5) (bd_r ((congrFun (fr238 37 (Nat.ne_of_beq_eq_false rfl)) 0).trans ((congrFun (fr175 37 rfl) 0).trans (congrFun (fr7 37 (Nat.ne_of_beq_eq_false rfl)) 0))) hp6) (km_c ((fr238 38 (Nat.ne_of_beq_eq_false rfl)).trans ((fr175 38 rfl).trans (fr7 38 (Nat.ne_of_beq_eq_false rfl)))) ((fr238 40 (Nat.ne_of_beq_eq_false rfl)).trans ((fr175 40 rfl).trans (fr7 40 (Nat.ne_of_beq_eq_false rfl)))) hp7) (ab_c (fr238 41 (Nat.ne_of_beq_eq_false rfl)) ab179)) hq.n k609 k611 k5 wc_29 rfl rfl k91 k612 np_X3_take (Nat.le_trans (by decide) hd) (by decide) (Nat.le_refl _) (Nat.le_refl _) wlen rfl (Nat.le_of_ble_eq_true rfl) (fun r_ h_ p241 => ?_)
                obtain ⟨u242, rfl, rfl, h243, h244, h245, h246, h247, hx248, fr249, fc250, fc251, fc252⟩ := p241
                replace E := xq_le hx248 E
                refine J_iconst (v := 1) dX3_readLine_161 (by decide) ?_
                exact J_zret hq dX3_readLine_162 rfl rfl wlen (Nat.le_refl _) (Nat.le_refl _) ⟨true, u242, rfl, rfl, (bd_r (congrFun (fr249 30 rfl) 2) h234), h243, h244, h245, h246, h247, (ab_c ((fr249 41 rfl).trans (fr238 41 (Nat.ne_of_beq_eq_false rfl))) ab179), E, (fun c k_ => ((fr249 c (nin_sub (M := [(29, 29), (32, 40)]) k_ rfl)).trans ((fr238 c (nin_ne (a := 30) k_ rfl)).trans ((fr175 c (nin_sub (M := [(30, 30), (41, 42)]) k_ rfl)).trans (fr7 c (nin_ne (a := 30) k_ rfl)))))), (fun j k5_ k6_ => ((fc250 j k5_ k6_).trans ((congrFun (fr238 29 (Nat.ne_of_beq_eq_false rfl)) j).trans ((congrFun (fr175 29 rfl) j).trans (congrFun (fr7 29 (Nat.ne_of_beq_eq_false rfl)) j))))), (fun j k2_ k3_ k4_ k5_ => ((congrFun (fr249 30 rfl) j).trans ((fc239 j k2_ k3_ k4_ k5_).trans ((fc176 j k2_ k3_ k4_ k5_).trans (fc8 j k2_ k3_ k4_ k5_))))), (fun j k0_ k2_ => ((fc251 j k0_ k2_).trans ((congrFun (fr238 32 (Nat.ne_of_beq_eq_false rfl)) j).trans ((congrFun (fr175 32 rfl) j).trans (congrFun (fr7 32 (Nat.ne_of_beq_eq_false rfl)) j))))), (fun j k0_ => ((fc252 j k0_).trans ((congrFun (fr238 37 (Nat.ne_of_beq_eq_false rfl)) j).trans ((congrFun (fr175 37 rfl) j).trans (congrFun (fr7 37 (Nat.ne_of_beq_eq_false rfl)) j)))))⟩
              · replace E := xq_en c240 E
                refine J_aload_n (i := 0) (j := 0) dX3_readLine_147 rfl rfl ?_
                refine J_callV (As := []) (rest := []) dX3_readLine_148 (c_Rd_breaksOffX (d := 0) (u := u233) (g := g) (ex := ex)   (by decide) ) hq.n k601 k603 k4 wc_29 rfl rfl k91 k604 np_X3_breaksOff (Nat.le_trans (by decide) hd) (by decide) (Nat.le_refl _) (Nat.le_refl _) wlen rfl (Nat.le_of_ble_eq_true rfl) (fun r_ h_ p253 => ?_)
                obtain ⟨t254, u255, rfl, rfl, hx256, fr257, fc258⟩ := p253
                replace E := xq_e2 hx256 E
                exact J_zret hq dX3_readLine_151 rfl (bI_n _) wlen (Nat.le_refl _) (Nat.le_refl _) ⟨t254, u255, rfl, rfl, (bd_r (congrFun (fr257 30 (Nat.ne_of_beq_eq_false rfl)) 2) h234), (bd_r ((congrFun (fr257 32 (Nat.ne_of_beq_eq_false rfl)) 0).trans ((congrFun (fr238 32 (Nat.ne_of_beq_eq_false rfl)) 0).trans ((congrFun (fr175 32 rfl) 0).trans (congrFun (fr7 32 (Nat.ne_of_beq_eq_false rfl)) 0)))) hp3), (bd_r ((congrFun (fr257 32 (Nat.ne_of_beq_eq_false rfl)) 2).trans ((congrFun (fr238 32 (Nat.ne_of_beq_eq_false rfl)) 2).trans ((congrFun (fr175 32 rfl) 2).trans (congrFun (fr7 32 (Nat.ne_of_beq_eq_false rfl)) 2)))) hp4), (ab_c ((fr257 33 (Nat.ne_of_beq_eq_false rfl)).trans ((fr238 33 (Nat.ne_of_beq_eq_false rfl)).trans ((fr175 33 rfl).trans (fr7 33 (Nat.ne_of_beq_eq_false rfl))))) hp5), (bd_r ((congrFun (fr257 37 (Nat.ne_of_beq_eq_false rfl)) 0).trans ((congrFun (fr238 37 (Nat.ne_of_beq_eq_false rfl)) 0).trans ((congrFun (fr175 37 rfl) 0).trans (congrFun (fr7 37 (Nat.ne_of_beq_eq_false rfl)) 0)))) hp6), (km_c ((fr257 38 (Nat.ne_of_beq_eq_false rfl)).trans ((fr238 38 (Nat.ne_of_beq_eq_false rfl)).trans ((fr175 38 rfl).trans (fr7 38 (Nat.ne_of_beq_eq_false rfl))))) ((fr257 40 (Nat.ne_of_beq_eq_false rfl)).trans ((fr238 40 (Nat.ne_of_beq_eq_false rfl)).trans ((fr175 40 rfl).trans (fr7 40 (Nat.ne_of_beq_eq_false rfl))))) hp7), (ab_c ((fr257 41 (Nat.ne_of_beq_eq_false rfl)).trans (fr238 41 (Nat.ne_of_beq_eq_false rfl))) ab179), E, (fun c k_ => ((fr257 c (nin_ne (a := 29) k_ rfl)).trans ((fr238 c (nin_ne (a := 30) k_ rfl)).trans ((fr175 c (nin_sub (M := [(30, 30), (41, 42)]) k_ rfl)).trans (fr7 c (nin_ne (a := 30) k_ rfl)))))), (fun j k5_ k6_ => ((fc258 j k5_ k6_).trans ((congrFun (fr238 29 (Nat.ne_of_beq_eq_false rfl)) j).trans ((congrFun (fr175 29 rfl) j).trans (congrFun (fr7 29 (Nat.ne_of_beq_eq_false rfl)) j))))), (fun j k2_ k3_ k4_ k5_ => ((congrFun (fr257 30 (Nat.ne_of_beq_eq_false rfl)) j).trans ((fc239 j k2_ k3_ k4_ k5_).trans ((fc176 j k2_ k3_ k4_ k5_).trans (fc8 j k2_ k3_ k4_ k5_))))), (fun j k0_ k2_ => ((congrFun (fr257 32 (Nat.ne_of_beq_eq_false rfl)) j).trans ((congrFun (fr238 32 (Nat.ne_of_beq_eq_false rfl)) j).trans ((congrFun (fr175 32 rfl) j).trans (congrFun (fr7 32 (Nat.ne_of_beq_eq_false rfl)) j))))), (fun j k0_ => ((congrFun (fr257 37 (Nat.ne_of_beq_eq_false rfl)) j).trans ((congrFun (fr238 37 (Nat.ne_of_beq_eq_false rfl)) j).trans ((congrFun (fr175 37 rfl) j).trans (congrFun (fr7 37 (Nat.ne_of_beq_eq_false rfl)) j)))))⟩
            · replace E := xq_en c231 E
              refine J_aload_n (i := 0) (j := 0) dX3_readLine_72 rfl rfl ?_
              refine J_get (C := RX3) (T := TX3) (Z := 7) (ci := 3) (f := 0) dX3_readLine_73 inG3 rfl (by decide) k260 wc_29 rfl ?_
              refine J_callV (As := []) (rest := []) dX3_readLine_76 (c_Tk_advanceX (d := 2) (u := u174) (g := g) (ex := ex)   (by decide) (((fc176 0 (Nat.ne_of_beq_eq_false rfl) (Nat.ne_of_beq_eq_false rfl) (Nat.ne_of_beq_eq_false rfl) (Nat.ne_of_beq_eq_false rfl)).trans (fc8 0 (Nat.ne_of_beq_eq_false rfl) (Nat.ne_of_beq_eq_false rfl) (Nat.ne_of_beq_eq_false rfl) (Nat.ne_of_beq_eq_false rfl))).trans hp0) (bd_r ((fc176 1 (Nat.ne_of_beq_eq_false rfl) (Nat.ne_of_beq_eq_false rfl) (Nat.ne_of_beq_eq_false rfl) (Nat.ne_of_beq_eq_false rfl)).trans (fc8 1 (Nat.ne_of_beq_eq_false rfl) (Nat.ne_of_beq_eq_false rfl) (Nat.ne_of_beq_eq_false rfl) (Nat.ne_of_beq_eq_false rfl))) hp1) bm177) hq.n k500 k501 k502 wc_30 rfl rfl k92 k503 np_X6_advance (Nat.le_trans (by decide) hd) (by decide) (Nat.le_refl _) (Nat.le_refl _) wlen rfl (Nat.le_of_ble_eq_true rfl) (fun r_ h_ p259 => ?_)
              obtain ⟨u260, rfl, rfl, h261, h262, h263, hx264, fr265, fc266⟩ := p259
              replace E := xq_le hx264 E
              refine J_aload_n (i := 0) (j := 0) dX3_readLine_79 rfl rfl ?_
              refine J_get (C := RX3) (T := TX3) (Z := 7) (ci := 3) (f := 0) dX3_readLine_80 inG3 rfl (by decide) k260 wc_29 rfl ?_
              refine J_getN (C := RX6) (T := TX6) (Z := 6) (ci := 6) (f := 3) dX3_readLine_83 inG6 rfl (by decide) k237 wc_30 rfl ?_
              refine J_iconst (v := 2) dX3_readLine_86 (by decide) ?_
              refine J_icmp_eq (tgt := 95) dX3_readLine_87 (by decide) (fun c267 => ?_) (fun c267 => ?_)
              · replace E := xq_ep c267 E
                refine J_aload_n (i := 0) (j := 0) dX3_readLine_95 rfl rfl ?_
                refine J_get (C := RX3) (T := TX3) (Z := 7) (ci := 3) (f := 3) dX3_readLine_96 inG3 rfl (by decide) k265 wc_29 rfl ?_
                refine J_iload (i := 5) (j := 5) dX3_readLine_99 rfl ?_
                refine J_aload_n (i := 0) (j := 0) dX3_readLine_101 rfl rfl ?_
                refine J_get (C := RX3) (T := TX3) (Z := 7) (ci := 3) (f := 0) dX3_readLine_102 inG3 rfl (by decide) k260 wc_29 rfl ?_
                refine J_getN (C := RX6) (T := TX6) (Z := 6) (ci := 6) (f := 5) dX3_readLine_105 inG6 rfl (by decide) k241 wc_30 rfl ?_
                obtain ⟨u268, e269⟩ : ∃ z, z = ms u260 41 w173.toNatClampNeg (u260 30 5) := ⟨_, rfl⟩
                refine J_iast dX3_readLine_108 wc_41 (vin (bd_lt_hi bw173 (i_nle c231) (bd_r qv17 (sar_b (l := sAr 3) (lo := 0) (hi := 2) (by decide) _))) (by decide)) (ws e269 wk_41 rfl) ?_
                replace E := xq_le e269 E
                refine J_aload_n (i := 0) (j := 0) dX3_readLine_109 rfl rfl ?_
                refine J_get (C := RX3) (T := TX3) (Z := 7) (ci := 3) (f := 4) dX3_readLine_110 inG3 rfl (by decide) k266 wc_29 rfl ?_
                refine J_iload (i := 5) (j := 5) dX3_readLine_113 rfl ?_
                refine J_aload_n (i := 0) (j := 0) dX3_readLine_115 rfl rfl ?_
                refine J_get (C := RX3) (T := TX3) (Z := 7) (ci := 3) (f := 0) dX3_readLine_116 inG3 rfl (by decide) k260 wc_29 rfl ?_
                refine J_getN (C := RX6) (T := TX6) (Z := 6) (ci := 6) (f := 4) dX3_readLine_119 inG6 rfl (by decide) k239 wc_30 rfl ?_
                refine J_ci (v := u260 30 4) (congrFun (ms_c e269 (Nat.ne_of_beq_eq_false rfl)) 4) ?_
                obtain ⟨u270, e271⟩ : ∃ z, z = ms u268 42 w173.toNatClampNeg (u260 30 4) := ⟨_, rfl⟩
                refine J_iast dX3_readLine_122 wc_42 (vin (bd_lt_hi bw173 (i_nle c231) (bd_r qv17 (sar_b (l := sAr 3) (lo := 0) (hi := 2) (by decide) _))) (by decide)) (ws e271 wk_42 rfl) ?_
                replace E := xq_le e271 E
                refine J_iinc (i := 5) (j := 5) (v := (w173 + 1)) (lw := [(5, .int (w173 + 1)), (0, .ref 29), (1, .int sort), (2, .int v11), (3, .int (u2 30 4)), (4, .int v17)]) dX3_readLine_123 rfl rfl (by decide) rfl ?_
                refine J_goto (tgt := 65) dX3_readLine_126 (by decide) ?_
                refine J_lv [1, 2, 3, 4, 5, 0] rfl ?_
                exact ih229 (w173 + 1) u270 (bd_w (l := 0) (h := 2) (bd_add (l := 1) (h := 2) (bd_lt_hi bw173 (i_nle c231) (bd_r qv17 (sar_b (l := sAr 3) (lo := 0) (hi := 2) (by decide) _))) (bd_c (v := 1) (lo := 1) (hi := 1) (by decide)) (by decide)) (by decide)) (fun c k_ => ((ms_c e271 (nin_ne (a := 42) k_ rfl)).trans ((ms_c e269 (nin_ne (a := 41) k_ rfl)).trans ((fr265 c (nin_ne (a := 30) k_ rfl)).trans (fr175 c (nin_sub (M := [(30, 30), (41, 42)]) k_ rfl)))))) (fun j k2_ k3_ k4_ k5_ => ((congrFun (ms_c e271 (Nat.ne_of_beq_eq_false rfl)) j).trans ((congrFun (ms_c e269 (Nat.ne_of_beq_eq_false rfl)) j).trans ((fc266 j k2_ k3_ k4_ k5_).trans (fc176 j k2_ k3_ k4_ k5_))))) (bd_r ((congrFun (ms_c e271 (Nat.ne_of_beq_eq_false rfl)) 2).trans (congrFun (ms_c e269 (Nat.ne_of_beq_eq_false rfl)) 2)) h261) (bd_r ((congrFun (ms_c e271 (Nat.ne_of_beq_eq_false rfl)) 4).trans (congrFun (ms_c e269 (Nat.ne_of_beq_eq_false rfl)) 4)) h262) (ab_c (ms_c e271 (Nat.ne_of_beq_eq_false rfl)) (ab_s e269 (ab_c (fr265 41 (Nat.ne_of_beq_eq_false rfl)) ab179) (h263 c267))) (mu_up 1 bw173 rfl (by decide) (bd_w (l := 1) (h := 2) (bd_add (l := 1) (h := 2) (bd_lt_hi bw173 (i_nle c231) (bd_r qv17 (sar_b (l := sAr 3) (lo := 0) (hi := 2) (by decide) _))) (bd_c (v := 1) (lo := 1) (hi := 1) (by decide)) (by decide)) (by decide)) hm230) E
              · replace E := xq_en c267 E
                refine J_aload_n (i := 0) (j := 0) dX3_readLine_90 rfl rfl ?_
                refine J_callV (As := []) (rest := []) dX3_readLine_91 (c_Rd_breaksOffX (d := 0) (u := u260) (g := g) (ex := ex)   (by decide) ) hq.n k601 k603 k4 wc_29 rfl rfl k91 k604 np_X3_breaksOff (Nat.le_trans (by decide) hd) (by decide) (Nat.le_refl _) (Nat.le_refl _) wlen rfl (Nat.le_of_ble_eq_true rfl) (fun r_ h_ p272 => ?_)
                obtain ⟨t273, u274, rfl, rfl, hx275, fr276, fc277⟩ := p272
                replace E := xq_e2 hx275 E
                exact J_zret hq dX3_readLine_94 rfl (bI_n _) wlen (Nat.le_refl _) (Nat.le_refl _) ⟨t273, u274, rfl, rfl, (bd_r (congrFun (fr276 30 (Nat.ne_of_beq_eq_false rfl)) 2) h261), (bd_r ((congrFun (fr276 32 (Nat.ne_of_beq_eq_false rfl)) 0).trans ((congrFun (fr265 32 (Nat.ne_of_beq_eq_false rfl)) 0).trans ((congrFun (fr175 32 rfl) 0).trans (congrFun (fr7 32 (Nat.ne_of_beq_eq_false rfl)) 0)))) hp3), (bd_r ((congrFun (fr276 32 (Nat.ne_of_beq_eq_false rfl)) 2).trans ((congrFun (fr265 32 (Nat.ne_of_beq_eq_false rfl)) 2).trans ((congrFun (fr175 32 rfl) 2).trans (congrFun (fr7 32 (Nat.ne_of_beq_eq_false rfl)) 2)))) hp4), (ab_c ((fr276 33 (Nat.ne_of_beq_eq_false rfl)).trans ((fr265 33 (Nat.ne_of_beq_eq_false rfl)).trans ((fr175 33 rfl).trans (fr7 33 (Nat.ne_of_beq_eq_false rfl))))) hp5), (bd_r ((congrFun (fr276 37 (Nat.ne_of_beq_eq_false rfl)) 0).trans ((congrFun (fr265 37 (Nat.ne_of_beq_eq_false rfl)) 0).trans ((congrFun (fr175 37 rfl) 0).trans (congrFun (fr7 37 (Nat.ne_of_beq_eq_false rfl)) 0)))) hp6), (km_c ((fr276 38 (Nat.ne_of_beq_eq_false rfl)).trans ((fr265 38 (Nat.ne_of_beq_eq_false rfl)).trans ((fr175 38 rfl).trans (fr7 38 (Nat.ne_of_beq_eq_false rfl))))) ((fr276 40 (Nat.ne_of_beq_eq_false rfl)).trans ((fr265 40 (Nat.ne_of_beq_eq_false rfl)).trans ((fr175 40 rfl).trans (fr7 40 (Nat.ne_of_beq_eq_false rfl))))) hp7), (ab_c ((fr276 41 (Nat.ne_of_beq_eq_false rfl)).trans (fr265 41 (Nat.ne_of_beq_eq_false rfl))) ab179), E, (fun c k_ => ((fr276 c (nin_ne (a := 29) k_ rfl)).trans ((fr265 c (nin_ne (a := 30) k_ rfl)).trans ((fr175 c (nin_sub (M := [(30, 30), (41, 42)]) k_ rfl)).trans (fr7 c (nin_ne (a := 30) k_ rfl)))))), (fun j k5_ k6_ => ((fc277 j k5_ k6_).trans ((congrFun (fr265 29 (Nat.ne_of_beq_eq_false rfl)) j).trans ((congrFun (fr175 29 rfl) j).trans (congrFun (fr7 29 (Nat.ne_of_beq_eq_false rfl)) j))))), (fun j k2_ k3_ k4_ k5_ => ((congrFun (fr276 30 (Nat.ne_of_beq_eq_false rfl)) j).trans ((fc266 j k2_ k3_ k4_ k5_).trans ((fc176 j k2_ k3_ k4_ k5_).trans (fc8 j k2_ k3_ k4_ k5_))))), (fun j k0_ k2_ => ((congrFun (fr276 32 (Nat.ne_of_beq_eq_false rfl)) j).trans ((congrFun (fr265 32 (Nat.ne_of_beq_eq_false rfl)) j).trans ((congrFun (fr175 32 rfl) j).trans (congrFun (fr7 32 (Nat.ne_of_beq_eq_false rfl)) j))))), (fun j k0_ => ((congrFun (fr276 37 (Nat.ne_of_beq_eq_false rfl)) j).trans ((congrFun (fr265 37 (Nat.ne_of_beq_eq_false rfl)) j).trans ((congrFun (fr175 37 rfl) j).trans (congrFun (fr7 37 (Nat.ne_of_beq_eq_false rfl)) j)))))⟩
        refine J_lv [4, 5, 3, 2, 1, 0] rfl ?_
        exact lp227 ((2 - (0 : Int32).toInt).toNat + 1) (0 : Int32) u2 (bd_w (l := 0) (h := 2) (bd_c (v := 0) (lo := 0) (hi := 0) (by decide)) (by decide)) (fun c k_ => rfl) (fun j k2_ k3_ k4_ k5_ => rfl) h3 h4 (ab_c (fr7 41 (Nat.ne_of_beq_eq_false rfl)) hp8) (Nat.lt_succ_self _) E
      · replace E := xq_ep c16 E
        refine J_gets (i := 0) dX3_readLine_47 (by decide) rfl k605 ?_
        refine J_iload_n (i := 2) (j := 1) dX3_readLine_50 rfl rfl ?_
        refine J_sald (i := 0) dX3_readLine_51 (by decide) (vin (bd_ne_lo h12 c15 (by decide)) (by decide)) ?_
        refine J_topi (fun v278 qv278 => ?_)
        replace E := xq_le qv278 E
        refine J_goto (tgt := 60) dX3_readLine_52 (by decide) ?_
        refine J_istore (i := 4) (lw := [(4, .int v278), (3, .int (u2 30 4)), (2, .int v11), (0, .ref 29), (1, .int sort)]) dX3_readLine_60 (by decide) rfl ?_
        refine J_iconst (v := 0) dX3_readLine_62 (by decide) ?_
        refine J_istore (i := 5) (lw := [(5, .int 0), (4, .int v278), (3, .int (u2 30 4)), (2, .int v11), (0, .ref 29), (1, .int sort)]) dX3_readLine_63 (by decide) rfl ?_
        have lp488 : ∀ (n489 : Nat) (w434 : Int32) (u435 : Nat → Nat → Int32), Bd 0 3 w434 → (∀ c, nin c [(30, 30), (41, 42)] = true → u435 c = u2 c) → (∀ j, j ≠ 2 → j ≠ 3 → j ≠ 4 → j ≠ 5 → u435 30 j = u2 30 j) → Bd 0 600 (u435 30 2) → Bd 0 600 (u435 30 4) → AB u435 41 0 999 → (3 - w434.toInt).toNat < n489 → Fx_Rd_readLineX_L65b sort g u2 v11 v278 n489 w434 u435 = Fx_Rd_readLineX sort u g → J x yX3_readLine cX3_readLine 6 (some .boolean) d 0 0 (Wd u g ex).length 65 [(0, .ref 29), (1, .int sort), (2, .int v11), (3, .int (u2 30 4)), (4, .int v278), (5, .int w434)] [] (Wd u435 g ex) 0 0 := by
          intro n489
          induction n489 with
          | zero => intro w434 u435 bw434 fr436 fc437 bm438 bm439 ab440 hm491 _; exact absurd hm491 (Nat.not_lt_zero _)
          | succ n489 ih490 =>
            intro w434 u435 bw434 fr436 fc437 bm438 bm439 ab440 hm491 E
            replace E := Fx_Rd_readLineX_L65b_s.symm.trans E
            refine J_iload (i := 5) (j := 5) dX3_readLine_65 rfl ?_
            refine J_iload (i := 4) (j := 4) dX3_readLine_67 rfl ?_
            refine J_icmp_ge (tgt := 129) dX3_readLine_69 (by decide) (fun c492 => ?_) (fun c492 => ?_)
            · replace E := xq_ep c492 E
              refine J_aload_n (i := 0) (j := 0) dX3_readLine_129 rfl rfl ?_
              refine J_get (C := RX3) (T := TX3) (Z := 7) (ci := 3) (f := 0) dX3_readLine_130 inG3 rfl (by decide) k260 wc_29 rfl ?_
              refine J_callV (As := []) (rest := []) dX3_readLine_133 (c_Tk_advanceX (d := 2) (u := u435) (g := g) (ex := ex)   (by decide) (((fc437 0 (Nat.ne_of_beq_eq_false rfl) (Nat.ne_of_beq_eq_false rfl) (Nat.ne_of_beq_eq_false rfl) (Nat.ne_of_beq_eq_false rfl)).trans (fc8 0 (Nat.ne_of_beq_eq_false rfl) (Nat.ne_of_beq_eq_false rfl) (Nat.ne_of_beq_eq_false rfl) (Nat.ne_of_beq_eq_false rfl))).trans hp0) (bd_r ((fc437 1 (Nat.ne_of_beq_eq_false rfl) (Nat.ne_of_beq_eq_false rfl) (Nat.ne_of_beq_eq_false rfl) (Nat.ne_of_beq_eq_false rfl)).trans (fc8 1 (Nat.ne_of_beq_eq_false rfl) (Nat.ne_of_beq_eq_false rfl) (Nat.ne_of_beq_eq_false rfl) (Nat.ne_of_beq_eq_false rfl))) hp1) bm438) hq.n k500 k501 k502 wc_30 rfl rfl k92 k503 np_X6_advance (Nat.le_trans (by decide) hd) (by decide) (Nat.le_refl _) (Nat.le_refl _) wlen rfl (Nat.le_of_ble_eq_true rfl) (fun r_ h_ p493 => ?_)
              obtain ⟨u494, rfl, rfl, h495, h496, h497, hx498, fr499, fc500⟩ := p493
              replace E := xq_le hx498 E
              refine J_aload_n (i := 0) (j := 0) dX3_readLine_136 rfl rfl ?_
              refine J_get (C := RX3) (T := TX3) (Z := 7) (ci := 3) (f := 0) dX3_readLine_137 inG3 rfl (by decide) k260 wc_29 rfl ?_
              refine J_getN (C := RX6) (T := TX6) (Z := 6) (ci := 6) (f := 3) dX3_readLine_140 inG6 rfl (by decide) k237 wc_30 rfl ?_
              refine J_iconst (v := 3) dX3_readLine_143 (by decide) ?_
              refine J_icmp_eq (tgt := 152) dX3_readLine_144 (by decide) (fun c501 => ?_) (fun c501 => ?_)
              · replace E := xq_ep c501 E
                refine J_aload_n (i := 0) (j := 0) dX3_readLine_152 rfl rfl ?_
                refine J_iload_n (i := 1) (j := 1) dX3_readLine_153 rfl rfl ?_
                refine J_iload_n (i := 2) (j := 2) dX3_readLine_154 rfl rfl ?_
                refine J_iload_n (i := 3) (j := 3) dX3_readLine_155 rfl rfl ?_
                refine J_iload (i := 4) (j := 4) dX3_readLine_156 rfl ?_
                refine J_callV (As := [.int sort, .int v11, .int (u2 30 4), .int v278]) (rest := []) dX3_readLine_158 (c_Rd_takeX (d := 4) (u := u494) (g := g) (ex := ex) (sort := sort) (line := v11) (first := u2 30 4) (count := v278)  (by decide) (bd_ne_lo h12 c15 (by decide)) (bd_r qv278 (sar_b (l := sAr 0) (lo := 0) (hi := 3) (by decide) _)) (Or.inl c16) (Or.inl c16) (bd_r ((congrFun (fr499 32 (Nat.ne_of_beq_eq_false rfl)) 0).trans ((congrFun (fr436 32 rfl) 0).trans (congrFun (fr7 32 (Nat.ne_of_beq_eq_false rfl)) 0))) hp3) (bd_r ((congrFun (fr499 32 (Nat.ne_of_beq_eq_false rfl)) 2).trans ((congrFun (fr436 32 rfl) 2).trans (congrFun (fr7 32 (Nat.ne_of_beq_eq_false rfl)) 2))) hp4) (ab_c ((fr499 33 (Nat.ne_of_beq_eq_false rfl)).trans ((fr436 33 rfl).trans (fr7 33 (Nat.ne_of_beq_eq_false rfl)))) hp5) (bd_r ((congrFun (fr499 37 (Nat.ne_of_beq_eq_false rfl)) 0).trans ((congrFun (fr436 37 rfl) 0).trans (congrFun (fr7 37 (Nat.ne_of_beq_eq_false rfl)) 0))) hp6) (km_c ((fr499 38 (Nat.ne_of_beq_eq_false rfl)).trans ((fr436 38 rfl).trans (fr7 38 (Nat.ne_of_beq_eq_false rfl)))) ((fr499 40 (Nat.ne_of_beq_eq_false rfl)).trans ((fr436 40 rfl).trans (fr7 40 (Nat.ne_of_beq_eq_false rfl)))) hp7) (ab_c (fr499 41 (Nat.ne_of_beq_eq_false rfl)) ab440)) hq.n k609 k611 k5 wc_29 rfl rfl k91 k612 np_X3_take (Nat.le_trans (by decide) hd) (by decide) (Nat.le_refl _) (Nat.le_refl _) wlen rfl (Nat.le_of_ble_eq_true rfl) (fun r_ h_ p502 => ?_)
                obtain ⟨u503, rfl, rfl, h504, h505, h506, h507, h508, hx509, fr510, fc511, fc512, fc513⟩ := p502
                replace E := xq_le hx509 E
                refine J_iconst (v := 1) dX3_readLine_161 (by decide) ?_
                exact J_zret hq dX3_readLine_162 rfl rfl wlen (Nat.le_refl _) (Nat.le_refl _) ⟨true, u503, rfl, rfl, (bd_r (congrFun (fr510 30 rfl) 2) h495), h504, h505, h506, h507, h508, (ab_c ((fr510 41 rfl).trans (fr499 41 (Nat.ne_of_beq_eq_false rfl))) ab440), E, (fun c k_ => ((fr510 c (nin_sub (M := [(29, 29), (32, 40)]) k_ rfl)).trans ((fr499 c (nin_ne (a := 30) k_ rfl)).trans ((fr436 c (nin_sub (M := [(30, 30), (41, 42)]) k_ rfl)).trans (fr7 c (nin_ne (a := 30) k_ rfl)))))), (fun j k5_ k6_ => ((fc511 j k5_ k6_).trans ((congrFun (fr499 29 (Nat.ne_of_beq_eq_false rfl)) j).trans ((congrFun (fr436 29 rfl) j).trans (congrFun (fr7 29 (Nat.ne_of_beq_eq_false rfl)) j))))), (fun j k2_ k3_ k4_ k5_ => ((congrFun (fr510 30 rfl) j).trans ((fc500 j k2_ k3_ k4_ k5_).trans ((fc437 j k2_ k3_ k4_ k5_).trans (fc8 j k2_ k3_ k4_ k5_))))), (fun j k0_ k2_ => ((fc512 j k0_ k2_).trans ((congrFun (fr499 32 (Nat.ne_of_beq_eq_false rfl)) j).trans ((congrFun (fr436 32 rfl) j).trans (congrFun (fr7 32 (Nat.ne_of_beq_eq_false rfl)) j))))), (fun j k0_ => ((fc513 j k0_).trans ((congrFun (fr499 37 (Nat.ne_of_beq_eq_false rfl)) j).trans ((congrFun (fr436 37 rfl) j).trans (congrFun (fr7 37 (Nat.ne_of_beq_eq_false rfl)) j)))))⟩
              · replace E := xq_en c501 E
                refine J_aload_n (i := 0) (j := 0) dX3_readLine_147 rfl rfl ?_
                refine J_callV (As := []) (rest := []) dX3_readLine_148 (c_Rd_breaksOffX (d := 0) (u := u494) (g := g) (ex := ex)   (by decide) ) hq.n k601 k603 k4 wc_29 rfl rfl k91 k604 np_X3_breaksOff (Nat.le_trans (by decide) hd) (by decide) (Nat.le_refl _) (Nat.le_refl _) wlen rfl (Nat.le_of_ble_eq_true rfl) (fun r_ h_ p514 => ?_)
                obtain ⟨t515, u516, rfl, rfl, hx517, fr518, fc519⟩ := p514
                replace E := xq_e2 hx517 E
                exact J_zret hq dX3_readLine_151 rfl (bI_n _) wlen (Nat.le_refl _) (Nat.le_refl _) ⟨t515, u516, rfl, rfl, (bd_r (congrFun (fr518 30 (Nat.ne_of_beq_eq_false rfl)) 2) h495), (bd_r ((congrFun (fr518 32 (Nat.ne_of_beq_eq_false rfl)) 0).trans ((congrFun (fr499 32 (Nat.ne_of_beq_eq_false rfl)) 0).trans ((congrFun (fr436 32 rfl) 0).trans (congrFun (fr7 32 (Nat.ne_of_beq_eq_false rfl)) 0)))) hp3), (bd_r ((congrFun (fr518 32 (Nat.ne_of_beq_eq_false rfl)) 2).trans ((congrFun (fr499 32 (Nat.ne_of_beq_eq_false rfl)) 2).trans ((congrFun (fr436 32 rfl) 2).trans (congrFun (fr7 32 (Nat.ne_of_beq_eq_false rfl)) 2)))) hp4), (ab_c ((fr518 33 (Nat.ne_of_beq_eq_false rfl)).trans ((fr499 33 (Nat.ne_of_beq_eq_false rfl)).trans ((fr436 33 rfl).trans (fr7 33 (Nat.ne_of_beq_eq_false rfl))))) hp5), (bd_r ((congrFun (fr518 37 (Nat.ne_of_beq_eq_false rfl)) 0).trans ((congrFun (fr499 37 (Nat.ne_of_beq_eq_false rfl)) 0).trans ((congrFun (fr436 37 rfl) 0).trans (congrFun (fr7 37 (Nat.ne_of_beq_eq_false rfl)) 0)))) hp6), (km_c ((fr518 38 (Nat.ne_of_beq_eq_false rfl)).trans ((fr499 38 (Nat.ne_of_beq_eq_false rfl)).trans ((fr436 38 rfl).trans (fr7 38 (Nat.ne_of_beq_eq_false rfl))))) ((fr518 40 (Nat.ne_of_beq_eq_false rfl)).trans ((fr499 40 (Nat.ne_of_beq_eq_false rfl)).trans ((fr436 40 rfl).trans (fr7 40 (Nat.ne_of_beq_eq_false rfl))))) hp7), (ab_c ((fr518 41 (Nat.ne_of_beq_eq_false rfl)).trans (fr499 41 (Nat.ne_of_beq_eq_false rfl))) ab440), E, (fun c k_ => ((fr518 c (nin_ne (a := 29) k_ rfl)).trans ((fr499 c (nin_ne (a := 30) k_ rfl)).trans ((fr436 c (nin_sub (M := [(30, 30), (41, 42)]) k_ rfl)).trans (fr7 c (nin_ne (a := 30) k_ rfl)))))), (fun j k5_ k6_ => ((fc519 j k5_ k6_).trans ((congrFun (fr499 29 (Nat.ne_of_beq_eq_false rfl)) j).trans ((congrFun (fr436 29 rfl) j).trans (congrFun (fr7 29 (Nat.ne_of_beq_eq_false rfl)) j))))), (fun j k2_ k3_ k4_ k5_ => ((congrFun (fr518 30 (Nat.ne_of_beq_eq_false rfl)) j).trans ((fc500 j k2_ k3_ k4_ k5_).trans ((fc437 j k2_ k3_ k4_ k5_).trans (fc8 j k2_ k3_ k4_ k5_))))), (fun j k0_ k2_ => ((congrFun (fr518 32 (Nat.ne_of_beq_eq_false rfl)) j).trans ((congrFun (fr499 32 (Nat.ne_of_beq_eq_false rfl)) j).trans ((congrFun (fr436 32 rfl) j).trans (congrFun (fr7 32 (Nat.ne_of_beq_eq_false rfl)) j))))), (fun j k0_ => ((congrFun (fr518 37 (Nat.ne_of_beq_eq_false rfl)) j).trans ((congrFun (fr499 37 (Nat.ne_of_beq_eq_false rfl)) j).trans ((congrFun (fr436 37 rfl) j).trans (congrFun (fr7 37 (Nat.ne_of_beq_eq_false rfl)) j)))))⟩
            · replace E := xq_en c492 E
              refine J_aload_n (i := 0) (j := 0) dX3_readLine_72 rfl rfl ?_
              refine J_get (C := RX3) (T := TX3) (Z := 7) (ci := 3) (f := 0) dX3_readLine_73 inG3 rfl (by decide) k260 wc_29 rfl ?_
              refine J_callV (As := []) (rest := []) dX3_readLine_76 (c_Tk_advanceX (d := 2) (u := u435) (g := g) (ex := ex)   (by decide) (((fc437 0 (Nat.ne_of_beq_eq_false rfl) (Nat.ne_of_beq_eq_false rfl) (Nat.ne_of_beq_eq_false rfl) (Nat.ne_of_beq_eq_false rfl)).trans (fc8 0 (Nat.ne_of_beq_eq_false rfl) (Nat.ne_of_beq_eq_false rfl) (Nat.ne_of_beq_eq_false rfl) (Nat.ne_of_beq_eq_false rfl))).trans hp0) (bd_r ((fc437 1 (Nat.ne_of_beq_eq_false rfl) (Nat.ne_of_beq_eq_false rfl) (Nat.ne_of_beq_eq_false rfl) (Nat.ne_of_beq_eq_false rfl)).trans (fc8 1 (Nat.ne_of_beq_eq_false rfl) (Nat.ne_of_beq_eq_false rfl) (Nat.ne_of_beq_eq_false rfl) (Nat.ne_of_beq_eq_false rfl))) hp1) bm438) hq.n k500 k501 k502 wc_30 rfl rfl k92 k503 np_X6_advance (Nat.le_trans (by decide) hd) (by decide) (Nat.le_refl _) (Nat.le_refl _) wlen rfl (Nat.le_of_ble_eq_true rfl) (fun r_ h_ p520 => ?_)
              obtain ⟨u521, rfl, rfl, h522, h523, h524, hx525, fr526, fc527⟩ := p520
              replace E := xq_le hx525 E
              refine J_aload_n (i := 0) (j := 0) dX3_readLine_79 rfl rfl ?_
              refine J_get (C := RX3) (T := TX3) (Z := 7) (ci := 3) (f := 0) dX3_readLine_80 inG3 rfl (by decide) k260 wc_29 rfl ?_
              refine J_getN (C := RX6) (T := TX6) (Z := 6) (ci := 6) (f := 3) dX3_readLine_83 inG6 rfl (by decide) k237 wc_30 rfl ?_
              refine J_iconst (v := 2) dX3_readLine_86 (by decide) ?_
              refine J_icmp_eq (tgt := 95) dX3_readLine_87 (by decide) (fun c528 => ?_) (fun c528 => ?_)
              · replace E := xq_ep c528 E
                refine J_aload_n (i := 0) (j := 0) dX3_readLine_95 rfl rfl ?_
                refine J_get (C := RX3) (T := TX3) (Z := 7) (ci := 3) (f := 3) dX3_readLine_96 inG3 rfl (by decide) k265 wc_29 rfl ?_
                refine J_iload (i := 5) (j := 5) dX3_readLine_99 rfl ?_
                refine J_aload_n (i := 0) (j := 0) dX3_readLine_101 rfl rfl ?_
                refine J_get (C := RX3) (T := TX3) (Z := 7) (ci := 3) (f := 0) dX3_readLine_102 inG3 rfl (by decide) k260 wc_29 rfl ?_
                refine J_getN (C := RX6) (T := TX6) (Z := 6) (ci := 6) (f := 5) dX3_readLine_105 inG6 rfl (by decide) k241 wc_30 rfl ?_
                obtain ⟨u529, e530⟩ : ∃ z, z = ms u521 41 w434.toNatClampNeg (u521 30 5) := ⟨_, rfl⟩
                refine J_iast dX3_readLine_108 wc_41 (vin (bd_lt_hi bw434 (i_nle c492) (bd_r qv278 (sar_b (l := sAr 0) (lo := 0) (hi := 3) (by decide) _))) (by decide)) (ws e530 wk_41 rfl) ?_
                replace E := xq_le e530 E
                refine J_aload_n (i := 0) (j := 0) dX3_readLine_109 rfl rfl ?_
                refine J_get (C := RX3) (T := TX3) (Z := 7) (ci := 3) (f := 4) dX3_readLine_110 inG3 rfl (by decide) k266 wc_29 rfl ?_
                refine J_iload (i := 5) (j := 5) dX3_readLine_113 rfl ?_
                refine J_aload_n (i := 0) (j := 0) dX3_readLine_115 rfl rfl ?_
                refine J_get (C := RX3) (T := TX3) (Z := 7) (ci := 3) (f := 0) dX3_readLine_116 inG3 rfl (by decide) k260 wc_29 rfl ?_
                refine J_getN (C := RX6) (T := TX6) (Z := 6) (ci := 6) (f := 4) dX3_readLine_119 inG6 rfl (by decide) k239 wc_30 rfl ?_
                refine J_ci (v := u521 30 4) (congrFun (ms_c e530 (Nat.ne_of_beq_eq_false rfl)) 4) ?_
                obtain ⟨u531, e532⟩ : ∃ z, z = ms u529 42 w434.toNatClampNeg (u521 30 4) := ⟨_, rfl⟩
                refine J_iast dX3_readLine_122 wc_42 (vin (bd_lt_hi bw434 (i_nle c492) (bd_r qv278 (sar_b (l := sAr 0) (lo := 0) (hi := 3) (by decide) _))) (by decide)) (ws e532 wk_42 rfl) ?_
                replace E := xq_le e532 E
                refine J_iinc (i := 5) (j := 5) (v := (w434 + 1)) (lw := [(5, .int (w434 + 1)), (0, .ref 29), (1, .int sort), (2, .int v11), (3, .int (u2 30 4)), (4, .int v278)]) dX3_readLine_123 rfl rfl (by decide) rfl ?_
                refine J_goto (tgt := 65) dX3_readLine_126 (by decide) ?_
                refine J_lv [1, 2, 3, 4, 5, 0] rfl ?_
                exact ih490 (w434 + 1) u531 (bd_w (l := 0) (h := 3) (bd_add (l := 1) (h := 3) (bd_lt_hi bw434 (i_nle c492) (bd_r qv278 (sar_b (l := sAr 0) (lo := 0) (hi := 3) (by decide) _))) (bd_c (v := 1) (lo := 1) (hi := 1) (by decide)) (by decide)) (by decide)) (fun c k_ => ((ms_c e532 (nin_ne (a := 42) k_ rfl)).trans ((ms_c e530 (nin_ne (a := 41) k_ rfl)).trans ((fr526 c (nin_ne (a := 30) k_ rfl)).trans (fr436 c (nin_sub (M := [(30, 30), (41, 42)]) k_ rfl)))))) (fun j k2_ k3_ k4_ k5_ => ((congrFun (ms_c e532 (Nat.ne_of_beq_eq_false rfl)) j).trans ((congrFun (ms_c e530 (Nat.ne_of_beq_eq_false rfl)) j).trans ((fc527 j k2_ k3_ k4_ k5_).trans (fc437 j k2_ k3_ k4_ k5_))))) (bd_r ((congrFun (ms_c e532 (Nat.ne_of_beq_eq_false rfl)) 2).trans (congrFun (ms_c e530 (Nat.ne_of_beq_eq_false rfl)) 2)) h522) (bd_r ((congrFun (ms_c e532 (Nat.ne_of_beq_eq_false rfl)) 4).trans (congrFun (ms_c e530 (Nat.ne_of_beq_eq_false rfl)) 4)) h523) (ab_c (ms_c e532 (Nat.ne_of_beq_eq_false rfl)) (ab_s e530 (ab_c (fr526 41 (Nat.ne_of_beq_eq_false rfl)) ab440) (h524 c528))) (mu_up 1 bw434 rfl (by decide) (bd_w (l := 1) (h := 3) (bd_add (l := 1) (h := 3) (bd_lt_hi bw434 (i_nle c492) (bd_r qv278 (sar_b (l := sAr 0) (lo := 0) (hi := 3) (by decide) _))) (bd_c (v := 1) (lo := 1) (hi := 1) (by decide)) (by decide)) (by decide)) hm491) E
              · replace E := xq_en c528 E
                refine J_aload_n (i := 0) (j := 0) dX3_readLine_90 rfl rfl ?_
                refine J_callV (As := []) (rest := []) dX3_readLine_91 (c_Rd_breaksOffX (d := 0) (u := u521) (g := g) (ex := ex)   (by decide) ) hq.n k601 k603 k4 wc_29 rfl rfl k91 k604 np_X3_breaksOff (Nat.le_trans (by decide) hd) (by decide) (Nat.le_refl _) (Nat.le_refl _) wlen rfl (Nat.le_of_ble_eq_true rfl) (fun r_ h_ p533 => ?_)
                obtain ⟨t534, u535, rfl, rfl, hx536, fr537, fc538⟩ := p533
                replace E := xq_e2 hx536 E
                exact J_zret hq dX3_readLine_94 rfl (bI_n _) wlen (Nat.le_refl _) (Nat.le_refl _) ⟨t534, u535, rfl, rfl, (bd_r (congrFun (fr537 30 (Nat.ne_of_beq_eq_false rfl)) 2) h522), (bd_r ((congrFun (fr537 32 (Nat.ne_of_beq_eq_false rfl)) 0).trans ((congrFun (fr526 32 (Nat.ne_of_beq_eq_false rfl)) 0).trans ((congrFun (fr436 32 rfl) 0).trans (congrFun (fr7 32 (Nat.ne_of_beq_eq_false rfl)) 0)))) hp3), (bd_r ((congrFun (fr537 32 (Nat.ne_of_beq_eq_false rfl)) 2).trans ((congrFun (fr526 32 (Nat.ne_of_beq_eq_false rfl)) 2).trans ((congrFun (fr436 32 rfl) 2).trans (congrFun (fr7 32 (Nat.ne_of_beq_eq_false rfl)) 2)))) hp4), (ab_c ((fr537 33 (Nat.ne_of_beq_eq_false rfl)).trans ((fr526 33 (Nat.ne_of_beq_eq_false rfl)).trans ((fr436 33 rfl).trans (fr7 33 (Nat.ne_of_beq_eq_false rfl))))) hp5), (bd_r ((congrFun (fr537 37 (Nat.ne_of_beq_eq_false rfl)) 0).trans ((congrFun (fr526 37 (Nat.ne_of_beq_eq_false rfl)) 0).trans ((congrFun (fr436 37 rfl) 0).trans (congrFun (fr7 37 (Nat.ne_of_beq_eq_false rfl)) 0)))) hp6), (km_c ((fr537 38 (Nat.ne_of_beq_eq_false rfl)).trans ((fr526 38 (Nat.ne_of_beq_eq_false rfl)).trans ((fr436 38 rfl).trans (fr7 38 (Nat.ne_of_beq_eq_false rfl))))) ((fr537 40 (Nat.ne_of_beq_eq_false rfl)).trans ((fr526 40 (Nat.ne_of_beq_eq_false rfl)).trans ((fr436 40 rfl).trans (fr7 40 (Nat.ne_of_beq_eq_false rfl))))) hp7), (ab_c ((fr537 41 (Nat.ne_of_beq_eq_false rfl)).trans (fr526 41 (Nat.ne_of_beq_eq_false rfl))) ab440), E, (fun c k_ => ((fr537 c (nin_ne (a := 29) k_ rfl)).trans ((fr526 c (nin_ne (a := 30) k_ rfl)).trans ((fr436 c (nin_sub (M := [(30, 30), (41, 42)]) k_ rfl)).trans (fr7 c (nin_ne (a := 30) k_ rfl)))))), (fun j k5_ k6_ => ((fc538 j k5_ k6_).trans ((congrFun (fr526 29 (Nat.ne_of_beq_eq_false rfl)) j).trans ((congrFun (fr436 29 rfl) j).trans (congrFun (fr7 29 (Nat.ne_of_beq_eq_false rfl)) j))))), (fun j k2_ k3_ k4_ k5_ => ((congrFun (fr537 30 (Nat.ne_of_beq_eq_false rfl)) j).trans ((fc527 j k2_ k3_ k4_ k5_).trans ((fc437 j k2_ k3_ k4_ k5_).trans (fc8 j k2_ k3_ k4_ k5_))))), (fun j k0_ k2_ => ((congrFun (fr537 32 (Nat.ne_of_beq_eq_false rfl)) j).trans ((congrFun (fr526 32 (Nat.ne_of_beq_eq_false rfl)) j).trans ((congrFun (fr436 32 rfl) j).trans (congrFun (fr7 32 (Nat.ne_of_beq_eq_false rfl)) j))))), (fun j k0_ => ((congrFun (fr537 37 (Nat.ne_of_beq_eq_false rfl)) j).trans ((congrFun (fr526 37 (Nat.ne_of_beq_eq_false rfl)) j).trans ((congrFun (fr436 37 rfl) j).trans (congrFun (fr7 37 (Nat.ne_of_beq_eq_false rfl)) j)))))⟩
        refine J_lv [4, 5, 3, 2, 1, 0] rfl ?_
        exact lp488 ((3 - (0 : Int32).toInt).toNat + 1) (0 : Int32) u2 (bd_w (l := 0) (h := 3) (bd_c (v := 0) (lo := 0) (hi := 0) (by decide)) (by decide)) (fun c k_ => rfl) (fun j k2_ k3_ k4_ k5_ => rfl) h3 h4 (ab_c (fr7 41 (Nat.ne_of_beq_eq_false rfl)) hp8) (Nat.lt_succ_self _) E
    · replace E := xq_ep c15 E
      refine J_aload_n (i := 0) (j := 2) dX3_readLine_38 rfl rfl ?_
      refine J_callV (As := []) (rest := []) dX3_readLine_39 (c_Rd_breaksOffX (d := 0) (u := u2) (g := g) (ex := ex)   (by decide) ) hq.n k601 k603 k4 wc_29 rfl rfl k91 k604 np_X3_breaksOff (Nat.le_trans (by decide) hd) (by decide) (Nat.le_refl _) (Nat.le_refl _) wlen rfl (Nat.le_of_ble_eq_true rfl) (fun r_ h_ p539 => ?_)
      obtain ⟨t540, u541, rfl, rfl, hx542, fr543, fc544⟩ := p539
      replace E := xq_e2 hx542 E
      exact J_zret hq dX3_readLine_42 rfl (bI_n _) wlen (Nat.le_refl _) (Nat.le_refl _) ⟨t540, u541, rfl, rfl, (bd_r (congrFun (fr543 30 (Nat.ne_of_beq_eq_false rfl)) 2) h3), (bd_r ((congrFun (fr543 32 (Nat.ne_of_beq_eq_false rfl)) 0).trans (congrFun (fr7 32 (Nat.ne_of_beq_eq_false rfl)) 0)) hp3), (bd_r ((congrFun (fr543 32 (Nat.ne_of_beq_eq_false rfl)) 2).trans (congrFun (fr7 32 (Nat.ne_of_beq_eq_false rfl)) 2)) hp4), (ab_c ((fr543 33 (Nat.ne_of_beq_eq_false rfl)).trans (fr7 33 (Nat.ne_of_beq_eq_false rfl))) hp5), (bd_r ((congrFun (fr543 37 (Nat.ne_of_beq_eq_false rfl)) 0).trans (congrFun (fr7 37 (Nat.ne_of_beq_eq_false rfl)) 0)) hp6), (km_c ((fr543 38 (Nat.ne_of_beq_eq_false rfl)).trans (fr7 38 (Nat.ne_of_beq_eq_false rfl))) ((fr543 40 (Nat.ne_of_beq_eq_false rfl)).trans (fr7 40 (Nat.ne_of_beq_eq_false rfl))) hp7), (ab_c ((fr543 41 (Nat.ne_of_beq_eq_false rfl)).trans (fr7 41 (Nat.ne_of_beq_eq_false rfl))) hp8), E, (fun c k_ => ((fr543 c (nin_ne (a := 29) k_ rfl)).trans (fr7 c (nin_ne (a := 30) k_ rfl)))), (fun j k5_ k6_ => ((fc544 j k5_ k6_).trans (congrFun (fr7 29 (Nat.ne_of_beq_eq_false rfl)) j))), (fun j k2_ k3_ k4_ k5_ => ((congrFun (fr543 30 (Nat.ne_of_beq_eq_false rfl)) j).trans (fc8 j k2_ k3_ k4_ k5_))), (fun j k0_ k2_ => ((congrFun (fr543 32 (Nat.ne_of_beq_eq_false rfl)) j).trans (congrFun (fr7 32 (Nat.ne_of_beq_eq_false rfl)) j))), (fun j k0_ => ((congrFun (fr543 37 (Nat.ne_of_beq_eq_false rfl)) j).trans (congrFun (fr7 37 (Nat.ne_of_beq_eq_false rfl)) j)))⟩
  · replace E := xq_ep c9 E
    refine J_iconst (v := 0) dX3_readLine_17 (by decide) ?_
    exact J_zret hq dX3_readLine_18 rfl rfl wlen (Nat.le_refl _) (Nat.le_refl _) ⟨false, u2, rfl, rfl, h3, (bd_r (congrFun (fr7 32 (Nat.ne_of_beq_eq_false rfl)) 0) hp3), (bd_r (congrFun (fr7 32 (Nat.ne_of_beq_eq_false rfl)) 2) hp4), (ab_c (fr7 33 (Nat.ne_of_beq_eq_false rfl)) hp5), (bd_r (congrFun (fr7 37 (Nat.ne_of_beq_eq_false rfl)) 0) hp6), (km_c (fr7 38 (Nat.ne_of_beq_eq_false rfl)) (fr7 40 (Nat.ne_of_beq_eq_false rfl)) hp7), (ab_c (fr7 41 (Nat.ne_of_beq_eq_false rfl)) hp8), E, (fun c k_ => (fr7 c (nin_ne (a := 30) k_ rfl))), (fun j k5_ k6_ => (congrFun (fr7 29 (Nat.ne_of_beq_eq_false rfl)) j)), (fun j k2_ k3_ k4_ k5_ => (fc8 j k2_ k3_ k4_ k5_)), (fun j k0_ k2_ => (congrFun (fr7 32 (Nat.ne_of_beq_eq_false rfl)) j)), (fun j k0_ => (congrFun (fr7 37 (Nat.ne_of_beq_eq_false rfl)) j))⟩
set_option maxRecDepth 100000 in
noncomputable def Fx_Rd_closeRainsX (u : Nat → Nat → Int32) (g : Nat → Nat → Int64) : (Nat → Nat → Int32) := if (u 32 2) = (0 : Int32) then (xq_c2 (Fx_H_addRainX (0 : Int32) (100 : Int32) 32 u g) fun t12 u13 => u13) else (xq_lt (Fx_H_chancesX 32 u g) fun v3 => if v3 = (100 : Int32) then (u) else (xq_lt (Fx_Rd_rememberX (4 : Int32) (u 30 1) u g) fun u7 => u7))
set_option maxHeartbeats 4000000 in
set_option maxRecDepth 100000 in
theorem c_Rd_closeRainsX {d : Nat} {u : Nat → Nat → Int32} {g : Nat → Nat → Int64} {ex : List MC}  (hd : 2 ≤ d) (hp0 : Bd 0 9 (u 32 0)) (hp1 : Bd 0 4 (u 32 2)) : CT con0 d 0 0 yX3_closeRains cX3_closeRains 1 none [.ref 29] (Wd u g ex) (fun r h2 => ∃ (u2 : Nat → Nat → Int32), r = none ∧ h2 = Wd u2 g ex ∧ Bd 0 9 (u2 32 0) ∧ Bd 0 4 (u2 32 2) ∧ u2 = Fx_Rd_closeRainsX u g ∧ (∀ c, nin c [(29, 29), (32, 32), (34, 35)] = true → u2 c = u c) ∧ (∀ j, j ≠ 5 → j ≠ 6 → u2 29 j = u 29 j) ∧ (∀ j, j ≠ 2 → u2 32 j = u 32 j)) := by
  refine CT_of (by decide) (Nat.le_of_ble_eq_true rfl) (fun x hq => ?_)
  show J x yX3_closeRains cX3_closeRains 1 none d 0 0 (Wd u g ex).length 0 [(0, .ref 29)] [] (Wd u g ex) 0 0
  have E : Fx_Rd_closeRainsX u g = Fx_Rd_closeRainsX u g := rfl
  refine J_aload_n (i := 0) (j := 0) dX3_closeRains_0 rfl rfl ?_
  refine J_get (C := RX3) (T := TX3) (Z := 7) (ci := 3) (f := 1) dX3_closeRains_1 inG3 rfl (by decide) k261 wc_29 rfl ?_
  refine J_getN (C := RX1) (T := TX1) (Z := 6) (ci := 1) (f := 2) dX3_closeRains_4 inG1 rfl (by decide) k140 wc_32 rfl ?_
  refine J_if_ne (tgt := 24) dX3_closeRains_7 (by decide) (fun c1 => ?_) (fun c1 => ?_)
  · replace E := xq_en c1 E
    refine J_aload_n (i := 0) (j := 0) dX3_closeRains_24 rfl rfl ?_
    refine J_get (C := RX3) (T := TX3) (Z := 7) (ci := 3) (f := 1) dX3_closeRains_25 inG3 rfl (by decide) k261 wc_29 rfl ?_
    refine J_callV (As := []) (rest := []) dX3_closeRains_28 (c_H_chancesX (d := 1) (u := u) (g := g) (ex := ex)  (t := 32) (by decide) (by decide) hp0 (bd_w (l := 0) (h := 4) (bd_ne_lo hp1 c1 (by decide)) (by decide))) hq.n k668 k669 k670 wc_32 rfl rfl k89 k671 np_X1_chancesTogether (Nat.le_trans (by decide) hd) (by decide) (Nat.le_refl _) (Nat.le_refl _) wlen rfl (Nat.le_of_ble_eq_true rfl) (fun r_ h_ p2 => ?_)
    obtain ⟨v3, rfl, rfl, hx4⟩ := p2
    replace E := xq_le hx4 E
    refine J_bipush (v := 100) dX3_closeRains_31 (by decide) ?_
    refine J_icmp_eq (tgt := 48) dX3_closeRains_33 (by decide) (fun c5 => ?_) (fun c5 => ?_)
    · replace E := xq_ep c5 E
      exact J_vret hq dX3_closeRains_48 rfl wlen (Nat.le_refl _) (Nat.le_refl _) ⟨u, rfl, rfl, hp0, (bd_w (l := 0) (h := 4) (bd_ne_lo hp1 c1 (by decide)) (by decide)), E, (fun c k_ => rfl), (fun j k5_ k6_ => rfl), (fun j k2_ => rfl)⟩
    · replace E := xq_en c5 E
      refine J_aload_n (i := 0) (j := 0) dX3_closeRains_36 rfl rfl ?_
      refine J_iconst (v := 4) dX3_closeRains_37 (by decide) ?_
      refine J_aload_n (i := 0) (j := 0) dX3_closeRains_38 rfl rfl ?_
      refine J_get (C := RX3) (T := TX3) (Z := 7) (ci := 3) (f := 0) dX3_closeRains_39 inG3 rfl (by decide) k260 wc_29 rfl ?_
      refine J_getN (C := RX6) (T := TX6) (Z := 6) (ci := 6) (f := 1) dX3_closeRains_42 inG6 rfl (by decide) k234 wc_30 rfl ?_
      refine J_callV (As := [.int 4, .int (u 30 1)]) (rest := []) dX3_closeRains_45 (c_Rd_rememberX (d := 0) (u := u) (g := g) (ex := ex) (newFault := 4) (newPlace := u 30 1)  (by decide) ) hq.n k617 k619 k7 wc_29 rfl rfl k91 k620 np_X3_remember (Nat.le_trans (by decide) hd) (by decide) (Nat.le_refl _) (Nat.le_refl _) wlen rfl (Nat.le_of_ble_eq_true rfl) (fun r_ h_ p6 => ?_)
      obtain ⟨u7, rfl, rfl, hx8, fr9, fc10⟩ := p6
      replace E := xq_le hx8 E
      exact J_vret hq dX3_closeRains_48 rfl wlen (Nat.le_refl _) (Nat.le_refl _) ⟨u7, rfl, rfl, (bd_r (congrFun (fr9 32 (Nat.ne_of_beq_eq_false rfl)) 0) hp0), (bd_r (congrFun (fr9 32 (Nat.ne_of_beq_eq_false rfl)) 2) (bd_w (l := 0) (h := 4) (bd_ne_lo hp1 c1 (by decide)) (by decide))), E, (fun c k_ => (fr9 c (nin_ne (a := 29) k_ rfl))), (fun j k5_ k6_ => (fc10 j k5_ k6_)), (fun j k2_ => (congrFun (fr9 32 (Nat.ne_of_beq_eq_false rfl)) j))⟩
  · replace E := xq_ep c1 E
    refine J_aload_n (i := 0) (j := 0) dX3_closeRains_10 rfl rfl ?_
    refine J_get (C := RX3) (T := TX3) (Z := 7) (ci := 3) (f := 1) dX3_closeRains_11 inG3 rfl (by decide) k261 wc_29 rfl ?_
    refine J_iconst (v := 0) dX3_closeRains_14 (by decide) ?_
    refine J_bipush (v := 100) dX3_closeRains_15 (by decide) ?_
    refine J_callV (As := [.int 0, .int 100]) (rest := []) dX3_closeRains_17 (c_H_addRainX (d := 0) (u := u) (g := g) (ex := ex) (steps := 0) (chance := 100) (t := 32) (by decide) (by decide) hp0 (bd_w (l := 0) (h := 4) (bd_r c1 (bd_c (v := 0) (lo := 0) (hi := 0) (by decide))) (by decide))) hq.n k653 k654 k655 wc_32 rfl rfl k89 k656 np_X1_addRain (Nat.le_trans (by decide) hd) (by decide) (Nat.le_refl _) (Nat.le_refl _) wlen rfl (Nat.le_of_ble_eq_true rfl) (fun r_ h_ p11 => ?_)
    obtain ⟨t12, u13, rfl, rfl, h14, hx15, fr16, fc17⟩ := p11
    replace E := xq_e2 hx15 E
    refine J_pop dX3_closeRains_20 rfl ?_
    refine J_goto (tgt := 48) dX3_closeRains_21 (by decide) ?_
    exact J_vret hq dX3_closeRains_48 rfl wlen (Nat.le_refl _) (Nat.le_refl _) ⟨u13, rfl, rfl, (bd_r (fc17 0 (Nat.ne_of_beq_eq_false rfl)) hp0), h14, E, (fun c k_ => (fr16 c (nin_ne (a := 32) k_ rfl) (nin_ne (a := 34) k_ rfl) (nin_ne (a := 35) k_ rfl))), (fun j k5_ k6_ => (congrFun (fr16 29 (Nat.ne_of_beq_eq_false rfl) (Nat.ne_of_beq_eq_false rfl) (Nat.ne_of_beq_eq_false rfl)) j)), (fun j k2_ => (fc17 j k2_))⟩
set_option maxRecDepth 100000 in
noncomputable def Fx_Rd_readX_J65 (sort : Int32) (g : Nat → Nat → Int64) (u637 : Nat → Nat → Int32) : (Nat → Nat → Int32) := if sort = (0 : Int32) then (if (u637 29 5) = (0 : Int32) then (xq_lt (Fx_Rd_closeRainsX u637 g) fun u722 => u722) else (u637)) else (u637)
set_option maxRecDepth 100000 in
noncomputable def Fx_Rd_readX_L39 (sort : Int32) (g : Nat → Nat → Int64) (n_ : Nat) : (Int32) → (Int32) → (Nat → Nat → Int32) → (Nat → Nat → Int32) := Nat.rec (motive := fun _ => (Int32) → (Int32) → (Nat → Nat → Int32) → (Nat → Nat → Int32)) (fun _ _ _ => default) (fun n_ ih_ w635 w636 u637 => if (600 : Int32) < w636 then (Fx_Rd_readX_J65 sort g u637) else (if w635 = (0 : Int32) then (Fx_Rd_readX_J65 sort g u637) else (xq_c2 (Fx_Rd_readLineX sort u637 g) fun t731 u732 => ih_ (bI t731) (w636 + 1) u732))) n_
set_option maxRecDepth 100000 in
theorem Fx_Rd_readX_L39_s {sort : Int32} {g : Nat → Nat → Int64} {w635 : Int32} {w636 : Int32} {u637 : Nat → Nat → Int32} {n_ : Nat} : Fx_Rd_readX_L39 sort g (n_ + 1) w635 w636 u637 = if (600 : Int32) < w636 then (Fx_Rd_readX_J65 sort g u637) else (if w635 = (0 : Int32) then (Fx_Rd_readX_J65 sort g u637) else (xq_c2 (Fx_Rd_readLineX sort u637 g) fun t731 u732 => (Fx_Rd_readX_L39 sort g n_) (bI t731) (w636 + 1) u732)) := rfl
set_option maxRecDepth 100000 in
noncomputable def Fx_Rd_readX (length : Int32) (sort : Int32) (u : Nat → Nat → Int32) (g : Nat → Nat → Int64) : (Nat → Nat → Int32) := xq_lt (ms u 29 5 0) fun u1 => xq_lt (ms u1 29 6 (-1)) fun u3 => xq_lt (Fx_H_clear32X u3 g) fun u6 => xq_lt (Fx_W_clearX 37 u6 g) fun u13 => xq_lt (Fx_Tk_beginX length u13 g) fun u19 => Fx_Rd_readX_L39 sort g ((601 - (0 : Int32).toInt).toNat + 1) (1 : Int32) (0 : Int32) u19
set_option maxHeartbeats 4000000 in
set_option maxRecDepth 100000 in
theorem c_Rd_readX {d : Nat} {u : Nat → Nat → Int32} {g : Nat → Nat → Int64} {ex : List MC} {length : Int32} {sort : Int32} (hd : 7 ≤ d) (hp0 : Bd 0 600 length) (hp1 : AB u 33 (-1) 999) (hp2 : (KM u 37)) (hp3 : AB u 41 0 999) : CT con0 d 0 0 yX3_read cX3_read 6 none [.ref 29, .ref 2, .int length, .int sort] (Wd u g ex) (fun r h2 => ∃ (u2 : Nat → Nat → Int32), r = none ∧ h2 = Wd u2 g ex ∧ Bd 0 9 (u2 32 0) ∧ Bd 0 4 (u2 32 2) ∧ AB u2 33 (-1) 999 ∧ Bd 0 12 (u2 37 0) ∧ (KM u2 37) ∧ AB u2 41 0 999 ∧ u2 = Fx_Rd_readX length sort u g ∧ (∀ c, nin c [(29, 30), (32, 42)] = true → u2 c = u c) ∧ (∀ j, j ≠ 5 → j ≠ 6 → u2 29 j = u 29 j) ∧ (∀ j, j ≠ 0 → j ≠ 1 → j ≠ 2 → j ≠ 3 → j ≠ 4 → j ≠ 5 → u2 30 j = u 30 j) ∧ (∀ j, j ≠ 0 → j ≠ 2 → u2 32 j = u 32 j) ∧ (∀ j, j ≠ 0 → u2 37 j = u 37 j)) := by
  refine CT_of (by decide) (Nat.le_of_ble_eq_true rfl) (fun x hq => ?_)
  show J x yX3_read cX3_read 6 none d 0 0 (Wd u g ex).length 0 [(0, .ref 29), (1, .ref 2), (2, .int length), (3, .int sort)] [] (Wd u g ex) 0 0
  have E : Fx_Rd_readX length sort u g = Fx_Rd_readX length sort u g := rfl
  refine J_aload_n (i := 0) (j := 0) dX3_read_0 rfl rfl ?_
  refine J_iconst (v := 0) dX3_read_1 (by decide) ?_
  obtain ⟨u1, e2⟩ : ∃ z, z = ms u 29 5 0 := ⟨_, rfl⟩
  refine J_put (C := RX3) (T := TX3) (Z := 7) (ci := 3) (f := 5) (ty0 := tyX3) dX3_read_2 inG3 rfl tyX3_ok nmX3 (by decide) k267 rfl rfl wc_29 (Nat.le_of_ble_eq_true rfl) (fun _ _ => ⟨rfl, rfl⟩) (ws e2 wk_29 rfl) ?_
  replace E := xq_le e2 E
  refine J_aload_n (i := 0) (j := 0) dX3_read_5 rfl rfl ?_
  refine J_iconst (v := (-1)) dX3_read_6 (by decide) ?_
  obtain ⟨u3, e4⟩ : ∃ z, z = ms u1 29 6 (-1) := ⟨_, rfl⟩
  refine J_put (C := RX3) (T := TX3) (Z := 7) (ci := 3) (f := 6) (ty0 := tyX3) dX3_read_7 inG3 rfl tyX3_ok nmX3 (by decide) k269 rfl rfl wc_29 (Nat.le_of_ble_eq_true rfl) (fun _ _ => ⟨rfl, rfl⟩) (ws e4 wk_29 rfl) ?_
  replace E := xq_le e4 E
  refine J_aload_n (i := 0) (j := 0) dX3_read_10 rfl rfl ?_
  refine J_get (C := RX3) (T := TX3) (Z := 7) (ci := 3) (f := 1) dX3_read_11 inG3 rfl (by decide) k261 wc_29 rfl ?_
  refine J_callV (As := []) (rest := []) dX3_read_14 (c_H_clear32X (d := 1) (u := u3) (g := g) (ex := ex)   (by decide) ) hq.n k478 k479 k480 wc_32 rfl rfl k89 k481 np_X1_clear (Nat.le_trans (by decide) hd) (by decide) (Nat.le_refl _) (Nat.le_refl _) wlen rfl (Nat.le_of_ble_eq_true rfl) (fun r_ h_ p5 => ?_)
  obtain ⟨u6, rfl, rfl, h7, h8, hx9, fr10, fc11⟩ := p5
  replace E := xq_le hx9 E
  refine J_aload_n (i := 0) (j := 0) dX3_read_17 rfl rfl ?_
  refine J_get (C := RX3) (T := TX3) (Z := 7) (ci := 3) (f := 2) dX3_read_18 inG3 rfl (by decide) k263 wc_29 rfl ?_
  refine J_callV (As := []) (rest := []) dX3_read_21 (c_W_clearX (d := 0) (u := u6) (g := g) (ex := ex)  (w := 37) (by decide) (by decide)) hq.n k485 k486 k487 wc_37 rfl rfl k90 k488 np_X8_clear (Nat.le_trans (by decide) hd) (by decide) (Nat.le_refl _) (Nat.le_refl _) wlen rfl (Nat.le_of_ble_eq_true rfl) (fun r_ h_ p12 => ?_)
  obtain ⟨u13, rfl, rfl, h14, hx15, fr16, fc17⟩ := p12
  replace E := xq_le hx15 E
  refine J_aload_n (i := 0) (j := 0) dX3_read_24 rfl rfl ?_
  refine J_get (C := RX3) (T := TX3) (Z := 7) (ci := 3) (f := 0) dX3_read_25 inG3 rfl (by decide) k260 wc_29 rfl ?_
  refine J_aload_n (i := 1) (j := 1) dX3_read_28 rfl rfl ?_
  refine J_iload_n (i := 2) (j := 2) dX3_read_29 rfl rfl ?_
  refine J_callV (As := [.ref 2, .int length]) (rest := []) dX3_read_30 (c_Tk_beginX (d := 1) (u := u13) (g := g) (ex := ex) (count := length)  (by decide) hp0) hq.n k489 k490 k491 wc_30 rfl rfl k92 k492 np_X6_begin (Nat.le_trans (by decide) hd) (by decide) (Nat.le_refl _) (Nat.le_refl _) wlen rfl (Nat.le_of_ble_eq_true rfl) (fun r_ h_ p18 => ?_)
  obtain ⟨u19, rfl, rfl, h20, h21, h22, hx23, fr24, fc25⟩ := p18
  replace E := xq_le hx23 E
  refine J_iconst (v := 1) dX3_read_33 (by decide) ?_
  refine J_istore (i := 4) (lw := [(4, .int 1), (0, .ref 29), (1, .ref 2), (2, .int length), (3, .int sort)]) dX3_read_34 (by decide) rfl ?_
  refine J_iconst (v := 0) dX3_read_36 (by decide) ?_
  refine J_istore (i := 5) (lw := [(5, .int 0), (4, .int 1), (0, .ref 29), (1, .ref 2), (2, .int length), (3, .int sort)]) dX3_read_37 (by decide) rfl ?_
  have lp696 : ∀ (n697 : Nat) (w635 : Int32) (w636 : Int32) (u637 : Nat → Nat → Int32), Bd 0 1 w635 → Bd 0 601 w636 → (∀ c, nin c [(29, 30), (32, 42)] = true → u637 c = u19 c) → (∀ j, j ≠ 5 → j ≠ 6 → u637 29 j = u19 29 j) → (∀ j, j ≠ 2 → j ≠ 3 → j ≠ 4 → j ≠ 5 → u637 30 j = u19 30 j) → Bd 0 600 (u637 30 2) → (∀ j, j ≠ 0 → j ≠ 2 → u637 32 j = u19 32 j) → Bd 0 9 (u637 32 0) → Bd 0 4 (u637 32 2) → AB u637 33 (-1) 999 → (∀ j, j ≠ 0 → u637 37 j = u19 37 j) → Bd 0 12 (u637 37 0) → AB u637 41 0 999 → KM u637 37 → (601 - w636.toInt).toNat < n697 → Fx_Rd_readX_L39 sort g n697 w635 w636 u637 = Fx_Rd_readX length sort u g → J x yX3_read cX3_read 6 none d 0 0 (Wd u g ex).length 39 [(0, .ref 29), (3, .int sort), (4, .int w635), (5, .int w636)] [] (Wd u637 g ex) 0 0 := by
    intro n697
    induction n697 with
    | zero => intro w635 w636 u637 bw635 bw636 fr638 fc639 fc640 bm641 fc642 bm643 bm644 ab645 fc646 bm647 ab648 km649 hm699 _; exact absurd hm699 (Nat.not_lt_zero _)
    | succ n697 ih698 =>
      intro w635 w636 u637 bw635 bw636 fr638 fc639 fc640 bm641 fc642 bm643 bm644 ab645 fc646 bm647 ab648 km649 hm699 E
      replace E := Fx_Rd_readX_L39_s.symm.trans E
      refine J_iload (i := 5) (j := 3) dX3_read_39 rfl ?_
      refine J_sipush (v := 600) dX3_read_41 (by decide) ?_
      have jn718 : ∀ (_ : Unit), Fx_Rd_readX_J65 sort g u637 = Fx_Rd_readX length sort u g → J x yX3_read cX3_read 6 none d 0 0 (Wd u g ex).length 65 [(0, .ref 29), (3, .int sort)] [] (Wd u637 g ex) 0 0 := by
        intro _ E
        refine J_iload_n (i := 3) (j := 1) dX3_read_65 rfl rfl ?_
        refine J_if_ne (tgt := 80) dX3_read_66 (by decide) (fun c719 => ?_) (fun c719 => ?_)
        · replace E := xq_en c719 E
          exact J_vret hq dX3_read_80 rfl wlen (Nat.le_refl _) (Nat.le_refl _) ⟨u637, rfl, rfl, bm643, bm644, ab645, bm647, km649, ab648, E, (fun c k_ => ((fr638 c (nin_sub (M := [(29, 30), (32, 42)]) k_ rfl)).trans ((fr24 c (nin_ne (a := 30) k_ rfl)).trans ((fr16 c (nin_ne (a := 37) k_ rfl)).trans ((fr10 c (nin_ne (a := 32) k_ rfl) (nin_ne (a := 36) k_ rfl)).trans ((ms_c e4 (nin_ne (a := 29) k_ rfl)).trans (ms_c e2 (nin_ne (a := 29) k_ rfl)))))))), (fun j k5_ k6_ => ((fc639 j k5_ k6_).trans ((congrFun (fr24 29 (Nat.ne_of_beq_eq_false rfl)) j).trans ((congrFun (fr16 29 (Nat.ne_of_beq_eq_false rfl)) j).trans ((congrFun (fr10 29 (Nat.ne_of_beq_eq_false rfl) (Nat.ne_of_beq_eq_false rfl)) j).trans ((ms_i e4 k6_).trans (ms_i e2 k5_))))))), (fun j k0_ k1_ k2_ k3_ k4_ k5_ => ((fc640 j k2_ k3_ k4_ k5_).trans ((fc25 j k0_ k1_ k2_).trans ((congrFun (fr16 30 (Nat.ne_of_beq_eq_false rfl)) j).trans ((congrFun (fr10 30 (Nat.ne_of_beq_eq_false rfl) (Nat.ne_of_beq_eq_false rfl)) j).trans ((congrFun (ms_c e4 (Nat.ne_of_beq_eq_false rfl)) j).trans (congrFun (ms_c e2 (Nat.ne_of_beq_eq_false rfl)) j))))))), (fun j k0_ k2_ => ((fc642 j k0_ k2_).trans ((congrFun (fr24 32 (Nat.ne_of_beq_eq_false rfl)) j).trans ((congrFun (fr16 32 (Nat.ne_of_beq_eq_false rfl)) j).trans ((fc11 j k0_ k2_).trans ((congrFun (ms_c e4 (Nat.ne_of_beq_eq_false rfl)) j).trans (congrFun (ms_c e2 (Nat.ne_of_beq_eq_false rfl)) j))))))), (fun j k0_ => ((fc646 j k0_).trans ((congrFun (fr24 37 (Nat.ne_of_beq_eq_false rfl)) j).trans ((fc17 j k0_).trans ((congrFun (fr10 37 (Nat.ne_of_beq_eq_false rfl) (Nat.ne_of_beq_eq_false rfl)) j).trans ((congrFun (ms_c e4 (Nat.ne_of_beq_eq_false rfl)) j).trans (congrFun (ms_c e2 (Nat.ne_of_beq_eq_false rfl)) j)))))))⟩
        · replace E := xq_ep c719 E
          refine J_aload_n (i := 0) (j := 0) dX3_read_69 rfl rfl ?_
          refine J_get (C := RX3) (T := TX3) (Z := 7) (ci := 3) (f := 5) dX3_read_70 inG3 rfl (by decide) k267 wc_29 rfl ?_
          refine J_if_ne (tgt := 80) dX3_read_73 (by decide) (fun c720 => ?_) (fun c720 => ?_)
          · replace E := xq_en c720 E
            exact J_vret hq dX3_read_80 rfl wlen (Nat.le_refl _) (Nat.le_refl _) ⟨u637, rfl, rfl, bm643, bm644, ab645, bm647, km649, ab648, E, (fun c k_ => ((fr638 c (nin_sub (M := [(29, 30), (32, 42)]) k_ rfl)).trans ((fr24 c (nin_ne (a := 30) k_ rfl)).trans ((fr16 c (nin_ne (a := 37) k_ rfl)).trans ((fr10 c (nin_ne (a := 32) k_ rfl) (nin_ne (a := 36) k_ rfl)).trans ((ms_c e4 (nin_ne (a := 29) k_ rfl)).trans (ms_c e2 (nin_ne (a := 29) k_ rfl)))))))), (fun j k5_ k6_ => ((fc639 j k5_ k6_).trans ((congrFun (fr24 29 (Nat.ne_of_beq_eq_false rfl)) j).trans ((congrFun (fr16 29 (Nat.ne_of_beq_eq_false rfl)) j).trans ((congrFun (fr10 29 (Nat.ne_of_beq_eq_false rfl) (Nat.ne_of_beq_eq_false rfl)) j).trans ((ms_i e4 k6_).trans (ms_i e2 k5_))))))), (fun j k0_ k1_ k2_ k3_ k4_ k5_ => ((fc640 j k2_ k3_ k4_ k5_).trans ((fc25 j k0_ k1_ k2_).trans ((congrFun (fr16 30 (Nat.ne_of_beq_eq_false rfl)) j).trans ((congrFun (fr10 30 (Nat.ne_of_beq_eq_false rfl) (Nat.ne_of_beq_eq_false rfl)) j).trans ((congrFun (ms_c e4 (Nat.ne_of_beq_eq_false rfl)) j).trans (congrFun (ms_c e2 (Nat.ne_of_beq_eq_false rfl)) j))))))), (fun j k0_ k2_ => ((fc642 j k0_ k2_).trans ((congrFun (fr24 32 (Nat.ne_of_beq_eq_false rfl)) j).trans ((congrFun (fr16 32 (Nat.ne_of_beq_eq_false rfl)) j).trans ((fc11 j k0_ k2_).trans ((congrFun (ms_c e4 (Nat.ne_of_beq_eq_false rfl)) j).trans (congrFun (ms_c e2 (Nat.ne_of_beq_eq_false rfl)) j))))))), (fun j k0_ => ((fc646 j k0_).trans ((congrFun (fr24 37 (Nat.ne_of_beq_eq_false rfl)) j).trans ((fc17 j k0_).trans ((congrFun (fr10 37 (Nat.ne_of_beq_eq_false rfl) (Nat.ne_of_beq_eq_false rfl)) j).trans ((congrFun (ms_c e4 (Nat.ne_of_beq_eq_false rfl)) j).trans (congrFun (ms_c e2 (Nat.ne_of_beq_eq_false rfl)) j)))))))⟩
          · replace E := xq_ep c720 E
            refine J_aload_n (i := 0) (j := 0) dX3_read_76 rfl rfl ?_
            refine J_callV (As := []) (rest := []) dX3_read_77 (c_Rd_closeRainsX (d := 2) (u := u637) (g := g) (ex := ex)   (by decide) bm643 bm644) hq.n k664 k666 k11 wc_29 rfl rfl k91 k667 np_X3_closeRains (Nat.le_trans (by decide) hd) (by decide) (Nat.le_refl _) (Nat.le_refl _) wlen rfl (Nat.le_of_ble_eq_true rfl) (fun r_ h_ p721 => ?_)
            obtain ⟨u722, rfl, rfl, h723, h724, hx725, fr726, fc727, fc728⟩ := p721
            replace E := xq_le hx725 E
            exact J_vret hq dX3_read_80 rfl wlen (Nat.le_refl _) (Nat.le_refl _) ⟨u722, rfl, rfl, (bd_r (fc728 0 (Nat.ne_of_beq_eq_false rfl)) bm643), h724, (ab_c (fr726 33 rfl) ab645), (bd_r (congrFun (fr726 37 rfl) 0) bm647), (km_c (fr726 38 rfl) (fr726 40 rfl) km649), (ab_c (fr726 41 rfl) ab648), E, (fun c k_ => ((fr726 c (nin_sub (M := [(29, 29), (32, 32), (34, 35)]) k_ rfl)).trans ((fr638 c (nin_sub (M := [(29, 30), (32, 42)]) k_ rfl)).trans ((fr24 c (nin_ne (a := 30) k_ rfl)).trans ((fr16 c (nin_ne (a := 37) k_ rfl)).trans ((fr10 c (nin_ne (a := 32) k_ rfl) (nin_ne (a := 36) k_ rfl)).trans ((ms_c e4 (nin_ne (a := 29) k_ rfl)).trans (ms_c e2 (nin_ne (a := 29) k_ rfl))))))))), (fun j k5_ k6_ => ((fc727 j k5_ k6_).trans ((fc639 j k5_ k6_).trans ((congrFun (fr24 29 (Nat.ne_of_beq_eq_false rfl)) j).trans ((congrFun (fr16 29 (Nat.ne_of_beq_eq_false rfl)) j).trans ((congrFun (fr10 29 (Nat.ne_of_beq_eq_false rfl) (Nat.ne_of_beq_eq_false rfl)) j).trans ((ms_i e4 k6_).trans (ms_i e2 k5_)))))))), (fun j k0_ k1_ k2_ k3_ k4_ k5_ => ((congrFun (fr726 30 rfl) j).trans ((fc640 j k2_ k3_ k4_ k5_).trans ((fc25 j k0_ k1_ k2_).trans ((congrFun (fr16 30 (Nat.ne_of_beq_eq_false rfl)) j).trans ((congrFun (fr10 30 (Nat.ne_of_beq_eq_false rfl) (Nat.ne_of_beq_eq_false rfl)) j).trans ((congrFun (ms_c e4 (Nat.ne_of_beq_eq_false rfl)) j).trans (congrFun (ms_c e2 (Nat.ne_of_beq_eq_false rfl)) j)))))))), (fun j k0_ k2_ => ((fc728 j k2_).trans ((fc642 j k0_ k2_).trans ((congrFun (fr24 32 (Nat.ne_of_beq_eq_false rfl)) j).trans ((congrFun (fr16 32 (Nat.ne_of_beq_eq_false rfl)) j).trans ((fc11 j k0_ k2_).trans ((congrFun (ms_c e4 (Nat.ne_of_beq_eq_false rfl)) j).trans (congrFun (ms_c e2 (Nat.ne_of_beq_eq_false rfl)) j)))))))), (fun j k0_ => ((congrFun (fr726 37 rfl) j).trans ((fc646 j k0_).trans ((congrFun (fr24 37 (Nat.ne_of_beq_eq_false rfl)) j).trans ((fc17 j k0_).trans ((congrFun (fr10 37 (Nat.ne_of_beq_eq_false rfl) (Nat.ne_of_beq_eq_false rfl)) j).trans ((congrFun (ms_c e4 (Nat.ne_of_beq_eq_false rfl)) j).trans (congrFun (ms_c e2 (Nat.ne_of_beq_eq_false rfl)) j))))))))⟩
      refine J_icmp_gt (tgt := 65) dX3_read_44 (by decide) (fun c700 => ?_) (fun c700 => ?_)
      · replace E := xq_ep c700 E
        refine J_lv [0, 1] rfl ?_
        exact jn718 ()  E
      · replace E := xq_en c700 E
        refine J_iload (i := 4) (j := 2) dX3_read_47 rfl ?_
        refine J_if_eq (tgt := 65) dX3_read_49 (by decide) (fun c729 => ?_) (fun c729 => ?_)
        · replace E := xq_ep c729 E
          refine J_lv [0, 1] rfl ?_
          exact jn718 ()  E
        · replace E := xq_en c729 E
          refine J_aload_n (i := 0) (j := 0) dX3_read_52 rfl rfl ?_
          refine J_iload_n (i := 3) (j := 1) dX3_read_53 rfl rfl ?_
          refine J_callV (As := [.int sort]) (rest := []) dX3_read_54 (c_Rd_readLineX (d := 6) (u := u637) (g := g) (ex := ex) (sort := sort)  (by decide) ((fc640 0 (Nat.ne_of_beq_eq_false rfl) (Nat.ne_of_beq_eq_false rfl) (Nat.ne_of_beq_eq_false rfl) (Nat.ne_of_beq_eq_false rfl)).trans h20) (bd_r (fc640 1 (Nat.ne_of_beq_eq_false rfl) (Nat.ne_of_beq_eq_false rfl) (Nat.ne_of_beq_eq_false rfl) (Nat.ne_of_beq_eq_false rfl)) h21) bm641 bm643 bm644 ab645 bm647 km649 ab648) hq.n k496 k498 k0 wc_29 rfl rfl k91 k499 np_X3_readLine (Nat.le_trans (by decide) hd) (by decide) (Nat.le_refl _) (Nat.le_refl _) wlen rfl (Nat.le_of_ble_eq_true rfl) (fun r_ h_ p730 => ?_)
          obtain ⟨t731, u732, rfl, rfl, h733, h734, h735, h736, h737, h738, h739, hx740, fr741, fc742, fc743, fc744, fc745⟩ := p730
          replace E := xq_e2 hx740 E
          refine J_istore (i := 4) (lw := [(4, .int (bI t731)), (0, .ref 29), (3, .int sort), (5, .int w636)]) dX3_read_57 (by decide) rfl ?_
          refine J_iinc (i := 5) (j := 3) (v := (w636 + 1)) (lw := [(5, .int (w636 + 1)), (4, .int (bI t731)), (0, .ref 29), (3, .int sort)]) dX3_read_59 rfl rfl (by decide) rfl ?_
          refine J_goto (tgt := 39) dX3_read_62 (by decide) ?_
          refine J_lv [2, 3, 1, 0] rfl ?_
          exact ih698 (bI t731) (w636 + 1) u732 (bd_bI t731) (bd_w (l := 0) (h := 601) (bd_add (l := 1) (h := 601) (bd_le_hi bw636 (i_nlt c700) (bd_c (v := 600) (lo := 600) (hi := 600) (by decide))) (bd_c (v := 1) (lo := 1) (hi := 1) (by decide)) (by decide)) (by decide)) (fun c k_ => ((fr741 c (nin_sub (M := [(29, 30), (32, 42)]) k_ rfl)).trans (fr638 c (nin_sub (M := [(29, 30), (32, 42)]) k_ rfl)))) (fun j k5_ k6_ => ((fc742 j k5_ k6_).trans (fc639 j k5_ k6_))) (fun j k2_ k3_ k4_ k5_ => ((fc743 j k2_ k3_ k4_ k5_).trans (fc640 j k2_ k3_ k4_ k5_))) h733 (fun j k0_ k2_ => ((fc744 j k0_ k2_).trans (fc642 j k0_ k2_))) h734 h735 h736 (fun j k0_ => ((fc745 j k0_).trans (fc646 j k0_))) h737 h739 h738 (mu_up 1 bw636 rfl (by decide) (bd_w (l := 1) (h := 601) (bd_add (l := 1) (h := 601) (bd_le_hi bw636 (i_nlt c700) (bd_c (v := 600) (lo := 600) (hi := 600) (by decide))) (bd_c (v := 1) (lo := 1) (hi := 1) (by decide)) (by decide)) (by decide)) hm699) E
  refine J_lv [2, 5, 1, 0] rfl ?_
  exact lp696 ((601 - (0 : Int32).toInt).toNat + 1) (1 : Int32) (0 : Int32) u19 (bd_w (l := 0) (h := 1) (bd_c (v := 1) (lo := 1) (hi := 1) (by decide)) (by decide)) (bd_w (l := 0) (h := 601) (bd_c (v := 0) (lo := 0) (hi := 0) (by decide)) (by decide)) (fun c k_ => rfl) (fun j k5_ k6_ => rfl) (fun j k2_ k3_ k4_ k5_ => rfl) (bd_w (l := 0) (h := 600) h22 (by decide)) (fun j k0_ k2_ => rfl) (bd_r ((congrFun (fr24 32 (Nat.ne_of_beq_eq_false rfl)) 0).trans (congrFun (fr16 32 (Nat.ne_of_beq_eq_false rfl)) 0)) h7) (bd_r ((congrFun (fr24 32 (Nat.ne_of_beq_eq_false rfl)) 2).trans (congrFun (fr16 32 (Nat.ne_of_beq_eq_false rfl)) 2)) h8) (ab_c ((fr24 33 (Nat.ne_of_beq_eq_false rfl)).trans ((fr16 33 (Nat.ne_of_beq_eq_false rfl)).trans ((fr10 33 (Nat.ne_of_beq_eq_false rfl) (Nat.ne_of_beq_eq_false rfl)).trans ((ms_c e4 (Nat.ne_of_beq_eq_false rfl)).trans (ms_c e2 (Nat.ne_of_beq_eq_false rfl)))))) hp1) (fun j k0_ => rfl) (bd_r (congrFun (fr24 37 (Nat.ne_of_beq_eq_false rfl)) 0) (bd_w (l := 0) (h := 12) h14 (by decide))) (ab_c ((fr24 41 (Nat.ne_of_beq_eq_false rfl)).trans ((fr16 41 (Nat.ne_of_beq_eq_false rfl)).trans ((fr10 41 (Nat.ne_of_beq_eq_false rfl) (Nat.ne_of_beq_eq_false rfl)).trans ((ms_c e4 (Nat.ne_of_beq_eq_false rfl)).trans (ms_c e2 (Nat.ne_of_beq_eq_false rfl)))))) hp3) (km_c ((fr24 38 (Nat.ne_of_beq_eq_false rfl)).trans ((fr16 38 (Nat.ne_of_beq_eq_false rfl)).trans ((fr10 38 (Nat.ne_of_beq_eq_false rfl) (Nat.ne_of_beq_eq_false rfl)).trans ((ms_c e4 (Nat.ne_of_beq_eq_false rfl)).trans (ms_c e2 (Nat.ne_of_beq_eq_false rfl)))))) ((fr24 40 (Nat.ne_of_beq_eq_false rfl)).trans ((fr16 40 (Nat.ne_of_beq_eq_false rfl)).trans ((fr10 40 (Nat.ne_of_beq_eq_false rfl) (Nat.ne_of_beq_eq_false rfl)).trans ((ms_c e4 (Nat.ne_of_beq_eq_false rfl)).trans (ms_c e2 (Nat.ne_of_beq_eq_false rfl)))))) hp2) (Nat.lt_succ_self _) E
set_option maxRecDepth 100000 in
noncomputable def Fx_T_numberForX (sort : Int32) (at0 : Int32) (u : Nat → Nat → Int32) (g : Nat → Nat → Int64) : Int32 := if sort = (0 : Int32) then (if sort = (0 : Int32) then (if sort = (0 : Int32) then (if at0 = ((-1) : Int32) then (if (2 : Int32) ≤ (u 1 5) then (((-1) : Int32)) else ((u 1 5))) else (if at0 < (0 : Int32) then (((-1) : Int32)) else (if (u 1 5) ≤ at0 then (((-1) : Int32)) else (at0)))) else (default)) else (default)) else (if sort = (1 : Int32) then (if sort = (0 : Int32) then (default) else (if sort = (0 : Int32) then (default) else (if at0 = ((-1) : Int32) then (if (3 : Int32) ≤ (u 1 7) then (((-1) : Int32)) else ((u 1 7))) else (if at0 < (0 : Int32) then (((-1) : Int32)) else (if (u 1 7) ≤ at0 then (((-1) : Int32)) else (at0)))))) else (((-1) : Int32)))
set_option maxHeartbeats 4000000 in
set_option maxRecDepth 100000 in
theorem c_T_numberForX {d : Nat} {u : Nat → Nat → Int32} {g : Nat → Nat → Int64} {ex : List MC} {sort : Int32} {at0 : Int32} (hd : 0 ≤ d) (hp0 : Bd 0 2 (u 1 5)) (hp1 : Bd 0 3 (u 1 7)) : CT con0 d 0 0 yX7_numberFor cX7_numberFor 5 (some .int) [.ref 1, .int sort, .int at0] (Wd u g ex) (fun r h2 => ∃ (z : Int32), r = some (.int z) ∧ h2 = Wd u g ex ∧ (z = -1 ∨ (sort = 0 ∧ Bd 0 1 z) ∨ (sort = 1 ∧ Bd 0 2 z)) ∧ z = Fx_T_numberForX sort at0 u g) := by
  refine CT_of (by decide) (Nat.le_of_ble_eq_true rfl) (fun x hq => ?_)
  show J x yX7_numberFor cX7_numberFor 5 (some .int) d 0 0 (Wd u g ex).length 0 [(0, .ref 1), (1, .int sort), (2, .int at0)] [] (Wd u g ex) 0 0
  have E : Fx_T_numberForX sort at0 u g = Fx_T_numberForX sort at0 u g := rfl
  refine J_iload_n (i := 1) (j := 1) dX7_numberFor_0 rfl rfl ?_
  refine J_if_eq (tgt := 11) dX7_numberFor_1 (by decide) (fun c1 => ?_) (fun c1 => ?_)
  · replace E := xq_ep c1 E
    refine J_iload_n (i := 1) (j := 1) dX7_numberFor_11 rfl rfl ?_
    refine J_if_ne (tgt := 22) dX7_numberFor_12 (by decide) (fun c2 => ?_) (fun c2 => ?_)
    · exact (bd_no (bd_ne_lo (bd_r c1 (bd_c (v := 0) (lo := 0) (hi := 0) (by decide))) c2 (by decide)) (by decide)).elim
    · replace E := xq_ep c2 E
      refine J_aload_n (i := 0) (j := 0) dX7_numberFor_15 rfl rfl ?_
      refine J_get (C := RX7) (T := TX7) (Z := 8) (ci := 7) (f := 5) dX7_numberFor_16 inG7 rfl (by decide) k196 wc_1 rfl ?_
      refine J_goto (tgt := 26) dX7_numberFor_19 (by decide) ?_
      refine J_istore_n (i := 3) (lw := [(3, .int (u 1 5)), (0, .ref 1), (1, .int sort), (2, .int at0)]) dX7_numberFor_26 rfl (by decide) rfl ?_
      refine J_iload_n (i := 1) (j := 2) dX7_numberFor_27 rfl rfl ?_
      refine J_if_ne (tgt := 35) dX7_numberFor_28 (by decide) (fun c3 => ?_) (fun c3 => ?_)
      · exact (bd_no (bd_ne_lo (bd_r c1 (bd_c (v := 0) (lo := 0) (hi := 0) (by decide))) c3 (by decide)) (by decide)).elim
      · replace E := xq_ep c3 E
        refine J_iconst (v := 2) dX7_numberFor_31 (by decide) ?_
        refine J_goto (tgt := 36) dX7_numberFor_32 (by decide) ?_
        refine J_istore (i := 4) (lw := [(4, .int 2), (3, .int (u 1 5)), (0, .ref 1), (1, .int sort), (2, .int at0)]) dX7_numberFor_36 (by decide) rfl ?_
        refine J_iload_n (i := 2) (j := 4) dX7_numberFor_38 rfl rfl ?_
        refine J_iconst (v := (-1)) dX7_numberFor_39 (by decide) ?_
        refine J_icmp_ne (tgt := 55) dX7_numberFor_40 (by decide) (fun c4 => ?_) (fun c4 => ?_)
        · replace E := xq_en c4 E
          refine J_iload_n (i := 2) (j := 4) dX7_numberFor_55 rfl rfl ?_
          refine J_if_lt (tgt := 68) dX7_numberFor_56 (by decide) (fun c5 => ?_) (fun c5 => ?_)
          · replace E := xq_ep c5 E
            refine J_iconst (v := (-1)) dX7_numberFor_68 (by decide) ?_
            exact J_iret hq dX7_numberFor_69 rfl wlen (Nat.le_refl _) (Nat.le_refl _) ⟨((-1) : Int32), rfl, rfl, (Or.inl rfl), E⟩
          · replace E := xq_en c5 E
            refine J_iload_n (i := 2) (j := 4) dX7_numberFor_59 rfl rfl ?_
            refine J_iload_n (i := 3) (j := 1) dX7_numberFor_60 rfl rfl ?_
            refine J_icmp_ge (tgt := 68) dX7_numberFor_61 (by decide) (fun c6 => ?_) (fun c6 => ?_)
            · replace E := xq_ep c6 E
              refine J_iconst (v := (-1)) dX7_numberFor_68 (by decide) ?_
              exact J_iret hq dX7_numberFor_69 rfl wlen (Nat.le_refl _) (Nat.le_refl _) ⟨((-1) : Int32), rfl, rfl, (Or.inl rfl), E⟩
            · replace E := xq_en c6 E
              refine J_iload_n (i := 2) (j := 4) dX7_numberFor_64 rfl rfl ?_
              refine J_goto (tgt := 69) dX7_numberFor_65 (by decide) ?_
              exact J_iret hq dX7_numberFor_69 rfl wlen (Nat.le_refl _) (Nat.le_refl _) ⟨at0, rfl, rfl, (Or.inr (Or.inl ⟨c1, (bd_lt_hi (bd_le_lo (bd_any at0) (i_nlt c5) (bd_c (v := 0) (lo := 0) (hi := 0) (by decide))) (i_nle c6) hp0)⟩)), E⟩
        · replace E := xq_ep c4 E
          refine J_iload_n (i := 3) (j := 1) dX7_numberFor_43 rfl rfl ?_
          refine J_iload (i := 4) (j := 0) dX7_numberFor_44 rfl ?_
          refine J_icmp_ge (tgt := 53) dX7_numberFor_46 (by decide) (fun c7 => ?_) (fun c7 => ?_)
          · replace E := xq_ep c7 E
            refine J_iconst (v := (-1)) dX7_numberFor_53 (by decide) ?_
            exact J_iret hq dX7_numberFor_54 rfl wlen (Nat.le_refl _) (Nat.le_refl _) ⟨((-1) : Int32), rfl, rfl, (Or.inl rfl), E⟩
          · replace E := xq_en c7 E
            refine J_iload_n (i := 3) (j := 1) dX7_numberFor_49 rfl rfl ?_
            refine J_goto (tgt := 54) dX7_numberFor_50 (by decide) ?_
            exact J_iret hq dX7_numberFor_54 rfl wlen (Nat.le_refl _) (Nat.le_refl _) ⟨(u 1 5), rfl, rfl, (Or.inr (Or.inl ⟨c1, (bd_lt_hi hp0 (i_nle c7) (bd_c (v := 2) (lo := 2) (hi := 2) (by decide)))⟩)), E⟩
  · replace E := xq_en c1 E
    refine J_iload_n (i := 1) (j := 1) dX7_numberFor_4 rfl rfl ?_
    refine J_iconst (v := 1) dX7_numberFor_5 (by decide) ?_
    refine J_icmp_eq (tgt := 11) dX7_numberFor_6 (by decide) (fun c8 => ?_) (fun c8 => ?_)
    · replace E := xq_ep c8 E
      refine J_iload_n (i := 1) (j := 1) dX7_numberFor_11 rfl rfl ?_
      refine J_if_ne (tgt := 22) dX7_numberFor_12 (by decide) (fun c9 => ?_) (fun c9 => ?_)
      · replace E := xq_en c9 E
        refine J_aload_n (i := 0) (j := 0) dX7_numberFor_22 rfl rfl ?_
        refine J_get (C := RX7) (T := TX7) (Z := 8) (ci := 7) (f := 7) dX7_numberFor_23 inG7 rfl (by decide) k200 wc_1 rfl ?_
        refine J_istore_n (i := 3) (lw := [(3, .int (u 1 7)), (0, .ref 1), (1, .int sort), (2, .int at0)]) dX7_numberFor_26 rfl (by decide) rfl ?_
        refine J_iload_n (i := 1) (j := 2) dX7_numberFor_27 rfl rfl ?_
        refine J_if_ne (tgt := 35) dX7_numberFor_28 (by decide) (fun c10 => ?_) (fun c10 => ?_)
        · replace E := xq_en c10 E
          refine J_iconst (v := 3) dX7_numberFor_35 (by decide) ?_
          refine J_istore (i := 4) (lw := [(4, .int 3), (3, .int (u 1 7)), (0, .ref 1), (1, .int sort), (2, .int at0)]) dX7_numberFor_36 (by decide) rfl ?_
          refine J_iload_n (i := 2) (j := 4) dX7_numberFor_38 rfl rfl ?_
          refine J_iconst (v := (-1)) dX7_numberFor_39 (by decide) ?_
          refine J_icmp_ne (tgt := 55) dX7_numberFor_40 (by decide) (fun c11 => ?_) (fun c11 => ?_)
          · replace E := xq_en c11 E
            refine J_iload_n (i := 2) (j := 4) dX7_numberFor_55 rfl rfl ?_
            refine J_if_lt (tgt := 68) dX7_numberFor_56 (by decide) (fun c12 => ?_) (fun c12 => ?_)
            · replace E := xq_ep c12 E
              refine J_iconst (v := (-1)) dX7_numberFor_68 (by decide) ?_
              exact J_iret hq dX7_numberFor_69 rfl wlen (Nat.le_refl _) (Nat.le_refl _) ⟨((-1) : Int32), rfl, rfl, (Or.inl rfl), E⟩
            · replace E := xq_en c12 E
              refine J_iload_n (i := 2) (j := 4) dX7_numberFor_59 rfl rfl ?_
              refine J_iload_n (i := 3) (j := 1) dX7_numberFor_60 rfl rfl ?_
              refine J_icmp_ge (tgt := 68) dX7_numberFor_61 (by decide) (fun c13 => ?_) (fun c13 => ?_)
              · replace E := xq_ep c13 E
                refine J_iconst (v := (-1)) dX7_numberFor_68 (by decide) ?_
                exact J_iret hq dX7_numberFor_69 rfl wlen (Nat.le_refl _) (Nat.le_refl _) ⟨((-1) : Int32), rfl, rfl, (Or.inl rfl), E⟩
              · replace E := xq_en c13 E
                refine J_iload_n (i := 2) (j := 4) dX7_numberFor_64 rfl rfl ?_
                refine J_goto (tgt := 69) dX7_numberFor_65 (by decide) ?_
                exact J_iret hq dX7_numberFor_69 rfl wlen (Nat.le_refl _) (Nat.le_refl _) ⟨at0, rfl, rfl, (Or.inr (Or.inr ⟨c8, (bd_lt_hi (bd_le_lo (bd_any at0) (i_nlt c12) (bd_c (v := 0) (lo := 0) (hi := 0) (by decide))) (i_nle c13) hp1)⟩)), E⟩
          · replace E := xq_ep c11 E
            refine J_iload_n (i := 3) (j := 1) dX7_numberFor_43 rfl rfl ?_
            refine J_iload (i := 4) (j := 0) dX7_numberFor_44 rfl ?_
            refine J_icmp_ge (tgt := 53) dX7_numberFor_46 (by decide) (fun c14 => ?_) (fun c14 => ?_)
            · replace E := xq_ep c14 E
              refine J_iconst (v := (-1)) dX7_numberFor_53 (by decide) ?_
              exact J_iret hq dX7_numberFor_54 rfl wlen (Nat.le_refl _) (Nat.le_refl _) ⟨((-1) : Int32), rfl, rfl, (Or.inl rfl), E⟩
            · replace E := xq_en c14 E
              refine J_iload_n (i := 3) (j := 1) dX7_numberFor_49 rfl rfl ?_
              refine J_goto (tgt := 54) dX7_numberFor_50 (by decide) ?_
              exact J_iret hq dX7_numberFor_54 rfl wlen (Nat.le_refl _) (Nat.le_refl _) ⟨(u 1 7), rfl, rfl, (Or.inr (Or.inr ⟨c8, (bd_lt_hi hp1 (i_nle c14) (bd_c (v := 3) (lo := 3) (hi := 3) (by decide)))⟩)), E⟩
        · exact (bd_neq c10 (bd_r c8 (bd_c (v := 1) (lo := 1) (hi := 1) (by decide))) (bd_c (v := 0) (lo := 0) (hi := 0) (by decide)) (by decide)).elim
      · exact (bd_neq c9 (bd_r c8 (bd_c (v := 1) (lo := 1) (hi := 1) (by decide))) (bd_c (v := 0) (lo := 0) (hi := 0) (by decide)) (by decide)).elim
    · replace E := xq_en c8 E
      refine J_iconst (v := (-1)) dX7_numberFor_9 (by decide) ?_
      exact J_iret hq dX7_numberFor_10 rfl wlen (Nat.le_refl _) (Nat.le_refl _) ⟨((-1) : Int32), rfl, rfl, (Or.inl rfl), E⟩
set_option maxRecDepth 100000 in
noncomputable def Fx_H_copyBX (t : Nat) (f : Nat) (u : Nat → Nat → Int32) (g : Nat → Nat → Int64) : (Nat → Nat → Int32) := xq_lt (ms u t 0 (u f 0)) fun u1 => xq_lt (ms u1 t 2 (u f 2)) fun u3 => xq_lt (mr u3 (t + 1) (va_cpy (u3 (f + 1)) (u3 (t + 1)) 0 0 144)) fun u5 => xq_lt (mr u5 (t + 2) (va_cpy (u5 (f + 2)) (u5 (t + 2)) 0 0 4)) fun u7 => xq_lt (mr u7 (t + 3) (va_cpy (u7 (f + 3)) (u7 (t + 3)) 0 0 4)) fun u9 => xq_lt (mr u9 (t + 4) (va_cpy (u9 (f + 4)) (u9 (t + 4)) 0 0 3)) fun u11 => u11
set_option maxHeartbeats 4000000 in
set_option maxRecDepth 100000 in
theorem c_H_copyBX {d : Nat} {u : Nat → Nat → Int32} {g : Nat → Nat → Int64} {ex : List MC} {t : Nat} {f : Nat} (hd : 1 ≤ d) (hs_t : t ∈ hl) (hs_f : f ∈ hl) (hn_tf : t ≠ f) (hp0 : Bd 0 9 (u f 0)) (hp1 : Bd 0 4 (u f 2)) (hp2 : AB u (t + 1) (-1) 999) (hp3 : AB u (f + 1) (-1) 999) : CT con0 d 0 0 yX1_copy cX1_copy 2 none [.ref t, .ref f] (Wd u g ex) (fun r h2 => ∃ (u2 : Nat → Nat → Int32), r = none ∧ h2 = Wd u2 g ex ∧ Bd 0 9 (u2 t 0) ∧ Bd 0 4 (u2 t 2) ∧ AB u2 (t + 1) (-1) 999 ∧ u2 = Fx_H_copyBX t f u g ∧ (∀ c, c ≠ t → c ≠ t + 1 → c ≠ t + 2 → c ≠ t + 3 → c ≠ t + 4 → u2 c = u c) ∧ (∀ j, j ≠ 0 → j ≠ 2 → u2 t j = u t j)) := by
  refine CT_of (by decide) (Nat.le_of_ble_eq_true rfl) (fun x hq => ?_)
  show J x yX1_copy cX1_copy 2 none d 0 0 (Wd u g ex).length 0 [(0, .ref t), (1, .ref f)] [] (Wd u g ex) 0 0
  have E : Fx_H_copyBX t f u g = Fx_H_copyBX t f u g := rfl
  refine J_aload_n (i := 0) (j := 0) dX1_copy_0 rfl rfl ?_
  refine J_aload_n (i := 1) (j := 1) dX1_copy_1 rfl rfl ?_
  refine J_get (C := RX1) (T := TX1) (Z := 6) (ci := 1) (f := 0) dX1_copy_2 inG1 rfl (by decide) k130 (zh0c hs_f) rfl ?_
  obtain ⟨u1, e2⟩ : ∃ z, z = ms u t 0 (u f 0) := ⟨_, rfl⟩
  refine J_put (C := RX1) (T := TX1) (Z := 6) (ci := 1) (f := 0) (ty0 := tyX1) dX1_copy_5 inG1 rfl tyX1_ok nmX1 (by decide) k130 rfl rfl (zh0c hs_t) (Nat.le_of_ble_eq_true rfl) (fun _ _ => ⟨rfl, rfl⟩) (ws e2 (zh0 hs_t) rfl) ?_
  replace E := xq_le e2 E
  refine J_aload_n (i := 0) (j := 0) dX1_copy_8 rfl rfl ?_
  refine J_aload_n (i := 1) (j := 1) dX1_copy_9 rfl rfl ?_
  refine J_get (C := RX1) (T := TX1) (Z := 6) (ci := 1) (f := 2) dX1_copy_10 inG1 rfl (by decide) k138 (zh0c hs_f) rfl ?_
  refine J_ci (v := u f 2) (congrFun (ms_c e2 (sne2 (i := 0) (j := 0) hs_f hs_t (Ne.symm hn_tf) (by decide))) 2) ?_
  obtain ⟨u3, e4⟩ : ∃ z, z = ms u1 t 2 (u f 2) := ⟨_, rfl⟩
  refine J_put (C := RX1) (T := TX1) (Z := 6) (ci := 1) (f := 2) (ty0 := tyX1) dX1_copy_13 inG1 rfl tyX1_ok nmX1 (by decide) k138 rfl rfl (zh0c hs_t) (Nat.le_of_ble_eq_true rfl) (fun _ _ => ⟨rfl, rfl⟩) (ws e4 (zh0 hs_t) rfl) ?_
  replace E := xq_le e4 E
  refine J_aload_n (i := 1) (j := 1) dX1_copy_16 rfl rfl ?_
  refine J_get (C := RX1) (T := TX1) (Z := 6) (ci := 1) (f := 1) dX1_copy_17 inG1 rfl (by decide) k137 (zh0c hs_f) rfl ?_
  refine J_iconst (v := 0) dX1_copy_20 (by decide) ?_
  refine J_aload_n (i := 0) (j := 0) dX1_copy_21 rfl rfl ?_
  refine J_get (C := RX1) (T := TX1) (Z := 6) (ci := 1) (f := 1) dX1_copy_22 inG1 rfl (by decide) k137 (zh0c hs_t) rfl ?_
  refine J_iconst (v := 0) dX1_copy_25 (by decide) ?_
  refine J_aload_n (i := 0) (j := 0) dX1_copy_26 rfl rfl ?_
  refine J_get (C := RX1) (T := TX1) (Z := 6) (ci := 1) (f := 1) dX1_copy_27 inG1 rfl (by decide) k137 (zh0c hs_t) rfl ?_
  refine J_alen dX1_copy_30 (zh1c hs_t) (fun _ => rfl) ?_
  refine J_ci (v := 144) (by decide) ?_
  obtain ⟨u5, e6⟩ : ∃ z, z = mr u3 (t + 1) (va_cpy (u3 (f + 1)) (u3 (t + 1)) 0 0 144) := ⟨_, rfl⟩
  refine J_copyi (sp := 0) (dp := 0) (nn := 144) dX1_copy_31 k684 k686 k685 k104 (zh1c hs_f) (zh1c hs_t) (by decide) (by decide) (by decide) (by decide) (by decide) (Nat.le_trans (by decide) hd) (Nat.le_of_ble_eq_true rfl) (wsr e6 (zh1 hs_t) rfl) ?_
  replace E := xq_le e6 E
  refine J_aload_n (i := 1) (j := 1) dX1_copy_34 rfl rfl ?_
  refine J_get (C := RX1) (T := TX1) (Z := 6) (ci := 1) (f := 3) dX1_copy_35 inG1 rfl (by decide) k143 (zh0c hs_f) rfl ?_
  refine J_iconst (v := 0) dX1_copy_38 (by decide) ?_
  refine J_aload_n (i := 0) (j := 0) dX1_copy_39 rfl rfl ?_
  refine J_get (C := RX1) (T := TX1) (Z := 6) (ci := 1) (f := 3) dX1_copy_40 inG1 rfl (by decide) k143 (zh0c hs_t) rfl ?_
  refine J_iconst (v := 0) dX1_copy_43 (by decide) ?_
  refine J_iconst (v := 4) dX1_copy_44 (by decide) ?_
  obtain ⟨u7, e8⟩ : ∃ z, z = mr u5 (t + 2) (va_cpy (u5 (f + 2)) (u5 (t + 2)) 0 0 4) := ⟨_, rfl⟩
  refine J_copyi (sp := 0) (dp := 0) (nn := 4) dX1_copy_45 k684 k686 k685 k104 (zh2c hs_f) (zh2c hs_t) (by decide) (by decide) (by decide) (by decide) (by decide) (Nat.le_trans (by decide) hd) (Nat.le_of_ble_eq_true rfl) (wsr e8 (zh2 hs_t) rfl) ?_
  replace E := xq_le e8 E
  refine J_aload_n (i := 1) (j := 1) dX1_copy_48 rfl rfl ?_
  refine J_get (C := RX1) (T := TX1) (Z := 6) (ci := 1) (f := 4) dX1_copy_49 inG1 rfl (by decide) k144 (zh0c hs_f) rfl ?_
  refine J_iconst (v := 0) dX1_copy_52 (by decide) ?_
  refine J_aload_n (i := 0) (j := 0) dX1_copy_53 rfl rfl ?_
  refine J_get (C := RX1) (T := TX1) (Z := 6) (ci := 1) (f := 4) dX1_copy_54 inG1 rfl (by decide) k144 (zh0c hs_t) rfl ?_
  refine J_iconst (v := 0) dX1_copy_57 (by decide) ?_
  refine J_iconst (v := 4) dX1_copy_58 (by decide) ?_
  obtain ⟨u9, e10⟩ : ∃ z, z = mr u7 (t + 3) (va_cpy (u7 (f + 3)) (u7 (t + 3)) 0 0 4) := ⟨_, rfl⟩
  refine J_copyi (sp := 0) (dp := 0) (nn := 4) dX1_copy_59 k684 k686 k685 k104 (zh3c hs_f) (zh3c hs_t) (by decide) (by decide) (by decide) (by decide) (by decide) (Nat.le_trans (by decide) hd) (Nat.le_of_ble_eq_true rfl) (wsr e10 (zh3 hs_t) rfl) ?_
  replace E := xq_le e10 E
  refine J_aload_n (i := 1) (j := 1) dX1_copy_62 rfl rfl ?_
  refine J_get (C := RX1) (T := TX1) (Z := 6) (ci := 1) (f := 5) dX1_copy_63 inG1 rfl (by decide) k145 (zh0c hs_f) rfl ?_
  refine J_iconst (v := 0) dX1_copy_66 (by decide) ?_
  refine J_aload_n (i := 0) (j := 0) dX1_copy_67 rfl rfl ?_
  refine J_get (C := RX1) (T := TX1) (Z := 6) (ci := 1) (f := 5) dX1_copy_68 inG1 rfl (by decide) k145 (zh0c hs_t) rfl ?_
  refine J_iconst (v := 0) dX1_copy_71 (by decide) ?_
  refine J_aload_n (i := 0) (j := 0) dX1_copy_72 rfl rfl ?_
  refine J_get (C := RX1) (T := TX1) (Z := 6) (ci := 1) (f := 5) dX1_copy_73 inG1 rfl (by decide) k145 (zh0c hs_t) rfl ?_
  refine J_alen dX1_copy_76 (zh4c hs_t) (fun _ => rfl) ?_
  refine J_ci (v := 3) (by decide) ?_
  obtain ⟨u11, e12⟩ : ∃ z, z = mr u9 (t + 4) (va_cpy (u9 (f + 4)) (u9 (t + 4)) 0 0 3) := ⟨_, rfl⟩
  refine J_copyi (sp := 0) (dp := 0) (nn := 3) dX1_copy_77 k684 k686 k685 k104 (zh4c hs_f) (zh4c hs_t) (by decide) (by decide) (by decide) (by decide) (by decide) (Nat.le_trans (by decide) hd) (Nat.le_of_ble_eq_true rfl) (wsr e12 (zh4 hs_t) rfl) ?_
  replace E := xq_le e12 E
  exact J_vret hq dX1_copy_80 rfl wlen (Nat.le_refl _) (Nat.le_refl _) ⟨u11, rfl, rfl, (bd_r ((congrFun (mr_c e12 (by omega)) 0).trans ((congrFun (mr_c e10 (by omega)) 0).trans ((congrFun (mr_c e8 (by omega)) 0).trans ((congrFun (mr_c e6 (by omega)) 0).trans ((ms_i e4 (Nat.ne_of_beq_eq_false rfl)).trans (ms_e e2)))))) hp0), (bd_r ((congrFun (mr_c e12 (by omega)) 2).trans ((congrFun (mr_c e10 (by omega)) 2).trans ((congrFun (mr_c e8 (by omega)) 2).trans ((congrFun (mr_c e6 (by omega)) 2).trans (ms_e e4))))) hp1), (ab_c ((mr_c e12 (by omega)).trans ((mr_c e10 (by omega)).trans (mr_c e8 (by omega)))) (ab_cp e6 (ab_c ((ms_c e4 (sne2 (i := 1) (j := 0) hs_f hs_t (Ne.symm hn_tf) (by decide))).trans (ms_c e2 (sne2 (i := 1) (j := 0) hs_f hs_t (Ne.symm hn_tf) (by decide)))) hp3) (ab_c ((ms_c e4 (by omega)).trans (ms_c e2 (by omega))) hp2))), E, (fun c k0_ k1_ k2_ k3_ k4_ => ((mr_c e12 k4_).trans ((mr_c e10 k3_).trans ((mr_c e8 k2_).trans ((mr_c e6 k1_).trans ((ms_c e4 k0_).trans (ms_c e2 k0_))))))), (fun j k0_ k2_ => ((congrFun (mr_c e12 (by omega)) j).trans ((congrFun (mr_c e10 (by omega)) j).trans ((congrFun (mr_c e8 (by omega)) j).trans ((congrFun (mr_c e6 (by omega)) j).trans ((ms_i e4 k2_).trans (ms_i e2 k0_)))))))⟩
set_option maxRecDepth 100000 in
noncomputable def Fx_W_copyK_15_37X (u : Nat → Nat → Int32) (g : Nat → Nat → Int64) : (Nat → Nat → Int32) := xq_lt (ms u 15 0 (u 37 0)) fun u1 => xq_lt (mr u1 16 (va_cpy (u1 38) (u1 16) 0 0 12)) fun u3 => xq_lt (mr u3 17 (va_cpy (u3 39) (u3 17) 0 0 12)) fun u5 => xq_lt (mr u5 18 (va_cpy (u5 40) (u5 18) 0 0 12)) fun u7 => u7
set_option maxHeartbeats 4000000 in
set_option maxRecDepth 100000 in
theorem c_W_copyK_15_37X {d : Nat} {u : Nat → Nat → Int32} {g : Nat → Nat → Int64} {ex : List MC}  (hd : 1 ≤ d) (hp0 : Bd 0 12 (u 37 0)) (hp1 : (KM u 37)) (hp2 : (KM u 15)) : CT con0 d 0 0 yX8_copy cX8_copy 2 none [.ref 15, .ref 37] (Wd u g ex) (fun r h2 => ∃ (u2 : Nat → Nat → Int32), r = none ∧ h2 = Wd u2 g ex ∧ Bd 0 12 (u2 15 0) ∧ (KM u2 15) ∧ u2 = Fx_W_copyK_15_37X u g ∧ (∀ c, nin c [(15, 18)] = true → u2 c = u c) ∧ (∀ j, j ≠ 0 → u2 15 j = u 15 j)) := by
  refine CT_of (by decide) (Nat.le_of_ble_eq_true rfl) (fun x hq => ?_)
  show J x yX8_copy cX8_copy 2 none d 0 0 (Wd u g ex).length 0 [(0, .ref 15), (1, .ref 37)] [] (Wd u g ex) 0 0
  have E : Fx_W_copyK_15_37X u g = Fx_W_copyK_15_37X u g := rfl
  refine J_aload_n (i := 0) (j := 0) dX8_copy_0 rfl rfl ?_
  refine J_aload_n (i := 1) (j := 1) dX8_copy_1 rfl rfl ?_
  refine J_get (C := RX8) (T := TX8) (Z := 4) (ci := 8) (f := 0) dX8_copy_2 inG8 rfl (by decide) k168 wc_37 rfl ?_
  obtain ⟨u1, e2⟩ : ∃ z, z = ms u 15 0 (u 37 0) := ⟨_, rfl⟩
  refine J_put (C := RX8) (T := TX8) (Z := 4) (ci := 8) (f := 0) (ty0 := tyX8) dX8_copy_5 inG8 rfl tyX8_ok nmX8 (by decide) k168 rfl rfl wc_15 (Nat.le_of_ble_eq_true rfl) (fun _ _ => ⟨rfl, rfl⟩) (ws e2 wk_15 rfl) ?_
  replace E := xq_le e2 E
  refine J_aload_n (i := 1) (j := 1) dX8_copy_8 rfl rfl ?_
  refine J_get (C := RX8) (T := TX8) (Z := 4) (ci := 8) (f := 1) dX8_copy_9 inG8 rfl (by decide) k171 wc_37 rfl ?_
  refine J_iconst (v := 0) dX8_copy_12 (by decide) ?_
  refine J_aload_n (i := 0) (j := 0) dX8_copy_13 rfl rfl ?_
  refine J_get (C := RX8) (T := TX8) (Z := 4) (ci := 8) (f := 1) dX8_copy_14 inG8 rfl (by decide) k171 wc_15 rfl ?_
  refine J_iconst (v := 0) dX8_copy_17 (by decide) ?_
  refine J_bipush (v := 12) dX8_copy_18 (by decide) ?_
  obtain ⟨u3, e4⟩ : ∃ z, z = mr u1 16 (va_cpy (u1 38) (u1 16) 0 0 12) := ⟨_, rfl⟩
  refine J_copyi (sp := 0) (dp := 0) (nn := 12) dX8_copy_20 k694 k686 k685 k104 wc_38 wc_16 (by decide) (by decide) (by decide) (by decide) (by decide) (Nat.le_trans (by decide) hd) (Nat.le_of_ble_eq_true rfl) (wsr e4 wk_16 rfl) ?_
  replace E := xq_le e4 E
  refine J_aload_n (i := 1) (j := 1) dX8_copy_23 rfl rfl ?_
  refine J_get (C := RX8) (T := TX8) (Z := 4) (ci := 8) (f := 2) dX8_copy_24 inG8 rfl (by decide) k173 wc_37 rfl ?_
  refine J_iconst (v := 0) dX8_copy_27 (by decide) ?_
  refine J_aload_n (i := 0) (j := 0) dX8_copy_28 rfl rfl ?_
  refine J_get (C := RX8) (T := TX8) (Z := 4) (ci := 8) (f := 2) dX8_copy_29 inG8 rfl (by decide) k173 wc_15 rfl ?_
  refine J_iconst (v := 0) dX8_copy_32 (by decide) ?_
  refine J_bipush (v := 12) dX8_copy_33 (by decide) ?_
  obtain ⟨u5, e6⟩ : ∃ z, z = mr u3 17 (va_cpy (u3 39) (u3 17) 0 0 12) := ⟨_, rfl⟩
  refine J_copyi (sp := 0) (dp := 0) (nn := 12) dX8_copy_35 k694 k686 k685 k104 wc_39 wc_17 (by decide) (by decide) (by decide) (by decide) (by decide) (Nat.le_trans (by decide) hd) (Nat.le_of_ble_eq_true rfl) (wsr e6 wk_17 rfl) ?_
  replace E := xq_le e6 E
  refine J_aload_n (i := 1) (j := 1) dX8_copy_38 rfl rfl ?_
  refine J_get (C := RX8) (T := TX8) (Z := 4) (ci := 8) (f := 3) dX8_copy_39 inG8 rfl (by decide) k175 wc_37 rfl ?_
  refine J_iconst (v := 0) dX8_copy_42 (by decide) ?_
  refine J_aload_n (i := 0) (j := 0) dX8_copy_43 rfl rfl ?_
  refine J_get (C := RX8) (T := TX8) (Z := 4) (ci := 8) (f := 3) dX8_copy_44 inG8 rfl (by decide) k175 wc_15 rfl ?_
  refine J_iconst (v := 0) dX8_copy_47 (by decide) ?_
  refine J_bipush (v := 12) dX8_copy_48 (by decide) ?_
  obtain ⟨u7, e8⟩ : ∃ z, z = mr u5 18 (va_cpy (u5 40) (u5 18) 0 0 12) := ⟨_, rfl⟩
  refine J_copyi (sp := 0) (dp := 0) (nn := 12) dX8_copy_50 k694 k686 k685 k104 wc_40 wc_18 (by decide) (by decide) (by decide) (by decide) (by decide) (Nat.le_trans (by decide) hd) (Nat.le_of_ble_eq_true rfl) (wsr e8 wk_18 rfl) ?_
  replace E := xq_le e8 E
  exact J_vret hq dX8_copy_53 rfl wlen (Nat.le_refl _) (Nat.le_refl _) ⟨u7, rfl, rfl, (bd_r ((congrFun (mr_c e8 (Nat.ne_of_beq_eq_false rfl)) 0).trans ((congrFun (mr_c e6 (Nat.ne_of_beq_eq_false rfl)) 0).trans ((congrFun (mr_c e4 (Nat.ne_of_beq_eq_false rfl)) 0).trans (ms_e e2)))) hp0), (km_cp (u := u) (w := 15) (f := 37) (show u7 16 = va_cpy (u 38) (u 16) 0 0 12 by rw [((mr_c e8 (Nat.ne_of_beq_eq_false rfl)).trans (mr_c e6 (Nat.ne_of_beq_eq_false rfl))), mr_a e4, (ms_c e2 (Nat.ne_of_beq_eq_false rfl)), (ms_c e2 (Nat.ne_of_beq_eq_false rfl))]) (show u7 18 = va_cpy (u 40) (u 18) 0 0 12 by rw [mr_a e8, ((mr_c e6 (Nat.ne_of_beq_eq_false rfl)).trans ((mr_c e4 (Nat.ne_of_beq_eq_false rfl)).trans (ms_c e2 (Nat.ne_of_beq_eq_false rfl)))), ((mr_c e6 (Nat.ne_of_beq_eq_false rfl)).trans ((mr_c e4 (Nat.ne_of_beq_eq_false rfl)).trans (ms_c e2 (Nat.ne_of_beq_eq_false rfl))))]) hp1 hp2), E, (fun c k_ => ((mr_c e8 (nin_ne (a := 18) k_ rfl)).trans ((mr_c e6 (nin_ne (a := 17) k_ rfl)).trans ((mr_c e4 (nin_ne (a := 16) k_ rfl)).trans (ms_c e2 (nin_ne (a := 15) k_ rfl)))))), (fun j k0_ => ((congrFun (mr_c e8 (Nat.ne_of_beq_eq_false rfl)) j).trans ((congrFun (mr_c e6 (Nat.ne_of_beq_eq_false rfl)) j).trans ((congrFun (mr_c e4 (Nat.ne_of_beq_eq_false rfl)) j).trans (ms_i e2 k0_)))))⟩
set_option maxRecDepth 100000 in
noncomputable def Fx_W_copyK_19_37X (u : Nat → Nat → Int32) (g : Nat → Nat → Int64) : (Nat → Nat → Int32) := xq_lt (ms u 19 0 (u 37 0)) fun u1 => xq_lt (mr u1 20 (va_cpy (u1 38) (u1 20) 0 0 12)) fun u3 => xq_lt (mr u3 21 (va_cpy (u3 39) (u3 21) 0 0 12)) fun u5 => xq_lt (mr u5 22 (va_cpy (u5 40) (u5 22) 0 0 12)) fun u7 => u7
set_option maxHeartbeats 4000000 in
set_option maxRecDepth 100000 in
theorem c_W_copyK_19_37X {d : Nat} {u : Nat → Nat → Int32} {g : Nat → Nat → Int64} {ex : List MC}  (hd : 1 ≤ d) (hp0 : Bd 0 12 (u 37 0)) (hp1 : (KM u 37)) (hp2 : (KM u 19)) : CT con0 d 0 0 yX8_copy cX8_copy 2 none [.ref 19, .ref 37] (Wd u g ex) (fun r h2 => ∃ (u2 : Nat → Nat → Int32), r = none ∧ h2 = Wd u2 g ex ∧ Bd 0 12 (u2 19 0) ∧ (KM u2 19) ∧ u2 = Fx_W_copyK_19_37X u g ∧ (∀ c, nin c [(19, 22)] = true → u2 c = u c) ∧ (∀ j, j ≠ 0 → u2 19 j = u 19 j)) := by
  refine CT_of (by decide) (Nat.le_of_ble_eq_true rfl) (fun x hq => ?_)
  show J x yX8_copy cX8_copy 2 none d 0 0 (Wd u g ex).length 0 [(0, .ref 19), (1, .ref 37)] [] (Wd u g ex) 0 0
  have E : Fx_W_copyK_19_37X u g = Fx_W_copyK_19_37X u g := rfl
  refine J_aload_n (i := 0) (j := 0) dX8_copy_0 rfl rfl ?_
  refine J_aload_n (i := 1) (j := 1) dX8_copy_1 rfl rfl ?_
  refine J_get (C := RX8) (T := TX8) (Z := 4) (ci := 8) (f := 0) dX8_copy_2 inG8 rfl (by decide) k168 wc_37 rfl ?_
  obtain ⟨u1, e2⟩ : ∃ z, z = ms u 19 0 (u 37 0) := ⟨_, rfl⟩
  refine J_put (C := RX8) (T := TX8) (Z := 4) (ci := 8) (f := 0) (ty0 := tyX8) dX8_copy_5 inG8 rfl tyX8_ok nmX8 (by decide) k168 rfl rfl wc_19 (Nat.le_of_ble_eq_true rfl) (fun _ _ => ⟨rfl, rfl⟩) (ws e2 wk_19 rfl) ?_
  replace E := xq_le e2 E
  refine J_aload_n (i := 1) (j := 1) dX8_copy_8 rfl rfl ?_
  refine J_get (C := RX8) (T := TX8) (Z := 4) (ci := 8) (f := 1) dX8_copy_9 inG8 rfl (by decide) k171 wc_37 rfl ?_
  refine J_iconst (v := 0) dX8_copy_12 (by decide) ?_
  refine J_aload_n (i := 0) (j := 0) dX8_copy_13 rfl rfl ?_
  refine J_get (C := RX8) (T := TX8) (Z := 4) (ci := 8) (f := 1) dX8_copy_14 inG8 rfl (by decide) k171 wc_19 rfl ?_
  refine J_iconst (v := 0) dX8_copy_17 (by decide) ?_
  refine J_bipush (v := 12) dX8_copy_18 (by decide) ?_
  obtain ⟨u3, e4⟩ : ∃ z, z = mr u1 20 (va_cpy (u1 38) (u1 20) 0 0 12) := ⟨_, rfl⟩
  refine J_copyi (sp := 0) (dp := 0) (nn := 12) dX8_copy_20 k694 k686 k685 k104 wc_38 wc_20 (by decide) (by decide) (by decide) (by decide) (by decide) (Nat.le_trans (by decide) hd) (Nat.le_of_ble_eq_true rfl) (wsr e4 wk_20 rfl) ?_
  replace E := xq_le e4 E
  refine J_aload_n (i := 1) (j := 1) dX8_copy_23 rfl rfl ?_
  refine J_get (C := RX8) (T := TX8) (Z := 4) (ci := 8) (f := 2) dX8_copy_24 inG8 rfl (by decide) k173 wc_37 rfl ?_
  refine J_iconst (v := 0) dX8_copy_27 (by decide) ?_
  refine J_aload_n (i := 0) (j := 0) dX8_copy_28 rfl rfl ?_
  refine J_get (C := RX8) (T := TX8) (Z := 4) (ci := 8) (f := 2) dX8_copy_29 inG8 rfl (by decide) k173 wc_19 rfl ?_
  refine J_iconst (v := 0) dX8_copy_32 (by decide) ?_
  refine J_bipush (v := 12) dX8_copy_33 (by decide) ?_
  obtain ⟨u5, e6⟩ : ∃ z, z = mr u3 21 (va_cpy (u3 39) (u3 21) 0 0 12) := ⟨_, rfl⟩
  refine J_copyi (sp := 0) (dp := 0) (nn := 12) dX8_copy_35 k694 k686 k685 k104 wc_39 wc_21 (by decide) (by decide) (by decide) (by decide) (by decide) (Nat.le_trans (by decide) hd) (Nat.le_of_ble_eq_true rfl) (wsr e6 wk_21 rfl) ?_
  replace E := xq_le e6 E
  refine J_aload_n (i := 1) (j := 1) dX8_copy_38 rfl rfl ?_
  refine J_get (C := RX8) (T := TX8) (Z := 4) (ci := 8) (f := 3) dX8_copy_39 inG8 rfl (by decide) k175 wc_37 rfl ?_
  refine J_iconst (v := 0) dX8_copy_42 (by decide) ?_
  refine J_aload_n (i := 0) (j := 0) dX8_copy_43 rfl rfl ?_
  refine J_get (C := RX8) (T := TX8) (Z := 4) (ci := 8) (f := 3) dX8_copy_44 inG8 rfl (by decide) k175 wc_19 rfl ?_
  refine J_iconst (v := 0) dX8_copy_47 (by decide) ?_
  refine J_bipush (v := 12) dX8_copy_48 (by decide) ?_
  obtain ⟨u7, e8⟩ : ∃ z, z = mr u5 22 (va_cpy (u5 40) (u5 22) 0 0 12) := ⟨_, rfl⟩
  refine J_copyi (sp := 0) (dp := 0) (nn := 12) dX8_copy_50 k694 k686 k685 k104 wc_40 wc_22 (by decide) (by decide) (by decide) (by decide) (by decide) (Nat.le_trans (by decide) hd) (Nat.le_of_ble_eq_true rfl) (wsr e8 wk_22 rfl) ?_
  replace E := xq_le e8 E
  exact J_vret hq dX8_copy_53 rfl wlen (Nat.le_refl _) (Nat.le_refl _) ⟨u7, rfl, rfl, (bd_r ((congrFun (mr_c e8 (Nat.ne_of_beq_eq_false rfl)) 0).trans ((congrFun (mr_c e6 (Nat.ne_of_beq_eq_false rfl)) 0).trans ((congrFun (mr_c e4 (Nat.ne_of_beq_eq_false rfl)) 0).trans (ms_e e2)))) hp0), (km_cp (u := u) (w := 19) (f := 37) (show u7 20 = va_cpy (u 38) (u 20) 0 0 12 by rw [((mr_c e8 (Nat.ne_of_beq_eq_false rfl)).trans (mr_c e6 (Nat.ne_of_beq_eq_false rfl))), mr_a e4, (ms_c e2 (Nat.ne_of_beq_eq_false rfl)), (ms_c e2 (Nat.ne_of_beq_eq_false rfl))]) (show u7 22 = va_cpy (u 40) (u 22) 0 0 12 by rw [mr_a e8, ((mr_c e6 (Nat.ne_of_beq_eq_false rfl)).trans ((mr_c e4 (Nat.ne_of_beq_eq_false rfl)).trans (ms_c e2 (Nat.ne_of_beq_eq_false rfl)))), ((mr_c e6 (Nat.ne_of_beq_eq_false rfl)).trans ((mr_c e4 (Nat.ne_of_beq_eq_false rfl)).trans (ms_c e2 (Nat.ne_of_beq_eq_false rfl))))]) hp1 hp2), E, (fun c k_ => ((mr_c e8 (nin_ne (a := 22) k_ rfl)).trans ((mr_c e6 (nin_ne (a := 21) k_ rfl)).trans ((mr_c e4 (nin_ne (a := 20) k_ rfl)).trans (ms_c e2 (nin_ne (a := 19) k_ rfl)))))), (fun j k0_ => ((congrFun (mr_c e8 (Nat.ne_of_beq_eq_false rfl)) j).trans ((congrFun (mr_c e6 (Nat.ne_of_beq_eq_false rfl)) j).trans ((congrFun (mr_c e4 (Nat.ne_of_beq_eq_false rfl)) j).trans (ms_i e2 k0_)))))⟩
set_option maxRecDepth 100000 in
noncomputable def Fx_W_copyK_23_37X (u : Nat → Nat → Int32) (g : Nat → Nat → Int64) : (Nat → Nat → Int32) := xq_lt (ms u 23 0 (u 37 0)) fun u1 => xq_lt (mr u1 24 (va_cpy (u1 38) (u1 24) 0 0 12)) fun u3 => xq_lt (mr u3 25 (va_cpy (u3 39) (u3 25) 0 0 12)) fun u5 => xq_lt (mr u5 26 (va_cpy (u5 40) (u5 26) 0 0 12)) fun u7 => u7
set_option maxHeartbeats 4000000 in
set_option maxRecDepth 100000 in
theorem c_W_copyK_23_37X {d : Nat} {u : Nat → Nat → Int32} {g : Nat → Nat → Int64} {ex : List MC}  (hd : 1 ≤ d) (hp0 : Bd 0 12 (u 37 0)) (hp1 : (KM u 37)) (hp2 : (KM u 23)) : CT con0 d 0 0 yX8_copy cX8_copy 2 none [.ref 23, .ref 37] (Wd u g ex) (fun r h2 => ∃ (u2 : Nat → Nat → Int32), r = none ∧ h2 = Wd u2 g ex ∧ Bd 0 12 (u2 23 0) ∧ (KM u2 23) ∧ u2 = Fx_W_copyK_23_37X u g ∧ (∀ c, nin c [(23, 26)] = true → u2 c = u c) ∧ (∀ j, j ≠ 0 → u2 23 j = u 23 j)) := by
  refine CT_of (by decide) (Nat.le_of_ble_eq_true rfl) (fun x hq => ?_)
  show J x yX8_copy cX8_copy 2 none d 0 0 (Wd u g ex).length 0 [(0, .ref 23), (1, .ref 37)] [] (Wd u g ex) 0 0
  have E : Fx_W_copyK_23_37X u g = Fx_W_copyK_23_37X u g := rfl
  refine J_aload_n (i := 0) (j := 0) dX8_copy_0 rfl rfl ?_
  refine J_aload_n (i := 1) (j := 1) dX8_copy_1 rfl rfl ?_
  refine J_get (C := RX8) (T := TX8) (Z := 4) (ci := 8) (f := 0) dX8_copy_2 inG8 rfl (by decide) k168 wc_37 rfl ?_
  obtain ⟨u1, e2⟩ : ∃ z, z = ms u 23 0 (u 37 0) := ⟨_, rfl⟩
  refine J_put (C := RX8) (T := TX8) (Z := 4) (ci := 8) (f := 0) (ty0 := tyX8) dX8_copy_5 inG8 rfl tyX8_ok nmX8 (by decide) k168 rfl rfl wc_23 (Nat.le_of_ble_eq_true rfl) (fun _ _ => ⟨rfl, rfl⟩) (ws e2 wk_23 rfl) ?_
  replace E := xq_le e2 E
  refine J_aload_n (i := 1) (j := 1) dX8_copy_8 rfl rfl ?_
  refine J_get (C := RX8) (T := TX8) (Z := 4) (ci := 8) (f := 1) dX8_copy_9 inG8 rfl (by decide) k171 wc_37 rfl ?_
  refine J_iconst (v := 0) dX8_copy_12 (by decide) ?_
  refine J_aload_n (i := 0) (j := 0) dX8_copy_13 rfl rfl ?_
  refine J_get (C := RX8) (T := TX8) (Z := 4) (ci := 8) (f := 1) dX8_copy_14 inG8 rfl (by decide) k171 wc_23 rfl ?_
  refine J_iconst (v := 0) dX8_copy_17 (by decide) ?_
  refine J_bipush (v := 12) dX8_copy_18 (by decide) ?_
  obtain ⟨u3, e4⟩ : ∃ z, z = mr u1 24 (va_cpy (u1 38) (u1 24) 0 0 12) := ⟨_, rfl⟩
  refine J_copyi (sp := 0) (dp := 0) (nn := 12) dX8_copy_20 k694 k686 k685 k104 wc_38 wc_24 (by decide) (by decide) (by decide) (by decide) (by decide) (Nat.le_trans (by decide) hd) (Nat.le_of_ble_eq_true rfl) (wsr e4 wk_24 rfl) ?_
  replace E := xq_le e4 E
  refine J_aload_n (i := 1) (j := 1) dX8_copy_23 rfl rfl ?_
  refine J_get (C := RX8) (T := TX8) (Z := 4) (ci := 8) (f := 2) dX8_copy_24 inG8 rfl (by decide) k173 wc_37 rfl ?_
  refine J_iconst (v := 0) dX8_copy_27 (by decide) ?_
  refine J_aload_n (i := 0) (j := 0) dX8_copy_28 rfl rfl ?_
  refine J_get (C := RX8) (T := TX8) (Z := 4) (ci := 8) (f := 2) dX8_copy_29 inG8 rfl (by decide) k173 wc_23 rfl ?_
  refine J_iconst (v := 0) dX8_copy_32 (by decide) ?_
  refine J_bipush (v := 12) dX8_copy_33 (by decide) ?_
  obtain ⟨u5, e6⟩ : ∃ z, z = mr u3 25 (va_cpy (u3 39) (u3 25) 0 0 12) := ⟨_, rfl⟩
  refine J_copyi (sp := 0) (dp := 0) (nn := 12) dX8_copy_35 k694 k686 k685 k104 wc_39 wc_25 (by decide) (by decide) (by decide) (by decide) (by decide) (Nat.le_trans (by decide) hd) (Nat.le_of_ble_eq_true rfl) (wsr e6 wk_25 rfl) ?_
  replace E := xq_le e6 E
  refine J_aload_n (i := 1) (j := 1) dX8_copy_38 rfl rfl ?_
  refine J_get (C := RX8) (T := TX8) (Z := 4) (ci := 8) (f := 3) dX8_copy_39 inG8 rfl (by decide) k175 wc_37 rfl ?_
  refine J_iconst (v := 0) dX8_copy_42 (by decide) ?_
  refine J_aload_n (i := 0) (j := 0) dX8_copy_43 rfl rfl ?_
  refine J_get (C := RX8) (T := TX8) (Z := 4) (ci := 8) (f := 3) dX8_copy_44 inG8 rfl (by decide) k175 wc_23 rfl ?_
  refine J_iconst (v := 0) dX8_copy_47 (by decide) ?_
  refine J_bipush (v := 12) dX8_copy_48 (by decide) ?_
  obtain ⟨u7, e8⟩ : ∃ z, z = mr u5 26 (va_cpy (u5 40) (u5 26) 0 0 12) := ⟨_, rfl⟩
  refine J_copyi (sp := 0) (dp := 0) (nn := 12) dX8_copy_50 k694 k686 k685 k104 wc_40 wc_26 (by decide) (by decide) (by decide) (by decide) (by decide) (Nat.le_trans (by decide) hd) (Nat.le_of_ble_eq_true rfl) (wsr e8 wk_26 rfl) ?_
  replace E := xq_le e8 E
  exact J_vret hq dX8_copy_53 rfl wlen (Nat.le_refl _) (Nat.le_refl _) ⟨u7, rfl, rfl, (bd_r ((congrFun (mr_c e8 (Nat.ne_of_beq_eq_false rfl)) 0).trans ((congrFun (mr_c e6 (Nat.ne_of_beq_eq_false rfl)) 0).trans ((congrFun (mr_c e4 (Nat.ne_of_beq_eq_false rfl)) 0).trans (ms_e e2)))) hp0), (km_cp (u := u) (w := 23) (f := 37) (show u7 24 = va_cpy (u 38) (u 24) 0 0 12 by rw [((mr_c e8 (Nat.ne_of_beq_eq_false rfl)).trans (mr_c e6 (Nat.ne_of_beq_eq_false rfl))), mr_a e4, (ms_c e2 (Nat.ne_of_beq_eq_false rfl)), (ms_c e2 (Nat.ne_of_beq_eq_false rfl))]) (show u7 26 = va_cpy (u 40) (u 26) 0 0 12 by rw [mr_a e8, ((mr_c e6 (Nat.ne_of_beq_eq_false rfl)).trans ((mr_c e4 (Nat.ne_of_beq_eq_false rfl)).trans (ms_c e2 (Nat.ne_of_beq_eq_false rfl)))), ((mr_c e6 (Nat.ne_of_beq_eq_false rfl)).trans ((mr_c e4 (Nat.ne_of_beq_eq_false rfl)).trans (ms_c e2 (Nat.ne_of_beq_eq_false rfl))))]) hp1 hp2), E, (fun c k_ => ((mr_c e8 (nin_ne (a := 26) k_ rfl)).trans ((mr_c e6 (nin_ne (a := 25) k_ rfl)).trans ((mr_c e4 (nin_ne (a := 24) k_ rfl)).trans (ms_c e2 (nin_ne (a := 23) k_ rfl)))))), (fun j k0_ => ((congrFun (mr_c e8 (Nat.ne_of_beq_eq_false rfl)) j).trans ((congrFun (mr_c e6 (Nat.ne_of_beq_eq_false rfl)) j).trans ((congrFun (mr_c e4 (Nat.ne_of_beq_eq_false rfl)) j).trans (ms_i e2 k0_)))))⟩
set_option maxRecDepth 100000 in
noncomputable def Fx_T_keepX (sort : Int32) (number : Int32) (u : Nat → Nat → Int32) (g : Nat → Nat → Int64) : (Nat → Nat → Int32) := if sort = (0 : Int32) then (if sort = (0 : Int32) then (if number = 0 then (xq_lt (Fx_H_copyBX 5 32 u g) fun u4 => xq_lt (if u 1 5 < (number + 1) then (number + 1) else u 1 5) fun v11 => xq_lt (ms u4 1 5 v11) fun u12 => u12) else (xq_lt (Fx_H_copyBX 10 32 u g) fun u15 => xq_lt (if u 1 5 < (number + 1) then (number + 1) else u 1 5) fun v22 => xq_lt (ms u15 1 5 v22) fun u23 => u23)) else (default)) else (if sort = (0 : Int32) then (default) else (if number = 0 then (xq_lt (Fx_W_copyK_15_37X u g) fun u28 => xq_lt (if u 1 7 < (number + 1) then (number + 1) else u 1 7) fun v34 => xq_lt (ms u28 1 7 v34) fun u35 => u35) else (if number = 1 then (xq_lt (Fx_W_copyK_19_37X u g) fun u38 => xq_lt (if u 1 7 < (number + 1) then (number + 1) else u 1 7) fun v44 => xq_lt (ms u38 1 7 v44) fun u45 => u45) else (xq_lt (Fx_W_copyK_23_37X u g) fun u48 => xq_lt (if u 1 7 < (number + 1) then (number + 1) else u 1 7) fun v54 => xq_lt (ms u48 1 7 v54) fun u55 => u55))))
set_option maxHeartbeats 4000000 in
set_option maxRecDepth 100000 in
theorem c_T_keepX {d : Nat} {u : Nat → Nat → Int32} {g : Nat → Nat → Int64} {ex : List MC} {sort : Int32} {number : Int32} (hd : 2 ≤ d) (hp0 : Bd 0 600 (u 1 1)) (hp1 : Bd 0 2 (u 1 5)) (hp2 : Bd 0 3 (u 1 7)) (hp3 : BF u 2) (hp4 : Bd 0 9 (u 5 0)) (hp5 : Bd 0 4 (u 5 2)) (hp6 : Bd 0 9 (u 10 0)) (hp7 : Bd 0 4 (u 10 2)) (hp8 : AB u 6 (-1) 999) (hp9 : AB u 11 (-1) 999) (hp10 : Bd 0 12 (u 15 0)) (hp11 : Bd 0 12 (u 19 0)) (hp12 : Bd 0 12 (u 23 0)) (hp13 : (KM u 15)) (hp14 : (KM u 19)) (hp15 : (KM u 23)) (hp16 : Bd 0 9 (u 32 0)) (hp17 : Bd 0 4 (u 32 2)) (hp18 : AB u 33 (-1) 999) (hp19 : Bd 0 12 (u 37 0)) (hp20 : (KM u 37)) (hp21 : ((sort = 0 ∧ Bd 0 1 number) ∨ (sort = 1 ∧ Bd 0 2 number))) : CT con0 d 0 0 yX7_keep cX7_keep 4 none [.ref 1, .int sort, .int number, .ref 29] (Wd u g ex) (fun r h2 => ∃ (u2 : Nat → Nat → Int32), r = none ∧ h2 = Wd u2 g ex ∧ Bd 0 2 (u2 1 5) ∧ Bd 0 3 (u2 1 7) ∧ Bd 0 9 (u2 5 0) ∧ Bd 0 4 (u2 5 2) ∧ Bd 0 9 (u2 10 0) ∧ Bd 0 4 (u2 10 2) ∧ AB u2 6 (-1) 999 ∧ AB u2 11 (-1) 999 ∧ Bd 0 12 (u2 15 0) ∧ Bd 0 12 (u2 19 0) ∧ Bd 0 12 (u2 23 0) ∧ (KM u2 15) ∧ (KM u2 19) ∧ (KM u2 23) ∧ u2 = Fx_T_keepX sort number u g ∧ (∀ c, nin c [(1, 1), (5, 26)] = true → u2 c = u c) ∧ (∀ j, j ≠ 5 → j ≠ 7 → u2 1 j = u 1 j) ∧ (∀ j, j ≠ 0 → j ≠ 2 → u2 5 j = u 5 j) ∧ (∀ j, j ≠ 0 → j ≠ 2 → u2 10 j = u 10 j) ∧ (∀ j, j ≠ 0 → u2 15 j = u 15 j) ∧ (∀ j, j ≠ 0 → u2 19 j = u 19 j) ∧ (∀ j, j ≠ 0 → u2 23 j = u 23 j)) := by
  refine CT_of (by decide) (Nat.le_of_ble_eq_true rfl) (fun x hq => ?_)
  show J x yX7_keep cX7_keep 4 none d 0 0 (Wd u g ex).length 0 [(0, .ref 1), (1, .int sort), (2, .int number), (3, .ref 29)] [] (Wd u g ex) 0 0
  have E : Fx_T_keepX sort number u g = Fx_T_keepX sort number u g := rfl
  rcases hp21 with ⟨he, hb⟩ | ⟨he, hb⟩
  · replace E := xq_ep he E
    refine J_iload_n (i := 1) (j := 1) dX7_keep_0 rfl rfl ?_
    refine J_if_ne (tgt := 34) dX7_keep_1 (by decide) (fun c1 => ?_) (fun c1 => ?_)
    · exact (bd_no (bd_ne_lo (bd_r he (bd_c (v := 0) (lo := 0) (hi := 0) (by decide))) c1 (by decide)) (by decide)).elim
    · replace E := xq_ep c1 E
      refine J_aload_n (i := 0) (j := 0) dX7_keep_4 rfl rfl ?_
      refine J_get (C := RX7) (T := TX7) (Z := 8) (ci := 7) (f := 4) dX7_keep_5 inG7 rfl (by decide) k194 wc_1 rfl ?_
      refine J_iload_n (i := 2) (j := 2) dX7_keep_8 rfl rfl ?_
      have h2 := bd_cases2 hb
      rcases h2 with h2_0 | h2_1
      · replace E := xq_ep h2_0 E
        refine J_aald (q := 5) dX7_keep_9 wc_3 (fun _ => rfl) (vin hb (by decide)) (by rw [h2_0]; rfl) ?_
        refine J_aload_n (i := 3) (j := 3) dX7_keep_10 rfl rfl ?_
        refine J_getN (C := RX3) (T := TX3) (Z := 7) (ci := 3) (f := 1) dX7_keep_11 inG3 rfl (by decide) k262 wc_29 rfl ?_
        refine J_callV (As := [.ref 32]) (rest := []) dX7_keep_14 (c_H_copyBX (d := 1) (u := u) (g := g) (ex := ex)  (t := 5) (f := 32) (by decide) (by decide) (by decide) (Nat.ne_of_beq_eq_false rfl) hp16 hp17 hp8 hp18) hq.n k680 k681 k682 wc_5 rfl rfl k89 k683 np_X1_copy (Nat.le_trans (by decide) hd) (by decide) (Nat.le_refl _) (Nat.le_refl _) wlen rfl (Nat.le_of_ble_eq_true rfl) (fun r_ h_ p3 => ?_)
        obtain ⟨u4, rfl, rfl, h5, h6, h7, hx8, fr9, fc10⟩ := p3
        replace E := xq_le hx8 E
        refine J_aload_n (i := 0) (j := 0) dX7_keep_17 rfl rfl ?_
        refine J_aload_n (i := 0) (j := 0) dX7_keep_18 rfl rfl ?_
        refine J_get (C := RX7) (T := TX7) (Z := 8) (ci := 7) (f := 5) dX7_keep_19 inG7 rfl (by decide) k196 wc_1 rfl ?_
        refine J_ci (v := u 1 5) (congrFun (fr9 1 (Nat.ne_of_beq_eq_false rfl) (Nat.ne_of_beq_eq_false rfl) (Nat.ne_of_beq_eq_false rfl) (Nat.ne_of_beq_eq_false rfl) (Nat.ne_of_beq_eq_false rfl)) 5) ?_
        refine J_iload_n (i := 2) (j := 2) dX7_keep_22 rfl rfl ?_
        refine J_iconst (v := 1) dX7_keep_23 (by decide) ?_
        refine J_iadd dX7_keep_24 ?_
        refine J_mmax dX7_keep_25 k687 k688 k99 k689 (Nat.le_trans (by decide) hd) (Nat.le_of_ble_eq_true rfl) (Nat.zero_le _) (Nat.zero_le _) ?_
        refine J_topi (fun v11 qv11 => ?_)
        replace E := xq_le qv11 E
        obtain ⟨u12, e13⟩ : ∃ z, z = ms u4 1 5 v11 := ⟨_, rfl⟩
        refine J_put (C := RX7) (T := TX7) (Z := 8) (ci := 7) (f := 5) (ty0 := tyX7) dX7_keep_28 inG7 rfl tyX7_ok nmX7 (by decide) k196 rfl rfl wc_1 (Nat.le_of_ble_eq_true rfl) (fun _ _ => ⟨rfl, rfl⟩) (ws e13 wk_1 rfl) ?_
        replace E := xq_le e13 E
        refine J_goto (tgt := 61) dX7_keep_31 (by decide) ?_
        exact J_vret hq dX7_keep_61 rfl wlen (Nat.le_refl _) (Nat.le_refl _) ⟨u12, rfl, rfl, (bd_r (ms_e e13) (bd_w (l := 0) (h := 2) (bd_r qv11 (bd_max (l := 1) (h := 2) hp1 (bd_add (l := 1) (h := 1) (bd_r h2_0 (bd_c (v := 0) (lo := 0) (hi := 0) (by decide))) (bd_c (v := 1) (lo := 1) (hi := 1) (by decide)) (by decide)) (by decide))) (by decide))), (bd_r ((ms_i e13 (Nat.ne_of_beq_eq_false rfl)).trans (congrFun (fr9 1 (Nat.ne_of_beq_eq_false rfl) (Nat.ne_of_beq_eq_false rfl) (Nat.ne_of_beq_eq_false rfl) (Nat.ne_of_beq_eq_false rfl) (Nat.ne_of_beq_eq_false rfl)) 7)) hp2), (bd_r (congrFun (ms_c e13 (Nat.ne_of_beq_eq_false rfl)) 0) h5), (bd_r (congrFun (ms_c e13 (Nat.ne_of_beq_eq_false rfl)) 2) h6), (bd_r ((congrFun (ms_c e13 (Nat.ne_of_beq_eq_false rfl)) 0).trans (congrFun (fr9 10 (Nat.ne_of_beq_eq_false rfl) (Nat.ne_of_beq_eq_false rfl) (Nat.ne_of_beq_eq_false rfl) (Nat.ne_of_beq_eq_false rfl) (Nat.ne_of_beq_eq_false rfl)) 0)) hp6), (bd_r ((congrFun (ms_c e13 (Nat.ne_of_beq_eq_false rfl)) 2).trans (congrFun (fr9 10 (Nat.ne_of_beq_eq_false rfl) (Nat.ne_of_beq_eq_false rfl) (Nat.ne_of_beq_eq_false rfl) (Nat.ne_of_beq_eq_false rfl) (Nat.ne_of_beq_eq_false rfl)) 2)) hp7), (ab_c (ms_c e13 (Nat.ne_of_beq_eq_false rfl)) h7), (ab_c ((ms_c e13 (Nat.ne_of_beq_eq_false rfl)).trans (fr9 11 (Nat.ne_of_beq_eq_false rfl) (Nat.ne_of_beq_eq_false rfl) (Nat.ne_of_beq_eq_false rfl) (Nat.ne_of_beq_eq_false rfl) (Nat.ne_of_beq_eq_false rfl))) hp9), (bd_r ((congrFun (ms_c e13 (Nat.ne_of_beq_eq_false rfl)) 0).trans (congrFun (fr9 15 (Nat.ne_of_beq_eq_false rfl) (Nat.ne_of_beq_eq_false rfl) (Nat.ne_of_beq_eq_false rfl) (Nat.ne_of_beq_eq_false rfl) (Nat.ne_of_beq_eq_false rfl)) 0)) hp10), (bd_r ((congrFun (ms_c e13 (Nat.ne_of_beq_eq_false rfl)) 0).trans (congrFun (fr9 19 (Nat.ne_of_beq_eq_false rfl) (Nat.ne_of_beq_eq_false rfl) (Nat.ne_of_beq_eq_false rfl) (Nat.ne_of_beq_eq_false rfl) (Nat.ne_of_beq_eq_false rfl)) 0)) hp11), (bd_r ((congrFun (ms_c e13 (Nat.ne_of_beq_eq_false rfl)) 0).trans (congrFun (fr9 23 (Nat.ne_of_beq_eq_false rfl) (Nat.ne_of_beq_eq_false rfl) (Nat.ne_of_beq_eq_false rfl) (Nat.ne_of_beq_eq_false rfl) (Nat.ne_of_beq_eq_false rfl)) 0)) hp12), (km_c ((ms_c e13 (Nat.ne_of_beq_eq_false rfl)).trans (fr9 16 (Nat.ne_of_beq_eq_false rfl) (Nat.ne_of_beq_eq_false rfl) (Nat.ne_of_beq_eq_false rfl) (Nat.ne_of_beq_eq_false rfl) (Nat.ne_of_beq_eq_false rfl))) ((ms_c e13 (Nat.ne_of_beq_eq_false rfl)).trans (fr9 18 (Nat.ne_of_beq_eq_false rfl) (Nat.ne_of_beq_eq_false rfl) (Nat.ne_of_beq_eq_false rfl) (Nat.ne_of_beq_eq_false rfl) (Nat.ne_of_beq_eq_false rfl))) hp13), (km_c ((ms_c e13 (Nat.ne_of_beq_eq_false rfl)).trans (fr9 20 (Nat.ne_of_beq_eq_false rfl) (Nat.ne_of_beq_eq_false rfl) (Nat.ne_of_beq_eq_false rfl) (Nat.ne_of_beq_eq_false rfl) (Nat.ne_of_beq_eq_false rfl))) ((ms_c e13 (Nat.ne_of_beq_eq_false rfl)).trans (fr9 22 (Nat.ne_of_beq_eq_false rfl) (Nat.ne_of_beq_eq_false rfl) (Nat.ne_of_beq_eq_false rfl) (Nat.ne_of_beq_eq_false rfl) (Nat.ne_of_beq_eq_false rfl))) hp14), (km_c ((ms_c e13 (Nat.ne_of_beq_eq_false rfl)).trans (fr9 24 (Nat.ne_of_beq_eq_false rfl) (Nat.ne_of_beq_eq_false rfl) (Nat.ne_of_beq_eq_false rfl) (Nat.ne_of_beq_eq_false rfl) (Nat.ne_of_beq_eq_false rfl))) ((ms_c e13 (Nat.ne_of_beq_eq_false rfl)).trans (fr9 26 (Nat.ne_of_beq_eq_false rfl) (Nat.ne_of_beq_eq_false rfl) (Nat.ne_of_beq_eq_false rfl) (Nat.ne_of_beq_eq_false rfl) (Nat.ne_of_beq_eq_false rfl))) hp15), E, (fun c k_ => ((ms_c e13 (nin_ne (a := 1) k_ rfl)).trans (fr9 c (nin_ne (a := 5) k_ rfl) (nin_ne (a := 6) k_ rfl) (nin_ne (a := 7) k_ rfl) (nin_ne (a := 8) k_ rfl) (nin_ne (a := 9) k_ rfl)))), (fun j k5_ k7_ => ((ms_i e13 k5_).trans (congrFun (fr9 1 (Nat.ne_of_beq_eq_false rfl) (Nat.ne_of_beq_eq_false rfl) (Nat.ne_of_beq_eq_false rfl) (Nat.ne_of_beq_eq_false rfl) (Nat.ne_of_beq_eq_false rfl)) j))), (fun j k0_ k2_ => ((congrFun (ms_c e13 (Nat.ne_of_beq_eq_false rfl)) j).trans (fc10 j k0_ k2_))), (fun j k0_ k2_ => ((congrFun (ms_c e13 (Nat.ne_of_beq_eq_false rfl)) j).trans (congrFun (fr9 10 (Nat.ne_of_beq_eq_false rfl) (Nat.ne_of_beq_eq_false rfl) (Nat.ne_of_beq_eq_false rfl) (Nat.ne_of_beq_eq_false rfl) (Nat.ne_of_beq_eq_false rfl)) j))), (fun j k0_ => ((congrFun (ms_c e13 (Nat.ne_of_beq_eq_false rfl)) j).trans (congrFun (fr9 15 (Nat.ne_of_beq_eq_false rfl) (Nat.ne_of_beq_eq_false rfl) (Nat.ne_of_beq_eq_false rfl) (Nat.ne_of_beq_eq_false rfl) (Nat.ne_of_beq_eq_false rfl)) j))), (fun j k0_ => ((congrFun (ms_c e13 (Nat.ne_of_beq_eq_false rfl)) j).trans (congrFun (fr9 19 (Nat.ne_of_beq_eq_false rfl) (Nat.ne_of_beq_eq_false rfl) (Nat.ne_of_beq_eq_false rfl) (Nat.ne_of_beq_eq_false rfl) (Nat.ne_of_beq_eq_false rfl)) j))), (fun j k0_ => ((congrFun (ms_c e13 (Nat.ne_of_beq_eq_false rfl)) j).trans (congrFun (fr9 23 (Nat.ne_of_beq_eq_false rfl) (Nat.ne_of_beq_eq_false rfl) (Nat.ne_of_beq_eq_false rfl) (Nat.ne_of_beq_eq_false rfl) (Nat.ne_of_beq_eq_false rfl)) j)))⟩
      · replace E := xq_en (fun z_ => absurd (z_.symm.trans h2_1) (by decide)) E
        refine J_aald (q := 10) dX7_keep_9 wc_3 (fun _ => rfl) (vin hb (by decide)) (by rw [h2_1]; rfl) ?_
        refine J_aload_n (i := 3) (j := 3) dX7_keep_10 rfl rfl ?_
        refine J_getN (C := RX3) (T := TX3) (Z := 7) (ci := 3) (f := 1) dX7_keep_11 inG3 rfl (by decide) k262 wc_29 rfl ?_
        refine J_callV (As := [.ref 32]) (rest := []) dX7_keep_14 (c_H_copyBX (d := 1) (u := u) (g := g) (ex := ex)  (t := 10) (f := 32) (by decide) (by decide) (by decide) (Nat.ne_of_beq_eq_false rfl) hp16 hp17 hp9 hp18) hq.n k680 k681 k682 wc_10 rfl rfl k89 k683 np_X1_copy (Nat.le_trans (by decide) hd) (by decide) (Nat.le_refl _) (Nat.le_refl _) wlen rfl (Nat.le_of_ble_eq_true rfl) (fun r_ h_ p14 => ?_)
        obtain ⟨u15, rfl, rfl, h16, h17, h18, hx19, fr20, fc21⟩ := p14
        replace E := xq_le hx19 E
        refine J_aload_n (i := 0) (j := 0) dX7_keep_17 rfl rfl ?_
        refine J_aload_n (i := 0) (j := 0) dX7_keep_18 rfl rfl ?_
        refine J_get (C := RX7) (T := TX7) (Z := 8) (ci := 7) (f := 5) dX7_keep_19 inG7 rfl (by decide) k196 wc_1 rfl ?_
        refine J_ci (v := u 1 5) (congrFun (fr20 1 (Nat.ne_of_beq_eq_false rfl) (Nat.ne_of_beq_eq_false rfl) (Nat.ne_of_beq_eq_false rfl) (Nat.ne_of_beq_eq_false rfl) (Nat.ne_of_beq_eq_false rfl)) 5) ?_
        refine J_iload_n (i := 2) (j := 2) dX7_keep_22 rfl rfl ?_
        refine J_iconst (v := 1) dX7_keep_23 (by decide) ?_
        refine J_iadd dX7_keep_24 ?_
        refine J_mmax dX7_keep_25 k687 k688 k99 k689 (Nat.le_trans (by decide) hd) (Nat.le_of_ble_eq_true rfl) (Nat.zero_le _) (Nat.zero_le _) ?_
        refine J_topi (fun v22 qv22 => ?_)
        replace E := xq_le qv22 E
        obtain ⟨u23, e24⟩ : ∃ z, z = ms u15 1 5 v22 := ⟨_, rfl⟩
        refine J_put (C := RX7) (T := TX7) (Z := 8) (ci := 7) (f := 5) (ty0 := tyX7) dX7_keep_28 inG7 rfl tyX7_ok nmX7 (by decide) k196 rfl rfl wc_1 (Nat.le_of_ble_eq_true rfl) (fun _ _ => ⟨rfl, rfl⟩) (ws e24 wk_1 rfl) ?_
        replace E := xq_le e24 E
        refine J_goto (tgt := 61) dX7_keep_31 (by decide) ?_
        exact J_vret hq dX7_keep_61 rfl wlen (Nat.le_refl _) (Nat.le_refl _) ⟨u23, rfl, rfl, (bd_r (ms_e e24) (bd_w (l := 0) (h := 2) (bd_r qv22 (bd_max (l := 2) (h := 2) hp1 (bd_add (l := 2) (h := 2) (bd_r h2_1 (bd_c (v := 1) (lo := 1) (hi := 1) (by decide))) (bd_c (v := 1) (lo := 1) (hi := 1) (by decide)) (by decide)) (by decide))) (by decide))), (bd_r ((ms_i e24 (Nat.ne_of_beq_eq_false rfl)).trans (congrFun (fr20 1 (Nat.ne_of_beq_eq_false rfl) (Nat.ne_of_beq_eq_false rfl) (Nat.ne_of_beq_eq_false rfl) (Nat.ne_of_beq_eq_false rfl) (Nat.ne_of_beq_eq_false rfl)) 7)) hp2), (bd_r ((congrFun (ms_c e24 (Nat.ne_of_beq_eq_false rfl)) 0).trans (congrFun (fr20 5 (Nat.ne_of_beq_eq_false rfl) (Nat.ne_of_beq_eq_false rfl) (Nat.ne_of_beq_eq_false rfl) (Nat.ne_of_beq_eq_false rfl) (Nat.ne_of_beq_eq_false rfl)) 0)) hp4), (bd_r ((congrFun (ms_c e24 (Nat.ne_of_beq_eq_false rfl)) 2).trans (congrFun (fr20 5 (Nat.ne_of_beq_eq_false rfl) (Nat.ne_of_beq_eq_false rfl) (Nat.ne_of_beq_eq_false rfl) (Nat.ne_of_beq_eq_false rfl) (Nat.ne_of_beq_eq_false rfl)) 2)) hp5), (bd_r (congrFun (ms_c e24 (Nat.ne_of_beq_eq_false rfl)) 0) h16), (bd_r (congrFun (ms_c e24 (Nat.ne_of_beq_eq_false rfl)) 2) h17), (ab_c ((ms_c e24 (Nat.ne_of_beq_eq_false rfl)).trans (fr20 6 (Nat.ne_of_beq_eq_false rfl) (Nat.ne_of_beq_eq_false rfl) (Nat.ne_of_beq_eq_false rfl) (Nat.ne_of_beq_eq_false rfl) (Nat.ne_of_beq_eq_false rfl))) hp8), (ab_c (ms_c e24 (Nat.ne_of_beq_eq_false rfl)) h18), (bd_r ((congrFun (ms_c e24 (Nat.ne_of_beq_eq_false rfl)) 0).trans (congrFun (fr20 15 (Nat.ne_of_beq_eq_false rfl) (Nat.ne_of_beq_eq_false rfl) (Nat.ne_of_beq_eq_false rfl) (Nat.ne_of_beq_eq_false rfl) (Nat.ne_of_beq_eq_false rfl)) 0)) hp10), (bd_r ((congrFun (ms_c e24 (Nat.ne_of_beq_eq_false rfl)) 0).trans (congrFun (fr20 19 (Nat.ne_of_beq_eq_false rfl) (Nat.ne_of_beq_eq_false rfl) (Nat.ne_of_beq_eq_false rfl) (Nat.ne_of_beq_eq_false rfl) (Nat.ne_of_beq_eq_false rfl)) 0)) hp11), (bd_r ((congrFun (ms_c e24 (Nat.ne_of_beq_eq_false rfl)) 0).trans (congrFun (fr20 23 (Nat.ne_of_beq_eq_false rfl) (Nat.ne_of_beq_eq_false rfl) (Nat.ne_of_beq_eq_false rfl) (Nat.ne_of_beq_eq_false rfl) (Nat.ne_of_beq_eq_false rfl)) 0)) hp12), (km_c ((ms_c e24 (Nat.ne_of_beq_eq_false rfl)).trans (fr20 16 (Nat.ne_of_beq_eq_false rfl) (Nat.ne_of_beq_eq_false rfl) (Nat.ne_of_beq_eq_false rfl) (Nat.ne_of_beq_eq_false rfl) (Nat.ne_of_beq_eq_false rfl))) ((ms_c e24 (Nat.ne_of_beq_eq_false rfl)).trans (fr20 18 (Nat.ne_of_beq_eq_false rfl) (Nat.ne_of_beq_eq_false rfl) (Nat.ne_of_beq_eq_false rfl) (Nat.ne_of_beq_eq_false rfl) (Nat.ne_of_beq_eq_false rfl))) hp13), (km_c ((ms_c e24 (Nat.ne_of_beq_eq_false rfl)).trans (fr20 20 (Nat.ne_of_beq_eq_false rfl) (Nat.ne_of_beq_eq_false rfl) (Nat.ne_of_beq_eq_false rfl) (Nat.ne_of_beq_eq_false rfl) (Nat.ne_of_beq_eq_false rfl))) ((ms_c e24 (Nat.ne_of_beq_eq_false rfl)).trans (fr20 22 (Nat.ne_of_beq_eq_false rfl) (Nat.ne_of_beq_eq_false rfl) (Nat.ne_of_beq_eq_false rfl) (Nat.ne_of_beq_eq_false rfl) (Nat.ne_of_beq_eq_false rfl))) hp14), (km_c ((ms_c e24 (Nat.ne_of_beq_eq_false rfl)).trans (fr20 24 (Nat.ne_of_beq_eq_false rfl) (Nat.ne_of_beq_eq_false rfl) (Nat.ne_of_beq_eq_false rfl) (Nat.ne_of_beq_eq_false rfl) (Nat.ne_of_beq_eq_false rfl))) ((ms_c e24 (Nat.ne_of_beq_eq_false rfl)).trans (fr20 26 (Nat.ne_of_beq_eq_false rfl) (Nat.ne_of_beq_eq_false rfl) (Nat.ne_of_beq_eq_false rfl) (Nat.ne_of_beq_eq_false rfl) (Nat.ne_of_beq_eq_false rfl))) hp15), E, (fun c k_ => ((ms_c e24 (nin_ne (a := 1) k_ rfl)).trans (fr20 c (nin_ne (a := 10) k_ rfl) (nin_ne (a := 11) k_ rfl) (nin_ne (a := 12) k_ rfl) (nin_ne (a := 13) k_ rfl) (nin_ne (a := 14) k_ rfl)))), (fun j k5_ k7_ => ((ms_i e24 k5_).trans (congrFun (fr20 1 (Nat.ne_of_beq_eq_false rfl) (Nat.ne_of_beq_eq_false rfl) (Nat.ne_of_beq_eq_false rfl) (Nat.ne_of_beq_eq_false rfl) (Nat.ne_of_beq_eq_false rfl)) j))), (fun j k0_ k2_ => ((congrFun (ms_c e24 (Nat.ne_of_beq_eq_false rfl)) j).trans (congrFun (fr20 5 (Nat.ne_of_beq_eq_false rfl) (Nat.ne_of_beq_eq_false rfl) (Nat.ne_of_beq_eq_false rfl) (Nat.ne_of_beq_eq_false rfl) (Nat.ne_of_beq_eq_false rfl)) j))), (fun j k0_ k2_ => ((congrFun (ms_c e24 (Nat.ne_of_beq_eq_false rfl)) j).trans (fc21 j k0_ k2_))), (fun j k0_ => ((congrFun (ms_c e24 (Nat.ne_of_beq_eq_false rfl)) j).trans (congrFun (fr20 15 (Nat.ne_of_beq_eq_false rfl) (Nat.ne_of_beq_eq_false rfl) (Nat.ne_of_beq_eq_false rfl) (Nat.ne_of_beq_eq_false rfl) (Nat.ne_of_beq_eq_false rfl)) j))), (fun j k0_ => ((congrFun (ms_c e24 (Nat.ne_of_beq_eq_false rfl)) j).trans (congrFun (fr20 19 (Nat.ne_of_beq_eq_false rfl) (Nat.ne_of_beq_eq_false rfl) (Nat.ne_of_beq_eq_false rfl) (Nat.ne_of_beq_eq_false rfl) (Nat.ne_of_beq_eq_false rfl)) j))), (fun j k0_ => ((congrFun (ms_c e24 (Nat.ne_of_beq_eq_false rfl)) j).trans (congrFun (fr20 23 (Nat.ne_of_beq_eq_false rfl) (Nat.ne_of_beq_eq_false rfl) (Nat.ne_of_beq_eq_false rfl) (Nat.ne_of_beq_eq_false rfl) (Nat.ne_of_beq_eq_false rfl)) j)))⟩
  · replace E := xq_en (fun z_ => absurd (z_.symm.trans he) (by decide)) E
    refine J_iload_n (i := 1) (j := 1) dX7_keep_0 rfl rfl ?_
    refine J_if_ne (tgt := 34) dX7_keep_1 (by decide) (fun c25 => ?_) (fun c25 => ?_)
    · replace E := xq_en c25 E
      refine J_aload_n (i := 0) (j := 0) dX7_keep_34 rfl rfl ?_
      refine J_get (C := RX7) (T := TX7) (Z := 8) (ci := 7) (f := 6) dX7_keep_35 inG7 rfl (by decide) k198 wc_1 rfl ?_
      refine J_iload_n (i := 2) (j := 2) dX7_keep_38 rfl rfl ?_
      have h26 := bd_cases3 hb
      rcases h26 with h26_0 | h26_1 | h26_2
      · replace E := xq_ep h26_0 E
        refine J_aald (q := 15) dX7_keep_39 wc_4 (fun _ => rfl) (vin hb (by decide)) (by rw [h26_0]; rfl) ?_
        refine J_aload_n (i := 3) (j := 3) dX7_keep_40 rfl rfl ?_
        refine J_getN (C := RX3) (T := TX3) (Z := 7) (ci := 3) (f := 2) dX7_keep_41 inG3 rfl (by decide) k264 wc_29 rfl ?_
        refine J_callV (As := [.ref 37]) (rest := []) dX7_keep_44 (c_W_copyK_15_37X (d := 1) (u := u) (g := g) (ex := ex)   (by decide) hp19 hp20 hp13) hq.n k690 k691 k692 wc_15 rfl rfl k90 k693 np_X8_copy (Nat.le_trans (by decide) hd) (by decide) (Nat.le_refl _) (Nat.le_refl _) wlen rfl (Nat.le_of_ble_eq_true rfl) (fun r_ h_ p27 => ?_)
        obtain ⟨u28, rfl, rfl, h29, h30, hx31, fr32, fc33⟩ := p27
        replace E := xq_le hx31 E
        refine J_aload_n (i := 0) (j := 0) dX7_keep_47 rfl rfl ?_
        refine J_aload_n (i := 0) (j := 0) dX7_keep_48 rfl rfl ?_
        refine J_get (C := RX7) (T := TX7) (Z := 8) (ci := 7) (f := 7) dX7_keep_49 inG7 rfl (by decide) k200 wc_1 rfl ?_
        refine J_ci (v := u 1 7) (congrFun (fr32 1 rfl) 7) ?_
        refine J_iload_n (i := 2) (j := 2) dX7_keep_52 rfl rfl ?_
        refine J_iconst (v := 1) dX7_keep_53 (by decide) ?_
        refine J_iadd dX7_keep_54 ?_
        refine J_mmax dX7_keep_55 k687 k688 k99 k689 (Nat.le_trans (by decide) hd) (Nat.le_of_ble_eq_true rfl) (Nat.zero_le _) (Nat.zero_le _) ?_
        refine J_topi (fun v34 qv34 => ?_)
        replace E := xq_le qv34 E
        obtain ⟨u35, e36⟩ : ∃ z, z = ms u28 1 7 v34 := ⟨_, rfl⟩
        refine J_put (C := RX7) (T := TX7) (Z := 8) (ci := 7) (f := 7) (ty0 := tyX7) dX7_keep_58 inG7 rfl tyX7_ok nmX7 (by decide) k200 rfl rfl wc_1 (Nat.le_of_ble_eq_true rfl) (fun _ _ => ⟨rfl, rfl⟩) (ws e36 wk_1 rfl) ?_
        replace E := xq_le e36 E
        exact J_vret hq dX7_keep_61 rfl wlen (Nat.le_refl _) (Nat.le_refl _) ⟨u35, rfl, rfl, (bd_r ((ms_i e36 (Nat.ne_of_beq_eq_false rfl)).trans (congrFun (fr32 1 rfl) 5)) hp1), (bd_r (ms_e e36) (bd_w (l := 0) (h := 3) (bd_r qv34 (bd_max (l := 1) (h := 3) hp2 (bd_add (l := 1) (h := 1) (bd_r h26_0 (bd_c (v := 0) (lo := 0) (hi := 0) (by decide))) (bd_c (v := 1) (lo := 1) (hi := 1) (by decide)) (by decide)) (by decide))) (by decide))), (bd_r ((congrFun (ms_c e36 (Nat.ne_of_beq_eq_false rfl)) 0).trans (congrFun (fr32 5 rfl) 0)) hp4), (bd_r ((congrFun (ms_c e36 (Nat.ne_of_beq_eq_false rfl)) 2).trans (congrFun (fr32 5 rfl) 2)) hp5), (bd_r ((congrFun (ms_c e36 (Nat.ne_of_beq_eq_false rfl)) 0).trans (congrFun (fr32 10 rfl) 0)) hp6), (bd_r ((congrFun (ms_c e36 (Nat.ne_of_beq_eq_false rfl)) 2).trans (congrFun (fr32 10 rfl) 2)) hp7), (ab_c ((ms_c e36 (Nat.ne_of_beq_eq_false rfl)).trans (fr32 6 rfl)) hp8), (ab_c ((ms_c e36 (Nat.ne_of_beq_eq_false rfl)).trans (fr32 11 rfl)) hp9), (bd_r (congrFun (ms_c e36 (Nat.ne_of_beq_eq_false rfl)) 0) h29), (bd_r ((congrFun (ms_c e36 (Nat.ne_of_beq_eq_false rfl)) 0).trans (congrFun (fr32 19 rfl) 0)) hp11), (bd_r ((congrFun (ms_c e36 (Nat.ne_of_beq_eq_false rfl)) 0).trans (congrFun (fr32 23 rfl) 0)) hp12), (km_c (ms_c e36 (Nat.ne_of_beq_eq_false rfl)) (ms_c e36 (Nat.ne_of_beq_eq_false rfl)) h30), (km_c ((ms_c e36 (Nat.ne_of_beq_eq_false rfl)).trans (fr32 20 rfl)) ((ms_c e36 (Nat.ne_of_beq_eq_false rfl)).trans (fr32 22 rfl)) hp14), (km_c ((ms_c e36 (Nat.ne_of_beq_eq_false rfl)).trans (fr32 24 rfl)) ((ms_c e36 (Nat.ne_of_beq_eq_false rfl)).trans (fr32 26 rfl)) hp15), E, (fun c k_ => ((ms_c e36 (nin_ne (a := 1) k_ rfl)).trans (fr32 c (nin_sub (M := [(15, 18)]) k_ rfl)))), (fun j k5_ k7_ => ((ms_i e36 k7_).trans (congrFun (fr32 1 rfl) j))), (fun j k0_ k2_ => ((congrFun (ms_c e36 (Nat.ne_of_beq_eq_false rfl)) j).trans (congrFun (fr32 5 rfl) j))), (fun j k0_ k2_ => ((congrFun (ms_c e36 (Nat.ne_of_beq_eq_false rfl)) j).trans (congrFun (fr32 10 rfl) j))), (fun j k0_ => ((congrFun (ms_c e36 (Nat.ne_of_beq_eq_false rfl)) j).trans (fc33 j k0_))), (fun j k0_ => ((congrFun (ms_c e36 (Nat.ne_of_beq_eq_false rfl)) j).trans (congrFun (fr32 19 rfl) j))), (fun j k0_ => ((congrFun (ms_c e36 (Nat.ne_of_beq_eq_false rfl)) j).trans (congrFun (fr32 23 rfl) j)))⟩
      · replace E := xq_en (fun z_ => absurd (z_.symm.trans h26_1) (by decide)) E
        replace E := xq_ep h26_1 E
        refine J_aald (q := 19) dX7_keep_39 wc_4 (fun _ => rfl) (vin hb (by decide)) (by rw [h26_1]; rfl) ?_
        refine J_aload_n (i := 3) (j := 3) dX7_keep_40 rfl rfl ?_
        refine J_getN (C := RX3) (T := TX3) (Z := 7) (ci := 3) (f := 2) dX7_keep_41 inG3 rfl (by decide) k264 wc_29 rfl ?_
        refine J_callV (As := [.ref 37]) (rest := []) dX7_keep_44 (c_W_copyK_19_37X (d := 1) (u := u) (g := g) (ex := ex)   (by decide) hp19 hp20 hp14) hq.n k690 k691 k692 wc_19 rfl rfl k90 k693 np_X8_copy (Nat.le_trans (by decide) hd) (by decide) (Nat.le_refl _) (Nat.le_refl _) wlen rfl (Nat.le_of_ble_eq_true rfl) (fun r_ h_ p37 => ?_)
        obtain ⟨u38, rfl, rfl, h39, h40, hx41, fr42, fc43⟩ := p37
        replace E := xq_le hx41 E
        refine J_aload_n (i := 0) (j := 0) dX7_keep_47 rfl rfl ?_
        refine J_aload_n (i := 0) (j := 0) dX7_keep_48 rfl rfl ?_
        refine J_get (C := RX7) (T := TX7) (Z := 8) (ci := 7) (f := 7) dX7_keep_49 inG7 rfl (by decide) k200 wc_1 rfl ?_
        refine J_ci (v := u 1 7) (congrFun (fr42 1 rfl) 7) ?_
        refine J_iload_n (i := 2) (j := 2) dX7_keep_52 rfl rfl ?_
        refine J_iconst (v := 1) dX7_keep_53 (by decide) ?_
        refine J_iadd dX7_keep_54 ?_
        refine J_mmax dX7_keep_55 k687 k688 k99 k689 (Nat.le_trans (by decide) hd) (Nat.le_of_ble_eq_true rfl) (Nat.zero_le _) (Nat.zero_le _) ?_
        refine J_topi (fun v44 qv44 => ?_)
        replace E := xq_le qv44 E
        obtain ⟨u45, e46⟩ : ∃ z, z = ms u38 1 7 v44 := ⟨_, rfl⟩
        refine J_put (C := RX7) (T := TX7) (Z := 8) (ci := 7) (f := 7) (ty0 := tyX7) dX7_keep_58 inG7 rfl tyX7_ok nmX7 (by decide) k200 rfl rfl wc_1 (Nat.le_of_ble_eq_true rfl) (fun _ _ => ⟨rfl, rfl⟩) (ws e46 wk_1 rfl) ?_
        replace E := xq_le e46 E
        exact J_vret hq dX7_keep_61 rfl wlen (Nat.le_refl _) (Nat.le_refl _) ⟨u45, rfl, rfl, (bd_r ((ms_i e46 (Nat.ne_of_beq_eq_false rfl)).trans (congrFun (fr42 1 rfl) 5)) hp1), (bd_r (ms_e e46) (bd_w (l := 0) (h := 3) (bd_r qv44 (bd_max (l := 2) (h := 3) hp2 (bd_add (l := 2) (h := 2) (bd_r h26_1 (bd_c (v := 1) (lo := 1) (hi := 1) (by decide))) (bd_c (v := 1) (lo := 1) (hi := 1) (by decide)) (by decide)) (by decide))) (by decide))), (bd_r ((congrFun (ms_c e46 (Nat.ne_of_beq_eq_false rfl)) 0).trans (congrFun (fr42 5 rfl) 0)) hp4), (bd_r ((congrFun (ms_c e46 (Nat.ne_of_beq_eq_false rfl)) 2).trans (congrFun (fr42 5 rfl) 2)) hp5), (bd_r ((congrFun (ms_c e46 (Nat.ne_of_beq_eq_false rfl)) 0).trans (congrFun (fr42 10 rfl) 0)) hp6), (bd_r ((congrFun (ms_c e46 (Nat.ne_of_beq_eq_false rfl)) 2).trans (congrFun (fr42 10 rfl) 2)) hp7), (ab_c ((ms_c e46 (Nat.ne_of_beq_eq_false rfl)).trans (fr42 6 rfl)) hp8), (ab_c ((ms_c e46 (Nat.ne_of_beq_eq_false rfl)).trans (fr42 11 rfl)) hp9), (bd_r ((congrFun (ms_c e46 (Nat.ne_of_beq_eq_false rfl)) 0).trans (congrFun (fr42 15 rfl) 0)) hp10), (bd_r (congrFun (ms_c e46 (Nat.ne_of_beq_eq_false rfl)) 0) h39), (bd_r ((congrFun (ms_c e46 (Nat.ne_of_beq_eq_false rfl)) 0).trans (congrFun (fr42 23 rfl) 0)) hp12), (km_c ((ms_c e46 (Nat.ne_of_beq_eq_false rfl)).trans (fr42 16 rfl)) ((ms_c e46 (Nat.ne_of_beq_eq_false rfl)).trans (fr42 18 rfl)) hp13), (km_c (ms_c e46 (Nat.ne_of_beq_eq_false rfl)) (ms_c e46 (Nat.ne_of_beq_eq_false rfl)) h40), (km_c ((ms_c e46 (Nat.ne_of_beq_eq_false rfl)).trans (fr42 24 rfl)) ((ms_c e46 (Nat.ne_of_beq_eq_false rfl)).trans (fr42 26 rfl)) hp15), E, (fun c k_ => ((ms_c e46 (nin_ne (a := 1) k_ rfl)).trans (fr42 c (nin_sub (M := [(19, 22)]) k_ rfl)))), (fun j k5_ k7_ => ((ms_i e46 k7_).trans (congrFun (fr42 1 rfl) j))), (fun j k0_ k2_ => ((congrFun (ms_c e46 (Nat.ne_of_beq_eq_false rfl)) j).trans (congrFun (fr42 5 rfl) j))), (fun j k0_ k2_ => ((congrFun (ms_c e46 (Nat.ne_of_beq_eq_false rfl)) j).trans (congrFun (fr42 10 rfl) j))), (fun j k0_ => ((congrFun (ms_c e46 (Nat.ne_of_beq_eq_false rfl)) j).trans (congrFun (fr42 15 rfl) j))), (fun j k0_ => ((congrFun (ms_c e46 (Nat.ne_of_beq_eq_false rfl)) j).trans (fc43 j k0_))), (fun j k0_ => ((congrFun (ms_c e46 (Nat.ne_of_beq_eq_false rfl)) j).trans (congrFun (fr42 23 rfl) j)))⟩
      · replace E := xq_en (fun z_ => absurd (z_.symm.trans h26_2) (by decide)) E
        replace E := xq_en (fun z_ => absurd (z_.symm.trans h26_2) (by decide)) E
        refine J_aald (q := 23) dX7_keep_39 wc_4 (fun _ => rfl) (vin hb (by decide)) (by rw [h26_2]; rfl) ?_
        refine J_aload_n (i := 3) (j := 3) dX7_keep_40 rfl rfl ?_
        refine J_getN (C := RX3) (T := TX3) (Z := 7) (ci := 3) (f := 2) dX7_keep_41 inG3 rfl (by decide) k264 wc_29 rfl ?_
        refine J_callV (As := [.ref 37]) (rest := []) dX7_keep_44 (c_W_copyK_23_37X (d := 1) (u := u) (g := g) (ex := ex)   (by decide) hp19 hp20 hp15) hq.n k690 k691 k692 wc_23 rfl rfl k90 k693 np_X8_copy (Nat.le_trans (by decide) hd) (by decide) (Nat.le_refl _) (Nat.le_refl _) wlen rfl (Nat.le_of_ble_eq_true rfl) (fun r_ h_ p47 => ?_)
        obtain ⟨u48, rfl, rfl, h49, h50, hx51, fr52, fc53⟩ := p47
        replace E := xq_le hx51 E
        refine J_aload_n (i := 0) (j := 0) dX7_keep_47 rfl rfl ?_
        refine J_aload_n (i := 0) (j := 0) dX7_keep_48 rfl rfl ?_
        refine J_get (C := RX7) (T := TX7) (Z := 8) (ci := 7) (f := 7) dX7_keep_49 inG7 rfl (by decide) k200 wc_1 rfl ?_
        refine J_ci (v := u 1 7) (congrFun (fr52 1 rfl) 7) ?_
        refine J_iload_n (i := 2) (j := 2) dX7_keep_52 rfl rfl ?_
        refine J_iconst (v := 1) dX7_keep_53 (by decide) ?_
        refine J_iadd dX7_keep_54 ?_
        refine J_mmax dX7_keep_55 k687 k688 k99 k689 (Nat.le_trans (by decide) hd) (Nat.le_of_ble_eq_true rfl) (Nat.zero_le _) (Nat.zero_le _) ?_
        refine J_topi (fun v54 qv54 => ?_)
        replace E := xq_le qv54 E
        obtain ⟨u55, e56⟩ : ∃ z, z = ms u48 1 7 v54 := ⟨_, rfl⟩
        refine J_put (C := RX7) (T := TX7) (Z := 8) (ci := 7) (f := 7) (ty0 := tyX7) dX7_keep_58 inG7 rfl tyX7_ok nmX7 (by decide) k200 rfl rfl wc_1 (Nat.le_of_ble_eq_true rfl) (fun _ _ => ⟨rfl, rfl⟩) (ws e56 wk_1 rfl) ?_
        replace E := xq_le e56 E
        exact J_vret hq dX7_keep_61 rfl wlen (Nat.le_refl _) (Nat.le_refl _) ⟨u55, rfl, rfl, (bd_r ((ms_i e56 (Nat.ne_of_beq_eq_false rfl)).trans (congrFun (fr52 1 rfl) 5)) hp1), (bd_r (ms_e e56) (bd_w (l := 0) (h := 3) (bd_r qv54 (bd_max (l := 3) (h := 3) hp2 (bd_add (l := 3) (h := 3) (bd_r h26_2 (bd_c (v := 2) (lo := 2) (hi := 2) (by decide))) (bd_c (v := 1) (lo := 1) (hi := 1) (by decide)) (by decide)) (by decide))) (by decide))), (bd_r ((congrFun (ms_c e56 (Nat.ne_of_beq_eq_false rfl)) 0).trans (congrFun (fr52 5 rfl) 0)) hp4), (bd_r ((congrFun (ms_c e56 (Nat.ne_of_beq_eq_false rfl)) 2).trans (congrFun (fr52 5 rfl) 2)) hp5), (bd_r ((congrFun (ms_c e56 (Nat.ne_of_beq_eq_false rfl)) 0).trans (congrFun (fr52 10 rfl) 0)) hp6), (bd_r ((congrFun (ms_c e56 (Nat.ne_of_beq_eq_false rfl)) 2).trans (congrFun (fr52 10 rfl) 2)) hp7), (ab_c ((ms_c e56 (Nat.ne_of_beq_eq_false rfl)).trans (fr52 6 rfl)) hp8), (ab_c ((ms_c e56 (Nat.ne_of_beq_eq_false rfl)).trans (fr52 11 rfl)) hp9), (bd_r ((congrFun (ms_c e56 (Nat.ne_of_beq_eq_false rfl)) 0).trans (congrFun (fr52 15 rfl) 0)) hp10), (bd_r ((congrFun (ms_c e56 (Nat.ne_of_beq_eq_false rfl)) 0).trans (congrFun (fr52 19 rfl) 0)) hp11), (bd_r (congrFun (ms_c e56 (Nat.ne_of_beq_eq_false rfl)) 0) h49), (km_c ((ms_c e56 (Nat.ne_of_beq_eq_false rfl)).trans (fr52 16 rfl)) ((ms_c e56 (Nat.ne_of_beq_eq_false rfl)).trans (fr52 18 rfl)) hp13), (km_c ((ms_c e56 (Nat.ne_of_beq_eq_false rfl)).trans (fr52 20 rfl)) ((ms_c e56 (Nat.ne_of_beq_eq_false rfl)).trans (fr52 22 rfl)) hp14), (km_c (ms_c e56 (Nat.ne_of_beq_eq_false rfl)) (ms_c e56 (Nat.ne_of_beq_eq_false rfl)) h50), E, (fun c k_ => ((ms_c e56 (nin_ne (a := 1) k_ rfl)).trans (fr52 c (nin_sub (M := [(23, 26)]) k_ rfl)))), (fun j k5_ k7_ => ((ms_i e56 k7_).trans (congrFun (fr52 1 rfl) j))), (fun j k0_ k2_ => ((congrFun (ms_c e56 (Nat.ne_of_beq_eq_false rfl)) j).trans (congrFun (fr52 5 rfl) j))), (fun j k0_ k2_ => ((congrFun (ms_c e56 (Nat.ne_of_beq_eq_false rfl)) j).trans (congrFun (fr52 10 rfl) j))), (fun j k0_ => ((congrFun (ms_c e56 (Nat.ne_of_beq_eq_false rfl)) j).trans (congrFun (fr52 15 rfl) j))), (fun j k0_ => ((congrFun (ms_c e56 (Nat.ne_of_beq_eq_false rfl)) j).trans (congrFun (fr52 19 rfl) j))), (fun j k0_ => ((congrFun (ms_c e56 (Nat.ne_of_beq_eq_false rfl)) j).trans (fc53 j k0_)))⟩
    · exact (bd_neq c25 (bd_r he (bd_c (v := 1) (lo := 1) (hi := 1) (by decide))) (bd_c (v := 0) (lo := 0) (hi := 0) (by decide)) (by decide)).elim
