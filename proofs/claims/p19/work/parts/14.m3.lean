/-! ===== METHODS, by program ===== -/
/-! Windsparlour.completesRow(LWindsparlour$Seat;II)Z -/
theorem dX3_completesRow_0 : decode cX3_completesRow 0 = .ok (.iload_n 2, 1) := by decide +kernel
theorem dX3_completesRow_1 : decode cX3_completesRow 1 = .ok (.invokestatic 303, 3) := by decide +kernel
theorem dX3_completesRow_4 : decode cX3_completesRow 4 = .ok (.ifCond .eq 15, 3) := by decide +kernel
theorem dX3_completesRow_7 : decode cX3_completesRow 7 = .ok (.iload_n 1, 1) := by decide +kernel
theorem dX3_completesRow_8 : decode cX3_completesRow 8 = .ok (.iload_n 2, 1) := by decide +kernel
theorem dX3_completesRow_9 : decode cX3_completesRow 9 = .ok (.if_icmp .lt 10, 3) := by decide +kernel
theorem dX3_completesRow_12 : decode cX3_completesRow 12 = .ok (.iload_n 1, 1) := by decide +kernel
theorem dX3_completesRow_13 : decode cX3_completesRow 13 = .ok (.iload_n 2, 1) := by decide +kernel
theorem dX3_completesRow_14 : decode cX3_completesRow 14 = .ok (.iconst 2, 1) := by decide +kernel
theorem dX3_completesRow_15 : decode cX3_completesRow 15 = .ok (.iadd, 1) := by decide +kernel
theorem dX3_completesRow_16 : decode cX3_completesRow 16 = .ok (.if_icmp .le 5, 3) := by decide +kernel
theorem dX3_completesRow_19 : decode cX3_completesRow 19 = .ok (.iconst 0, 1) := by decide +kernel
theorem dX3_completesRow_20 : decode cX3_completesRow 20 = .ok (.ireturn, 1) := by decide +kernel
theorem dX3_completesRow_21 : decode cX3_completesRow 21 = .ok (.iload_n 2, 1) := by decide +kernel
theorem dX3_completesRow_22 : decode cX3_completesRow 22 = .ok (.istore_n 3, 1) := by decide +kernel
theorem dX3_completesRow_23 : decode cX3_completesRow 23 = .ok (.iload_n 3, 1) := by decide +kernel
theorem dX3_completesRow_24 : decode cX3_completesRow 24 = .ok (.iload_n 2, 1) := by decide +kernel
theorem dX3_completesRow_25 : decode cX3_completesRow 25 = .ok (.iconst 2, 1) := by decide +kernel
theorem dX3_completesRow_26 : decode cX3_completesRow 26 = .ok (.iadd, 1) := by decide +kernel
theorem dX3_completesRow_27 : decode cX3_completesRow 27 = .ok (.if_icmp .gt 24, 3) := by decide +kernel
theorem dX3_completesRow_30 : decode cX3_completesRow 30 = .ok (.iload_n 3, 1) := by decide +kernel
theorem dX3_completesRow_31 : decode cX3_completesRow 31 = .ok (.iload_n 1, 1) := by decide +kernel
theorem dX3_completesRow_32 : decode cX3_completesRow 32 = .ok (.if_icmp .eq 13, 3) := by decide +kernel
theorem dX3_completesRow_35 : decode cX3_completesRow 35 = .ok (.aload_n 0, 1) := by decide +kernel
theorem dX3_completesRow_36 : decode cX3_completesRow 36 = .ok (.iload_n 3, 1) := by decide +kernel
theorem dX3_completesRow_37 : decode cX3_completesRow 37 = .ok (.invokevirtual 112, 3) := by decide +kernel
theorem dX3_completesRow_40 : decode cX3_completesRow 40 = .ok (.ifCond .ne 5, 3) := by decide +kernel
theorem dX3_completesRow_43 : decode cX3_completesRow 43 = .ok (.iconst 0, 1) := by decide +kernel
theorem dX3_completesRow_44 : decode cX3_completesRow 44 = .ok (.ireturn, 1) := by decide +kernel
theorem dX3_completesRow_45 : decode cX3_completesRow 45 = .ok (.iinc 3 1, 3) := by decide +kernel
theorem dX3_completesRow_48 : decode cX3_completesRow 48 = .ok (.goto (-25), 3) := by decide +kernel
theorem dX3_completesRow_51 : decode cX3_completesRow 51 = .ok (.iconst 1, 1) := by decide +kernel
theorem dX3_completesRow_52 : decode cX3_completesRow 52 = .ok (.ireturn, 1) := by decide +kernel
def f_X3_completesRow_23 (n : Nat) (a0 : Nat) (i1 : Int32) (i2 : Int32) (i3 : Int32) (M : zM) : Option (Int32 × zM) := match n with
  | 0 => none
  | n + 1 =>
    if ((i2 + ((2 : Int32)))) < i3 then
    some ((1 : Int32), M)
    else
    if i3 = i1 then
    f_X3_completesRow_23 n a0 i1 i2 ((i3 + (1 : Int32))) M
    else
    if mK M a0 = 7 then
    (f_X1_count a0 i3 M).bind fun r1 =>
    if r1.1 = 0 then
    some ((0 : Int32), r1.2)
    else
    f_X3_completesRow_23 n a0 i1 i2 ((i3 + (1 : Int32))) r1.2
    else none
set_option maxRecDepth 20000 in
set_option maxHeartbeats 4000000 in
theorem s_X3_completesRow_23 {L : zL} {X : zX} {M0 : zM} {N : Nat × Nat} {Q : State → Prop} {r : Int32 × zM} (hq : vQ L X M0 N Q (some (.int r.1)) r.2) {n : Nat} {a0 : Nat} {i1 : Int32} {i2 : Int32} {i3 : Int32} {M : zM} : f_X3_completesRow_23 n a0 i1 i2 i3 M = some r → V L X yX3_completesRow cX3_completesRow 4 (some FieldType.boolean) 2 M0 N Q M 23 [(0, .ref (zad L (a0))), (1, .int (i1)), (2, .int (i2)), (3, .int (i3))] [] := by
  induction n generalizing a0 i1 i2 i3 M with
  | zero =>
    intro h
    rw [f_X3_completesRow_23] at h
    cases h
  | succ n ih0 =>
    intro h
    have ih : ∀ (a0 : Nat) (i1 : Int32) (i2 : Int32) (i3 : Int32) (M : zM), f_X3_completesRow_23 n a0 i1 i2 i3 M = some r → V L X yX3_completesRow cX3_completesRow 4 (some FieldType.boolean) 2 M0 N Q M 23 [(0, .ref (zad L (a0))), (1, .int (i1)), (2, .int (i2)), (3, .int (i3))] [] := fun a0 i1 i2 i3 M h => ih0 h
    rw [f_X3_completesRow_23] at h
    refine V_iload_n dX3_completesRow_23 rfl 3 rfl ?_
    refine V_iload_n dX3_completesRow_24 rfl 2 rfl ?_
    refine V_iconst (v := 2) dX3_completesRow_25 (by decide) ?_
    refine V_iadd dX3_completesRow_26 ?_
    refine V_icmp_gt (tgt := 51) dX3_completesRow_27 (by decide) (fun c5 => ?_) (fun c5 => ?_)
    · replace h := (oi h).1 c5
      refine V_iconst (v := 1) dX3_completesRow_51 (by decide) ?_
      obtain rfl := Option.some.inj h
      exact V_zret (ty := .boolean) rfl rfl hq dX3_completesRow_52
    · replace h := (oi h).2 c5
      refine V_iload_n dX3_completesRow_30 rfl 3 rfl ?_
      refine V_iload_n dX3_completesRow_31 rfl 1 rfl ?_
      refine V_icmp_eq (tgt := 45) dX3_completesRow_32 (by decide) (fun c4 => ?_) (fun c4 => ?_)
      · replace h := (oi h).1 c4
        refine V_iinc (v := i3 + (1 : Int32)) (ls' := [(3, .int ((i3 + (1 : Int32)))), (0, .ref (zad L (a0))), (1, .int (i1)), (2, .int (i2))]) dX3_completesRow_45 3 rfl (by rfl) (by decide) rfl ?_
        refine V_goto (tgt := 23) dX3_completesRow_48 (by decide) ?_
        refine V_sub [1, 2, 3, 0] rfl ?_
        exact ih _ _ _ _ _ h
      · replace h := (oi h).2 c4
        refine V_aload_n dX3_completesRow_35 rfl 0 rfl ?_
        refine V_iload_n dX3_completesRow_36 rfl 3 rfl ?_
        replace h := ox h
        obtain ⟨c2, h⟩ := h
        replace h := ob h
        obtain ⟨r1, e_r1, h⟩ := h
        refine V_callV_I (As := [.int (i3)]) (rest := []) (c_X1_count e_r1) zc_X1_count rfl (by decide) rfl (by decide) (Or.inl c2) zm_X3_112 (Nat.le_of_ble_eq_true rfl) rfl dX3_completesRow_37 ?_
        refine V_pc (pc' := 40) rfl ?_
        refine V_if_ne (tgt := 45) dX3_completesRow_40 (by decide) (fun c3 => ?_) (fun c3 => ?_)
        · replace h := (oi h).2 c3
          refine V_iinc (v := i3 + (1 : Int32)) (ls' := [(3, .int ((i3 + (1 : Int32)))), (0, .ref (zad L (a0))), (1, .int (i1)), (2, .int (i2))]) dX3_completesRow_45 3 rfl (by rfl) (by decide) rfl ?_
          refine V_goto (tgt := 23) dX3_completesRow_48 (by decide) ?_
          refine V_sub [1, 2, 3, 0] rfl ?_
          exact ih _ _ _ _ _ h
        · replace h := (oi h).1 c3
          refine V_iconst (v := 0) dX3_completesRow_43 (by decide) ?_
          obtain rfl := Option.some.inj h
          exact V_zret (ty := .boolean) rfl rfl hq dX3_completesRow_44
def f_X3_completesRow_0 (a0 : Nat) (i1 : Int32) (i2 : Int32) (M : zM) : Option (Int32 × zM) :=
  (f_X3_startsRow i2 M).bind fun r1 =>
  if r1.1 = 0 then
  some ((0 : Int32), r1.2)
  else
  if i1 < i2 then
  some ((0 : Int32), r1.2)
  else
  if i1 ≤ ((i2 + ((2 : Int32)))) then
  f_X3_completesRow_23 zN a0 i1 i2 i2 r1.2
  else
  some ((0 : Int32), r1.2)
set_option maxRecDepth 20000 in
set_option maxHeartbeats 4000000 in
theorem s_X3_completesRow_0 {L : zL} {X : zX} {M0 : zM} {N : Nat × Nat} {Q : State → Prop} {r : Int32 × zM} (hq : vQ L X M0 N Q (some (.int r.1)) r.2) {a0 : Nat} {i1 : Int32} {i2 : Int32} {M : zM} (h : f_X3_completesRow_0 a0 i1 i2 M = some r) : V L X yX3_completesRow cX3_completesRow 4 (some FieldType.boolean) 2 M0 N Q M 0 [(0, .ref (zad L (a0))), (1, .int (i1)), (2, .int (i2))] [] := by
  unfold f_X3_completesRow_0 at h
  refine V_iload_n dX3_completesRow_0 rfl 2 rfl ?_
  replace h := ob h
  obtain ⟨r1, e_r1, h⟩ := h
  refine V_callS_I (As := [.int (i2)]) (rest := []) (c_X3_startsRow e_r1) zc_X3_startsRow rfl (by decide) zm_X3_303 (Nat.le_of_ble_eq_true rfl) rfl dX3_completesRow_1 ?_
  refine V_pc (pc' := 4) rfl ?_
  refine V_if_eq (tgt := 19) dX3_completesRow_4 (by decide) (fun c4 => ?_) (fun c4 => ?_)
  · replace h := (oi h).1 c4
    refine V_iconst (v := 0) dX3_completesRow_19 (by decide) ?_
    obtain rfl := Option.some.inj h
    exact V_zret (ty := .boolean) rfl rfl hq dX3_completesRow_20
  · replace h := (oi h).2 c4
    refine V_iload_n dX3_completesRow_7 rfl 1 rfl ?_
    refine V_iload_n dX3_completesRow_8 rfl 2 rfl ?_
    refine V_icmp_lt (tgt := 19) dX3_completesRow_9 (by decide) (fun c3 => ?_) (fun c3 => ?_)
    · replace h := (oi h).1 c3
      refine V_iconst (v := 0) dX3_completesRow_19 (by decide) ?_
      obtain rfl := Option.some.inj h
      exact V_zret (ty := .boolean) rfl rfl hq dX3_completesRow_20
    · replace h := (oi h).2 c3
      refine V_iload_n dX3_completesRow_12 rfl 1 rfl ?_
      refine V_iload_n dX3_completesRow_13 rfl 2 rfl ?_
      refine V_iconst (v := 2) dX3_completesRow_14 (by decide) ?_
      refine V_iadd dX3_completesRow_15 ?_
      refine V_icmp_le (tgt := 21) dX3_completesRow_16 (by decide) (fun c2 => ?_) (fun c2 => ?_)
      · replace h := (oi h).1 c2
        refine V_iload_n dX3_completesRow_21 rfl 2 rfl ?_
        refine V_istore_n (ls' := [(3, .int (i2)), (0, .ref (zad L (a0))), (1, .int (i1)), (2, .int (i2))]) dX3_completesRow_22 rfl (by decide) rfl ?_
        refine V_sub [1, 2, 3, 0] rfl ?_
        exact s_X3_completesRow_23 hq h
      · replace h := (oi h).2 c2
        refine V_iconst (v := 0) dX3_completesRow_19 (by decide) ?_
        obtain rfl := Option.some.inj h
        exact V_zret (ty := .boolean) rfl rfl hq dX3_completesRow_20
def f_X3_completesRow (a0 : Nat) (i1 : Int32) (i2 : Int32) (M : zM) : Option (Int32 × zM) := f_X3_completesRow_0 a0 i1 i2 M
theorem c_X3_completesRow {L : zL} {l : Launch} {a0 : Nat} {i1 : Int32} {i2 : Int32} {M : zM} {r : Int32 × zM} (h : f_X3_completesRow a0 i1 i2 M = some r) : CP L l yX3_completesRow cX3_completesRow 4 (some FieldType.boolean) 2 M [.ref (zad L (a0)), .int (i1), .int (i2)] (some (.int r.1)) r.2 :=
  CP.of ⟨by decide +kernel, by decide +kernel⟩ (Nat.le_of_ble_eq_true rfl) fun X Q hq => s_X3_completesRow_0 hq h
/-! Windsparlour.fourAllowed()Z -/
theorem dX3_fourAllowed_0 : decode cX3_fourAllowed 0 = .ok (.aload_n 0, 1) := by decide +kernel
theorem dX3_fourAllowed_1 : decode cX3_fourAllowed 1 = .ok (.getfield 39, 3) := by decide +kernel
theorem dX3_fourAllowed_4 : decode cX3_fourAllowed 4 = .ok (.iconst 4, 1) := by decide +kernel
theorem dX3_fourAllowed_5 : decode cX3_fourAllowed 5 = .ok (.if_icmp .ge 14, 3) := by decide +kernel
theorem dX3_fourAllowed_8 : decode cX3_fourAllowed 8 = .ok (.aload_n 0, 1) := by decide +kernel
theorem dX3_fourAllowed_9 : decode cX3_fourAllowed 9 = .ok (.invokevirtual 95, 3) := by decide +kernel
theorem dX3_fourAllowed_12 : decode cX3_fourAllowed 12 = .ok (.ifCond .eq 7, 3) := by decide +kernel
theorem dX3_fourAllowed_15 : decode cX3_fourAllowed 15 = .ok (.iconst 1, 1) := by decide +kernel
theorem dX3_fourAllowed_16 : decode cX3_fourAllowed 16 = .ok (.goto 4, 3) := by decide +kernel
theorem dX3_fourAllowed_19 : decode cX3_fourAllowed 19 = .ok (.iconst 0, 1) := by decide +kernel
theorem dX3_fourAllowed_20 : decode cX3_fourAllowed 20 = .ok (.ireturn, 1) := by decide +kernel
def f_X3_fourAllowed_0 (a0 : Nat) (M : zM) : Option (Int32 × zM) :=
  (gI 9 6 M a0).bind fun v1 =>
  if ((4 : Int32)) ≤ v1 then
  some ((0 : Int32), M)
  else
  if mK M a0 = 9 then
  (f_X3_canDraw a0 M).bind fun r2 =>
  if r2.1 = 0 then
  some ((0 : Int32), r2.2)
  else
  some ((1 : Int32), r2.2)
  else none
set_option maxRecDepth 20000 in
set_option maxHeartbeats 4000000 in
theorem s_X3_fourAllowed_0 {L : zL} {X : zX} {M0 : zM} {N : Nat × Nat} {Q : State → Prop} {r : Int32 × zM} (hq : vQ L X M0 N Q (some (.int r.1)) r.2) {a0 : Nat} {M : zM} (h : f_X3_fourAllowed_0 a0 M = some r) : V L X yX3_fourAllowed cX3_fourAllowed 1 (some FieldType.boolean) 3 M0 N Q M 0 [(0, .ref (zad L (a0)))] [] := by
  unfold f_X3_fourAllowed_0 at h
  refine V_aload_n dX3_fourAllowed_0 rfl 0 rfl ?_
  replace h := ob h
  obtain ⟨v1, e_v1, h⟩ := h
  refine V_getI zf_9_6 zl_X3_39 e_v1 dX3_fourAllowed_1 ?_
  refine V_pc (pc' := 4) rfl ?_
  refine V_iconst (v := 4) dX3_fourAllowed_4 (by decide) ?_
  refine V_icmp_ge (tgt := 19) dX3_fourAllowed_5 (by decide) (fun c5 => ?_) (fun c5 => ?_)
  · replace h := (oi h).1 c5
    refine V_iconst (v := 0) dX3_fourAllowed_19 (by decide) ?_
    obtain rfl := Option.some.inj h
    exact V_zret (ty := .boolean) rfl rfl hq dX3_fourAllowed_20
  · replace h := (oi h).2 c5
    refine V_aload_n dX3_fourAllowed_8 rfl 0 rfl ?_
    replace h := ox h
    obtain ⟨c3, h⟩ := h
    replace h := ob h
    obtain ⟨r2, e_r2, h⟩ := h
    refine V_callV_I (As := []) (rest := []) (c_X3_canDraw e_r2) zc_X3_canDraw rfl (by decide) rfl (by decide) (Or.inl c3) zm_X3_95 (Nat.le_of_ble_eq_true rfl) rfl dX3_fourAllowed_9 ?_
    refine V_pc (pc' := 12) rfl ?_
    refine V_if_eq (tgt := 19) dX3_fourAllowed_12 (by decide) (fun c4 => ?_) (fun c4 => ?_)
    · replace h := (oi h).1 c4
      refine V_iconst (v := 0) dX3_fourAllowed_19 (by decide) ?_
      obtain rfl := Option.some.inj h
      exact V_zret (ty := .boolean) rfl rfl hq dX3_fourAllowed_20
    · replace h := (oi h).2 c4
      refine V_iconst (v := 1) dX3_fourAllowed_15 (by decide) ?_
      refine V_goto (tgt := 20) dX3_fourAllowed_16 (by decide) ?_
      obtain rfl := Option.some.inj h
      exact V_zret (ty := .boolean) rfl rfl hq dX3_fourAllowed_20
def f_X3_fourAllowed (a0 : Nat) (M : zM) : Option (Int32 × zM) := f_X3_fourAllowed_0 a0 M
theorem c_X3_fourAllowed {L : zL} {l : Launch} {a0 : Nat} {M : zM} {r : Int32 × zM} (h : f_X3_fourAllowed a0 M = some r) : CP L l yX3_fourAllowed cX3_fourAllowed 1 (some FieldType.boolean) 3 M [.ref (zad L (a0))] (some (.int r.1)) r.2 :=
  CP.of ⟨by decide +kernel, by decide +kernel⟩ (Nat.le_of_ble_eq_true rfl) fun X Q hq => s_X3_fourAllowed_0 hq h
/-! Windsparlour.mayClaim(III)Z -/
theorem dX3_mayClaim_0 : decode cX3_mayClaim 0 = .ok (.aload_n 0, 1) := by decide +kernel
theorem dX3_mayClaim_1 : decode cX3_mayClaim 1 = .ok (.getfield 42, 3) := by decide +kernel
theorem dX3_mayClaim_4 : decode cX3_mayClaim 4 = .ok (.iconst 2, 1) := by decide +kernel
theorem dX3_mayClaim_5 : decode cX3_mayClaim 5 = .ok (.if_icmp .ne 23, 3) := by decide +kernel
theorem dX3_mayClaim_8 : decode cX3_mayClaim 8 = .ok (.iload_n 1, 1) := by decide +kernel
theorem dX3_mayClaim_9 : decode cX3_mayClaim 9 = .ok (.aload_n 0, 1) := by decide +kernel
theorem dX3_mayClaim_10 : decode cX3_mayClaim 10 = .ok (.getfield 45, 3) := by decide +kernel
theorem dX3_mayClaim_13 : decode cX3_mayClaim 13 = .ok (.if_icmp .eq 15, 3) := by decide +kernel
theorem dX3_mayClaim_16 : decode cX3_mayClaim 16 = .ok (.aload_n 0, 1) := by decide +kernel
theorem dX3_mayClaim_17 : decode cX3_mayClaim 17 = .ok (.getfield 11, 3) := by decide +kernel
theorem dX3_mayClaim_20 : decode cX3_mayClaim 20 = .ok (.iload_n 1, 1) := by decide +kernel
theorem dX3_mayClaim_21 : decode cX3_mayClaim 21 = .ok (.aaload, 1) := by decide +kernel
theorem dX3_mayClaim_22 : decode cX3_mayClaim 22 = .ok (.getfield 115, 3) := by decide +kernel
theorem dX3_mayClaim_25 : decode cX3_mayClaim 25 = .ok (.ifCond .eq 5, 3) := by decide +kernel
theorem dX3_mayClaim_28 : decode cX3_mayClaim 28 = .ok (.iconst 0, 1) := by decide +kernel
theorem dX3_mayClaim_29 : decode cX3_mayClaim 29 = .ok (.ireturn, 1) := by decide +kernel
theorem dX3_mayClaim_30 : decode cX3_mayClaim 30 = .ok (.aload_n 0, 1) := by decide +kernel
theorem dX3_mayClaim_31 : decode cX3_mayClaim 31 = .ok (.getfield 11, 3) := by decide +kernel
theorem dX3_mayClaim_34 : decode cX3_mayClaim 34 = .ok (.iload_n 1, 1) := by decide +kernel
theorem dX3_mayClaim_35 : decode cX3_mayClaim 35 = .ok (.aaload, 1) := by decide +kernel
theorem dX3_mayClaim_36 : decode cX3_mayClaim 36 = .ok (.astore 4, 2) := by decide +kernel
theorem dX3_mayClaim_38 : decode cX3_mayClaim 38 = .ok (.aload_n 0, 1) := by decide +kernel
theorem dX3_mayClaim_39 : decode cX3_mayClaim 39 = .ok (.invokevirtual 108, 3) := by decide +kernel
theorem dX3_mayClaim_42 : decode cX3_mayClaim 42 = .ok (.invokevirtual 253, 3) := by decide +kernel
theorem dX3_mayClaim_45 : decode cX3_mayClaim 45 = .ok (.istore 5, 2) := by decide +kernel
theorem dX3_mayClaim_47 : decode cX3_mayClaim 47 = .ok (.iload_n 2, 1) := by decide +kernel
theorem dX3_mayClaim_48 : decode cX3_mayClaim 48 = .ok (.iconst 1, 1) := by decide +kernel
theorem dX3_mayClaim_49 : decode cX3_mayClaim 49 = .ok (.if_icmp .ne 32, 3) := by decide +kernel
theorem dX3_mayClaim_52 : decode cX3_mayClaim 52 = .ok (.iload_n 1, 1) := by decide +kernel
theorem dX3_mayClaim_53 : decode cX3_mayClaim 53 = .ok (.aload_n 0, 1) := by decide +kernel
theorem dX3_mayClaim_54 : decode cX3_mayClaim 54 = .ok (.getfield 45, 3) := by decide +kernel
theorem dX3_mayClaim_57 : decode cX3_mayClaim 57 = .ok (.iconst 1, 1) := by decide +kernel
theorem dX3_mayClaim_58 : decode cX3_mayClaim 58 = .ok (.iadd, 1) := by decide +kernel
theorem dX3_mayClaim_59 : decode cX3_mayClaim 59 = .ok (.iconst 4, 1) := by decide +kernel
theorem dX3_mayClaim_60 : decode cX3_mayClaim 60 = .ok (.irem, 1) := by decide +kernel
theorem dX3_mayClaim_61 : decode cX3_mayClaim 61 = .ok (.if_icmp .ne 18, 3) := by decide +kernel
theorem dX3_mayClaim_64 : decode cX3_mayClaim 64 = .ok (.aload 4, 2) := by decide +kernel
theorem dX3_mayClaim_66 : decode cX3_mayClaim 66 = .ok (.iload 5, 2) := by decide +kernel
theorem dX3_mayClaim_68 : decode cX3_mayClaim 68 = .ok (.iload_n 3, 1) := by decide +kernel
theorem dX3_mayClaim_69 : decode cX3_mayClaim 69 = .ok (.invokestatic 299, 3) := by decide +kernel
theorem dX3_mayClaim_72 : decode cX3_mayClaim 72 = .ok (.ifCond .eq 7, 3) := by decide +kernel
theorem dX3_mayClaim_75 : decode cX3_mayClaim 75 = .ok (.iconst 1, 1) := by decide +kernel
theorem dX3_mayClaim_76 : decode cX3_mayClaim 76 = .ok (.goto 4, 3) := by decide +kernel
theorem dX3_mayClaim_79 : decode cX3_mayClaim 79 = .ok (.iconst 0, 1) := by decide +kernel
theorem dX3_mayClaim_80 : decode cX3_mayClaim 80 = .ok (.ireturn, 1) := by decide +kernel
theorem dX3_mayClaim_81 : decode cX3_mayClaim 81 = .ok (.iload_n 2, 1) := by decide +kernel
theorem dX3_mayClaim_82 : decode cX3_mayClaim 82 = .ok (.iconst 2, 1) := by decide +kernel
theorem dX3_mayClaim_83 : decode cX3_mayClaim 83 = .ok (.if_icmp .ne 27, 3) := by decide +kernel
theorem dX3_mayClaim_86 : decode cX3_mayClaim 86 = .ok (.aload 4, 2) := by decide +kernel
theorem dX3_mayClaim_88 : decode cX3_mayClaim 88 = .ok (.iload 5, 2) := by decide +kernel
theorem dX3_mayClaim_90 : decode cX3_mayClaim 90 = .ok (.invokevirtual 112, 3) := by decide +kernel
theorem dX3_mayClaim_93 : decode cX3_mayClaim 93 = .ok (.iconst 3, 1) := by decide +kernel
theorem dX3_mayClaim_94 : decode cX3_mayClaim 94 = .ok (.if_icmp .lt 14, 3) := by decide +kernel
theorem dX3_mayClaim_97 : decode cX3_mayClaim 97 = .ok (.aload_n 0, 1) := by decide +kernel
theorem dX3_mayClaim_98 : decode cX3_mayClaim 98 = .ok (.invokevirtual 170, 3) := by decide +kernel
theorem dX3_mayClaim_101 : decode cX3_mayClaim 101 = .ok (.ifCond .eq 7, 3) := by decide +kernel
theorem dX3_mayClaim_104 : decode cX3_mayClaim 104 = .ok (.iconst 1, 1) := by decide +kernel
theorem dX3_mayClaim_105 : decode cX3_mayClaim 105 = .ok (.goto 4, 3) := by decide +kernel
theorem dX3_mayClaim_108 : decode cX3_mayClaim 108 = .ok (.iconst 0, 1) := by decide +kernel
theorem dX3_mayClaim_109 : decode cX3_mayClaim 109 = .ok (.ireturn, 1) := by decide +kernel
theorem dX3_mayClaim_110 : decode cX3_mayClaim 110 = .ok (.aload 4, 2) := by decide +kernel
theorem dX3_mayClaim_112 : decode cX3_mayClaim 112 = .ok (.iload 5, 2) := by decide +kernel
theorem dX3_mayClaim_114 : decode cX3_mayClaim 114 = .ok (.invokevirtual 112, 3) := by decide +kernel
theorem dX3_mayClaim_117 : decode cX3_mayClaim 117 = .ok (.iconst 2, 1) := by decide +kernel
theorem dX3_mayClaim_118 : decode cX3_mayClaim 118 = .ok (.if_icmp .lt 7, 3) := by decide +kernel
theorem dX3_mayClaim_121 : decode cX3_mayClaim 121 = .ok (.iconst 1, 1) := by decide +kernel
theorem dX3_mayClaim_122 : decode cX3_mayClaim 122 = .ok (.goto 4, 3) := by decide +kernel
theorem dX3_mayClaim_125 : decode cX3_mayClaim 125 = .ok (.iconst 0, 1) := by decide +kernel
theorem dX3_mayClaim_126 : decode cX3_mayClaim 126 = .ok (.ireturn, 1) := by decide +kernel
def f_X3_mayClaim_0 (a0 : Nat) (i1 : Int32) (i2 : Int32) (i3 : Int32) (M : zM) : Option (Int32 × zM) :=
  (gI 9 7 M a0).bind fun v1 =>
  if v1 = ((2 : Int32)) then
  (gI 9 8 M a0).bind fun v2 =>
  if i1 = v2 then
  some ((0 : Int32), M)
  else
  (gR 9 0 M a0).bind fun v3 =>
  (lQ 1 M v3 i1).bind fun v4 =>
  (gI 7 6 M v4).bind fun v5 =>
  if v5 = 0 then
  (gR 9 0 M a0).bind fun v6 =>
  (lQ 1 M v6 i1).bind fun v7 =>
  if mK M a0 = 9 then
  (f_X3_seatInTurn a0 M).bind fun r8 =>
  if mK r8.2 r8.1 = 7 then
  (f_X1_latestInRiver r8.1 r8.2).bind fun r10 =>
  if i2 = ((1 : Int32)) then
  (gI 9 8 r10.2 a0).bind fun v22 =>
  if i1 = ((zmd ((v22 + ((1 : Int32)))) ((4 : Int32)))) then
  (f_X3_completesRow v7 r10.1 i3 r10.2).bind fun r23 =>
  if r23.1 = 0 then
  some ((0 : Int32), r23.2)
  else
  some ((1 : Int32), r23.2)
  else
  some ((0 : Int32), r10.2)
  else
  if i2 = ((2 : Int32)) then
  if mK r10.2 v7 = 7 then
  (f_X1_count v7 r10.1 r10.2).bind fun r15 =>
  if r15.1 < ((3 : Int32)) then
  some ((0 : Int32), r15.2)
  else
  if mK r15.2 a0 = 9 then
  (f_X3_fourAllowed a0 r15.2).bind fun r17 =>
  if r17.1 = 0 then
  some ((0 : Int32), r17.2)
  else
  some ((1 : Int32), r17.2)
  else none
  else none
  else
  if mK r10.2 v7 = 7 then
  (f_X1_count v7 r10.1 r10.2).bind fun r12 =>
  if r12.1 < ((2 : Int32)) then
  some ((0 : Int32), r12.2)
  else
  some ((1 : Int32), r12.2)
  else none
  else none
  else none
  else
  some ((0 : Int32), M)
  else
  some ((0 : Int32), M)
set_option maxRecDepth 20000 in
set_option maxHeartbeats 4000000 in
theorem s_X3_mayClaim_0 {L : zL} {X : zX} {M0 : zM} {N : Nat × Nat} {Q : State → Prop} {r : Int32 × zM} (hq : vQ L X M0 N Q (some (.int r.1)) r.2) {a0 : Nat} {i1 : Int32} {i2 : Int32} {i3 : Int32} {M : zM} (h : f_X3_mayClaim_0 a0 i1 i2 i3 M = some r) : V L X yX3_mayClaim cX3_mayClaim 6 (some FieldType.boolean) 4 M0 N Q M 0 [(0, .ref (zad L (a0))), (1, .int (i1)), (2, .int (i2)), (3, .int (i3))] [] := by
  unfold f_X3_mayClaim_0 at h
  refine V_aload_n dX3_mayClaim_0 rfl 0 rfl ?_
  replace h := ob h
  obtain ⟨v1, e_v1, h⟩ := h
  refine V_getI zf_9_7 zl_X3_42 e_v1 dX3_mayClaim_1 ?_
  refine V_pc (pc' := 4) rfl ?_
  refine V_iconst (v := 2) dX3_mayClaim_4 (by decide) ?_
  refine V_icmp_ne (tgt := 28) dX3_mayClaim_5 (by decide) (fun c29 => ?_) (fun c29 => ?_)
  · replace h := (oi h).2 c29
    refine V_iconst (v := 0) dX3_mayClaim_28 (by decide) ?_
    obtain rfl := Option.some.inj h
    exact V_zret (ty := .boolean) rfl rfl hq dX3_mayClaim_29
  · replace h := (oi h).1 c29
    refine V_iload_n dX3_mayClaim_8 rfl 1 rfl ?_
    refine V_aload_n dX3_mayClaim_9 rfl 0 rfl ?_
    replace h := ob h
    obtain ⟨v2, e_v2, h⟩ := h
    refine V_getI zf_9_8 zl_X3_45 e_v2 dX3_mayClaim_10 ?_
    refine V_pc (pc' := 13) rfl ?_
    refine V_icmp_eq (tgt := 28) dX3_mayClaim_13 (by decide) (fun c28 => ?_) (fun c28 => ?_)
    · replace h := (oi h).1 c28
      refine V_iconst (v := 0) dX3_mayClaim_28 (by decide) ?_
      obtain rfl := Option.some.inj h
      exact V_zret (ty := .boolean) rfl rfl hq dX3_mayClaim_29
    · replace h := (oi h).2 c28
      refine V_aload_n dX3_mayClaim_16 rfl 0 rfl ?_
      replace h := ob h
      obtain ⟨v3, e_v3, h⟩ := h
      refine V_getR zf_9_0 zl_X3_11 e_v3 dX3_mayClaim_17 ?_
      refine V_pc (pc' := 20) rfl ?_
      refine V_iload_n dX3_mayClaim_20 rfl 1 rfl ?_
      replace h := ob h
      obtain ⟨v4, e_v4, h⟩ := h
      refine V_aald (by decide) e_v4 dX3_mayClaim_21 ?_
      refine V_pc (pc' := 22) rfl ?_
      replace h := ob h
      obtain ⟨v5, e_v5, h⟩ := h
      refine V_getI zf_7_6 zl_X3_115 e_v5 dX3_mayClaim_22 ?_
      refine V_pc (pc' := 25) rfl ?_
      refine V_if_eq (tgt := 30) dX3_mayClaim_25 (by decide) (fun c27 => ?_) (fun c27 => ?_)
      · replace h := (oi h).1 c27
        refine V_aload_n dX3_mayClaim_30 rfl 0 rfl ?_
        replace h := ob h
        obtain ⟨v6, e_v6, h⟩ := h
        refine V_getR zf_9_0 zl_X3_11 e_v6 dX3_mayClaim_31 ?_
        refine V_pc (pc' := 34) rfl ?_
        refine V_iload_n dX3_mayClaim_34 rfl 1 rfl ?_
        replace h := ob h
        obtain ⟨v7, e_v7, h⟩ := h
        refine V_aald (by decide) e_v7 dX3_mayClaim_35 ?_
        refine V_pc (pc' := 36) rfl ?_
        refine V_astore (ls' := [(4, .ref (zad L (v7))), (0, .ref (zad L (a0))), (1, .int (i1)), (2, .int (i2)), (3, .int (i3))]) dX3_mayClaim_36 (by decide) rfl ?_
        refine V_aload_n dX3_mayClaim_38 rfl 1 rfl ?_
        replace h := ox h
        obtain ⟨c9, h⟩ := h
        replace h := ob h
        obtain ⟨r8, e_r8, h⟩ := h
        refine V_callV_A (As := []) (rest := []) (c_X3_seatInTurn e_r8) zc_X3_seatInTurn rfl (by decide) rfl (by decide) (Or.inl c9) zm_X3_108 (Nat.le_of_ble_eq_true rfl) rfl dX3_mayClaim_39 ?_
        refine V_pc (pc' := 42) rfl ?_
        replace h := ox h
        obtain ⟨c11, h⟩ := h
        replace h := ob h
        obtain ⟨r10, e_r10, h⟩ := h
        refine V_callV_I (As := []) (rest := []) (c_X1_latestInRiver e_r10) zc_X1_latestInRiver rfl (by decide) rfl (by decide) (Or.inl c11) zm_X3_253 (Nat.le_of_ble_eq_true rfl) rfl dX3_mayClaim_42 ?_
        refine V_pc (pc' := 45) rfl ?_
        refine V_istore (ls' := [(5, .int (r10.1)), (4, .ref (zad L (v7))), (0, .ref (zad L (a0))), (1, .int (i1)), (2, .int (i2)), (3, .int (i3))]) dX3_mayClaim_45 (by decide) rfl ?_
        refine V_iload_n dX3_mayClaim_47 rfl 4 rfl ?_
        refine V_iconst (v := 1) dX3_mayClaim_48 (by decide) ?_
        refine V_icmp_ne (tgt := 81) dX3_mayClaim_49 (by decide) (fun c26 => ?_) (fun c26 => ?_)
        · replace h := (oi h).2 c26
          refine V_iload_n dX3_mayClaim_81 rfl 4 rfl ?_
          refine V_iconst (v := 2) dX3_mayClaim_82 (by decide) ?_
          refine V_icmp_ne (tgt := 110) dX3_mayClaim_83 (by decide) (fun c21 => ?_) (fun c21 => ?_)
          · replace h := (oi h).2 c21
            refine V_aload dX3_mayClaim_110 1 rfl ?_
            refine V_iload dX3_mayClaim_112 0 rfl ?_
            replace h := ox h
            obtain ⟨c13, h⟩ := h
            replace h := ob h
            obtain ⟨r12, e_r12, h⟩ := h
            refine V_callV_I (As := [.int (r10.1)]) (rest := []) (c_X1_count e_r12) zc_X1_count rfl (by decide) rfl (by decide) (Or.inl c13) zm_X3_112 (Nat.le_of_ble_eq_true rfl) rfl dX3_mayClaim_114 ?_
            refine V_pc (pc' := 117) rfl ?_
            refine V_iconst (v := 2) dX3_mayClaim_117 (by decide) ?_
            refine V_icmp_lt (tgt := 125) dX3_mayClaim_118 (by decide) (fun c14 => ?_) (fun c14 => ?_)
            · replace h := (oi h).1 c14
              refine V_iconst (v := 0) dX3_mayClaim_125 (by decide) ?_
              obtain rfl := Option.some.inj h
              exact V_zret (ty := .boolean) rfl rfl hq dX3_mayClaim_126
            · replace h := (oi h).2 c14
              refine V_iconst (v := 1) dX3_mayClaim_121 (by decide) ?_
              refine V_goto (tgt := 126) dX3_mayClaim_122 (by decide) ?_
              obtain rfl := Option.some.inj h
              exact V_zret (ty := .boolean) rfl rfl hq dX3_mayClaim_126
          · replace h := (oi h).1 c21
            refine V_aload dX3_mayClaim_86 1 rfl ?_
            refine V_iload dX3_mayClaim_88 0 rfl ?_
            replace h := ox h
            obtain ⟨c16, h⟩ := h
            replace h := ob h
            obtain ⟨r15, e_r15, h⟩ := h
            refine V_callV_I (As := [.int (r10.1)]) (rest := []) (c_X1_count e_r15) zc_X1_count rfl (by decide) rfl (by decide) (Or.inl c16) zm_X3_112 (Nat.le_of_ble_eq_true rfl) rfl dX3_mayClaim_90 ?_
            refine V_pc (pc' := 93) rfl ?_
            refine V_iconst (v := 3) dX3_mayClaim_93 (by decide) ?_
            refine V_icmp_lt (tgt := 108) dX3_mayClaim_94 (by decide) (fun c20 => ?_) (fun c20 => ?_)
            · replace h := (oi h).1 c20
              refine V_iconst (v := 0) dX3_mayClaim_108 (by decide) ?_
              obtain rfl := Option.some.inj h
              exact V_zret (ty := .boolean) rfl rfl hq dX3_mayClaim_109
            · replace h := (oi h).2 c20
              refine V_aload_n dX3_mayClaim_97 rfl 2 rfl ?_
              replace h := ox h
              obtain ⟨c18, h⟩ := h
              replace h := ob h
              obtain ⟨r17, e_r17, h⟩ := h
              refine V_callV_I (As := []) (rest := []) (c_X3_fourAllowed e_r17) zc_X3_fourAllowed rfl (by decide) rfl (by decide) (Or.inl c18) zm_X3_170 (Nat.le_of_ble_eq_true rfl) rfl dX3_mayClaim_98 ?_
              refine V_pc (pc' := 101) rfl ?_
              refine V_if_eq (tgt := 108) dX3_mayClaim_101 (by decide) (fun c19 => ?_) (fun c19 => ?_)
              · replace h := (oi h).1 c19
                refine V_iconst (v := 0) dX3_mayClaim_108 (by decide) ?_
                obtain rfl := Option.some.inj h
                exact V_zret (ty := .boolean) rfl rfl hq dX3_mayClaim_109
              · replace h := (oi h).2 c19
                refine V_iconst (v := 1) dX3_mayClaim_104 (by decide) ?_
                refine V_goto (tgt := 109) dX3_mayClaim_105 (by decide) ?_
                obtain rfl := Option.some.inj h
                exact V_zret (ty := .boolean) rfl rfl hq dX3_mayClaim_109
        · replace h := (oi h).1 c26
          refine V_iload_n dX3_mayClaim_52 rfl 3 rfl ?_
          refine V_aload_n dX3_mayClaim_53 rfl 2 rfl ?_
          replace h := ob h
          obtain ⟨v22, e_v22, h⟩ := h
          refine V_getI zf_9_8 zl_X3_45 e_v22 dX3_mayClaim_54 ?_
          refine V_pc (pc' := 57) rfl ?_
          refine V_iconst (v := 1) dX3_mayClaim_57 (by decide) ?_
          refine V_iadd dX3_mayClaim_58 ?_
          refine V_iconst (v := 4) dX3_mayClaim_59 (by decide) ?_
          refine V_irem dX3_mayClaim_60 (by decide) ?_
          refine V_icmp_ne (tgt := 79) dX3_mayClaim_61 (by decide) (fun c25 => ?_) (fun c25 => ?_)
          · replace h := (oi h).2 c25
            refine V_iconst (v := 0) dX3_mayClaim_79 (by decide) ?_
            obtain rfl := Option.some.inj h
            exact V_zret (ty := .boolean) rfl rfl hq dX3_mayClaim_80
          · replace h := (oi h).1 c25
            refine V_aload dX3_mayClaim_64 1 rfl ?_
            refine V_iload dX3_mayClaim_66 0 rfl ?_
            refine V_iload_n dX3_mayClaim_68 rfl 5 rfl ?_
            replace h := ob h
            obtain ⟨r23, e_r23, h⟩ := h
            refine V_callS_I (As := [.ref (zad L (v7)), .int (r10.1), .int (i3)]) (rest := []) (c_X3_completesRow e_r23) zc_X3_completesRow rfl (by decide) zm_X3_299 (Nat.le_of_ble_eq_true rfl) rfl dX3_mayClaim_69 ?_
            refine V_pc (pc' := 72) rfl ?_
            refine V_if_eq (tgt := 79) dX3_mayClaim_72 (by decide) (fun c24 => ?_) (fun c24 => ?_)
            · replace h := (oi h).1 c24
              refine V_iconst (v := 0) dX3_mayClaim_79 (by decide) ?_
              obtain rfl := Option.some.inj h
              exact V_zret (ty := .boolean) rfl rfl hq dX3_mayClaim_80
            · replace h := (oi h).2 c24
              refine V_iconst (v := 1) dX3_mayClaim_75 (by decide) ?_
              refine V_goto (tgt := 80) dX3_mayClaim_76 (by decide) ?_
              obtain rfl := Option.some.inj h
              exact V_zret (ty := .boolean) rfl rfl hq dX3_mayClaim_80
      · replace h := (oi h).2 c27
        refine V_iconst (v := 0) dX3_mayClaim_28 (by decide) ?_
        obtain rfl := Option.some.inj h
        exact V_zret (ty := .boolean) rfl rfl hq dX3_mayClaim_29
def f_X3_mayClaim (a0 : Nat) (i1 : Int32) (i2 : Int32) (i3 : Int32) (M : zM) : Option (Int32 × zM) := f_X3_mayClaim_0 a0 i1 i2 i3 M
theorem c_X3_mayClaim {L : zL} {l : Launch} {a0 : Nat} {i1 : Int32} {i2 : Int32} {i3 : Int32} {M : zM} {r : Int32 × zM} (h : f_X3_mayClaim a0 i1 i2 i3 M = some r) : CP L l yX3_mayClaim cX3_mayClaim 6 (some FieldType.boolean) 4 M [.ref (zad L (a0)), .int (i1), .int (i2), .int (i3)] (some (.int r.1)) r.2 :=
  CP.of ⟨by decide +kernel, by decide +kernel⟩ (Nat.le_of_ble_eq_true rfl) fun X Q hq => s_X3_mayClaim_0 hq h
/-! Windsparlour.requirePlayer(I)V -/
theorem dX3_requirePlayer_0 : decode cX3_requirePlayer 0 = .ok (.iload_n 0, 1) := by decide +kernel
theorem dX3_requirePlayer_1 : decode cX3_requirePlayer 1 = .ok (.ifCond .lt 8, 3) := by decide +kernel
theorem dX3_requirePlayer_4 : decode cX3_requirePlayer 4 = .ok (.iload_n 0, 1) := by decide +kernel
theorem dX3_requirePlayer_5 : decode cX3_requirePlayer 5 = .ok (.iconst 4, 1) := by decide +kernel
theorem dX3_requirePlayer_6 : decode cX3_requirePlayer 6 = .ok (.if_icmp .lt 14, 3) := by decide +kernel
theorem dX3_requirePlayer_9 : decode cX3_requirePlayer 9 = .ok (.new 219, 3) := by decide +kernel
theorem dX3_requirePlayer_12 : decode cX3_requirePlayer 12 = .ok (.dup, 1) := by decide +kernel
theorem dX3_requirePlayer_13 : decode cX3_requirePlayer 13 = .ok (.ldc_w 287, 3) := by decide +kernel
theorem dX3_requirePlayer_16 : decode cX3_requirePlayer 16 = .ok (.invokespecial 223, 3) := by decide +kernel
theorem dX3_requirePlayer_19 : decode cX3_requirePlayer 19 = .ok (.athrow, 1) := by decide +kernel
theorem dX3_requirePlayer_20 : decode cX3_requirePlayer 20 = .ok (.return_, 1) := by decide +kernel
def f_X3_requirePlayer_9 (M : zM) : Option ((String ⊕ Unit) × zM) :=
  some (Sum.inl "java/lang/IndexOutOfBoundsException", nE M)
set_option maxRecDepth 20000 in
set_option maxHeartbeats 4000000 in
theorem s_X3_requirePlayer_9 {L : zL} {X : zX} {M0 : zM} {N : Nat × Nat} {Q : State → Prop} {r : (String ⊕ Unit) × zM} (hq : vQX L X M0 N Q (zoV r.1) r.2) {M : zM} (h : f_X3_requirePlayer_9 M = some r) : V L X yX3_requirePlayer cX3_requirePlayer 1 (none : Option FieldType) 6 M0 N Q M 9 [] [] := by
  unfold f_X3_requirePlayer_9 at h
  obtain rfl := Option.some.inj h
  exact V_throwW (E := "java/lang/IndexOutOfBoundsException") (tx := "no such player") hq zx_X3_223 zk_X3_219 zs_X3_287 (by decide +kernel) (by decide) (Nat.le_of_ble_eq_true rfl) dX3_requirePlayer_9 dX3_requirePlayer_12 dX3_requirePlayer_13 dX3_requirePlayer_16 dX3_requirePlayer_19
def f_X3_requirePlayer_0 (i0 : Int32) (M : zM) : Option ((String ⊕ Unit) × zM) :=
  if i0 < 0 then
  f_X3_requirePlayer_9 M
  else
  if i0 < ((4 : Int32)) then
  some (Sum.inr (()), M)
  else
  f_X3_requirePlayer_9 M
set_option maxRecDepth 20000 in
set_option maxHeartbeats 4000000 in
theorem s_X3_requirePlayer_0 {L : zL} {X : zX} {M0 : zM} {N : Nat × Nat} {Q : State → Prop} {r : (String ⊕ Unit) × zM} (hq : vQX L X M0 N Q (zoV r.1) r.2) {i0 : Int32} {M : zM} (h : f_X3_requirePlayer_0 i0 M = some r) : V L X yX3_requirePlayer cX3_requirePlayer 1 (none : Option FieldType) 6 M0 N Q M 0 [(0, .int (i0))] [] := by
  unfold f_X3_requirePlayer_0 at h
  refine V_iload_n dX3_requirePlayer_0 rfl 0 rfl ?_
  refine V_if_lt (tgt := 9) dX3_requirePlayer_1 (by decide) (fun c2 => ?_) (fun c2 => ?_)
  · replace h := (oi h).1 c2
    refine V_sub [] rfl ?_
    exact s_X3_requirePlayer_9 hq h
  · replace h := (oi h).2 c2
    refine V_iload_n dX3_requirePlayer_4 rfl 0 rfl ?_
    refine V_iconst (v := 4) dX3_requirePlayer_5 (by decide) ?_
    refine V_icmp_lt (tgt := 20) dX3_requirePlayer_6 (by decide) (fun c1 => ?_) (fun c1 => ?_)
    · replace h := (oi h).1 c1
      obtain rfl := Option.some.inj h
      exact V_vretX rfl hq dX3_requirePlayer_20
    · replace h := (oi h).2 c1
      refine V_sub [] rfl ?_
      exact s_X3_requirePlayer_9 hq h
def f_X3_requirePlayer (i0 : Int32) (M : zM) : Option ((String ⊕ Unit) × zM) := f_X3_requirePlayer_0 i0 M
theorem c_X3_requirePlayer {L : zL} {l : Launch} {i0 : Int32} {M : zM} {r : (String ⊕ Unit) × zM} (h : f_X3_requirePlayer i0 M = some r) : CX L l yX3_requirePlayer cX3_requirePlayer 1 (none : Option FieldType) 6 M [.int (i0)] (zoV r.1) r.2 :=
  CX.of ⟨by decide +kernel, by decide +kernel⟩ (Nat.le_of_ble_eq_true rfl) fun X Q hq => s_X3_requirePlayer_0 hq h
/-! Windsparlour.claim(III)I -/
theorem dX3_claim_0 : decode cX3_claim 0 = .ok (.iload_n 1, 1) := by decide +kernel
theorem dX3_claim_1 : decode cX3_claim 1 = .ok (.invokestatic 143, 3) := by decide +kernel
theorem dX3_claim_4 : decode cX3_claim 4 = .ok (.iload_n 2, 1) := by decide +kernel
theorem dX3_claim_5 : decode cX3_claim 5 = .ok (.ifCond .lt 8, 3) := by decide +kernel
theorem dX3_claim_8 : decode cX3_claim 8 = .ok (.iload_n 2, 1) := by decide +kernel
theorem dX3_claim_9 : decode cX3_claim 9 = .ok (.iconst 2, 1) := by decide +kernel
theorem dX3_claim_10 : decode cX3_claim 10 = .ok (.if_icmp .le 13, 3) := by decide +kernel
theorem dX3_claim_13 : decode cX3_claim 13 = .ok (.new 71, 3) := by decide +kernel
theorem dX3_claim_16 : decode cX3_claim 16 = .ok (.dup, 1) := by decide +kernel
theorem dX3_claim_17 : decode cX3_claim 17 = .ok (.ldc 146, 2) := by decide +kernel
theorem dX3_claim_19 : decode cX3_claim 19 = .ok (.invokespecial 75, 3) := by decide +kernel
theorem dX3_claim_22 : decode cX3_claim 22 = .ok (.athrow, 1) := by decide +kernel
theorem dX3_claim_23 : decode cX3_claim 23 = .ok (.aload_n 0, 1) := by decide +kernel
theorem dX3_claim_24 : decode cX3_claim 24 = .ok (.iload_n 1, 1) := by decide +kernel
theorem dX3_claim_25 : decode cX3_claim 25 = .ok (.iload_n 2, 1) := by decide +kernel
theorem dX3_claim_26 : decode cX3_claim 26 = .ok (.iload_n 3, 1) := by decide +kernel
theorem dX3_claim_27 : decode cX3_claim 27 = .ok (.invokevirtual 148, 3) := by decide +kernel
theorem dX3_claim_30 : decode cX3_claim 30 = .ok (.ifCond .ne 13, 3) := by decide +kernel
theorem dX3_claim_33 : decode cX3_claim 33 = .ok (.new 118, 3) := by decide +kernel
theorem dX3_claim_36 : decode cX3_claim 36 = .ok (.dup, 1) := by decide +kernel
theorem dX3_claim_37 : decode cX3_claim 37 = .ok (.ldc 152, 2) := by decide +kernel
theorem dX3_claim_39 : decode cX3_claim 39 = .ok (.invokespecial 122, 3) := by decide +kernel
theorem dX3_claim_42 : decode cX3_claim 42 = .ok (.athrow, 1) := by decide +kernel
theorem dX3_claim_43 : decode cX3_claim 43 = .ok (.aload_n 0, 1) := by decide +kernel
theorem dX3_claim_44 : decode cX3_claim 44 = .ok (.getfield 11, 3) := by decide +kernel
theorem dX3_claim_47 : decode cX3_claim 47 = .ok (.iload_n 1, 1) := by decide +kernel
theorem dX3_claim_48 : decode cX3_claim 48 = .ok (.aaload, 1) := by decide +kernel
theorem dX3_claim_49 : decode cX3_claim 49 = .ok (.astore 4, 2) := by decide +kernel
theorem dX3_claim_51 : decode cX3_claim 51 = .ok (.aload_n 0, 1) := by decide +kernel
theorem dX3_claim_52 : decode cX3_claim 52 = .ok (.invokevirtual 108, 3) := by decide +kernel
theorem dX3_claim_55 : decode cX3_claim 55 = .ok (.invokevirtual 154, 3) := by decide +kernel
theorem dX3_claim_58 : decode cX3_claim 58 = .ok (.istore 5, 2) := by decide +kernel
theorem dX3_claim_60 : decode cX3_claim 60 = .ok (.aload_n 0, 1) := by decide +kernel
theorem dX3_claim_61 : decode cX3_claim 61 = .ok (.iload_n 1, 1) := by decide +kernel
theorem dX3_claim_62 : decode cX3_claim 62 = .ok (.putfield 45, 3) := by decide +kernel
theorem dX3_claim_65 : decode cX3_claim 65 = .ok (.aload_n 0, 1) := by decide +kernel
theorem dX3_claim_66 : decode cX3_claim 66 = .ok (.iconst 1, 1) := by decide +kernel
theorem dX3_claim_67 : decode cX3_claim 67 = .ok (.putfield 42, 3) := by decide +kernel
theorem dX3_claim_70 : decode cX3_claim 70 = .ok (.aload_n 0, 1) := by decide +kernel
theorem dX3_claim_71 : decode cX3_claim 71 = .ok (.iconst 0, 1) := by decide +kernel
theorem dX3_claim_72 : decode cX3_claim 72 = .ok (.putfield 66, 3) := by decide +kernel
theorem dX3_claim_75 : decode cX3_claim 75 = .ok (.aload 4, 2) := by decide +kernel
theorem dX3_claim_77 : decode cX3_claim 77 = .ok (.iload 5, 2) := by decide +kernel
theorem dX3_claim_79 : decode cX3_claim 79 = .ok (.iconst 1, 1) := by decide +kernel
theorem dX3_claim_80 : decode cX3_claim 80 = .ok (.invokevirtual 157, 3) := by decide +kernel
theorem dX3_claim_83 : decode cX3_claim 83 = .ok (.aload 4, 2) := by decide +kernel
theorem dX3_claim_85 : decode cX3_claim 85 = .ok (.iload_n 2, 1) := by decide +kernel
theorem dX3_claim_86 : decode cX3_claim 86 = .ok (.iload_n 2, 1) := by decide +kernel
theorem dX3_claim_87 : decode cX3_claim 87 = .ok (.iconst 1, 1) := by decide +kernel
theorem dX3_claim_88 : decode cX3_claim 88 = .ok (.if_icmp .ne 7, 3) := by decide +kernel
theorem dX3_claim_91 : decode cX3_claim 91 = .ok (.iload_n 3, 1) := by decide +kernel
theorem dX3_claim_92 : decode cX3_claim 92 = .ok (.goto 5, 3) := by decide +kernel
theorem dX3_claim_95 : decode cX3_claim 95 = .ok (.iload 5, 2) := by decide +kernel
theorem dX3_claim_97 : decode cX3_claim 97 = .ok (.invokevirtual 161, 3) := by decide +kernel
theorem dX3_claim_100 : decode cX3_claim 100 = .ok (.iload_n 2, 1) := by decide +kernel
theorem dX3_claim_101 : decode cX3_claim 101 = .ok (.iconst 2, 1) := by decide +kernel
theorem dX3_claim_102 : decode cX3_claim 102 = .ok (.if_icmp .ne 8, 3) := by decide +kernel
theorem dX3_claim_105 : decode cX3_claim 105 = .ok (.aload_n 0, 1) := by decide +kernel
theorem dX3_claim_106 : decode cX3_claim 106 = .ok (.invokevirtual 164, 3) := by decide +kernel
theorem dX3_claim_109 : decode cX3_claim 109 = .ok (.pop, 1) := by decide +kernel
theorem dX3_claim_110 : decode cX3_claim 110 = .ok (.aload 4, 2) := by decide +kernel
theorem dX3_claim_112 : decode cX3_claim 112 = .ok (.getfield 167, 3) := by decide +kernel
theorem dX3_claim_115 : decode cX3_claim 115 = .ok (.ireturn, 1) := by decide +kernel
def f_X3_claim_13 (M : zM) : Option ((String ⊕ Int32) × zM) :=
  some (Sum.inl "java/lang/IllegalArgumentException", nE M)
set_option maxRecDepth 20000 in
set_option maxHeartbeats 4000000 in
theorem s_X3_claim_13 {L : zL} {X : zX} {M0 : zM} {N : Nat × Nat} {Q : State → Prop} {r : (String ⊕ Int32) × zM} (hq : vQX L X M0 N Q (zoI r.1) r.2) {M : zM} (h : f_X3_claim_13 M = some r) : V L X yX3_claim cX3_claim 6 (some FieldType.int) 7 M0 N Q M 13 [] [] := by
  unfold f_X3_claim_13 at h
  obtain rfl := Option.some.inj h
  exact V_throw (E := "java/lang/IllegalArgumentException") (tx := "no such claim") hq zx_X3_75 zk_X3_71 zs_X3_146 (by decide +kernel) (by decide) (Nat.le_of_ble_eq_true rfl) dX3_claim_13 dX3_claim_16 dX3_claim_17 dX3_claim_19 dX3_claim_22
def f_X3_claim_110 (a4 : Nat) (M : zM) : Option ((String ⊕ Int32) × zM) :=
  (gI 7 4 M a4).bind fun v1 =>
  some (Sum.inr (v1), M)
set_option maxRecDepth 20000 in
set_option maxHeartbeats 4000000 in
theorem s_X3_claim_110 {L : zL} {X : zX} {M0 : zM} {N : Nat × Nat} {Q : State → Prop} {r : (String ⊕ Int32) × zM} (hq : vQX L X M0 N Q (zoI r.1) r.2) {a4 : Nat} {M : zM} (h : f_X3_claim_110 a4 M = some r) : V L X yX3_claim cX3_claim 6 (some FieldType.int) 7 M0 N Q M 110 [(4, .ref (zad L (a4)))] [] := by
  unfold f_X3_claim_110 at h
  refine V_aload dX3_claim_110 0 rfl ?_
  replace h := ob h
  obtain ⟨v1, e_v1, h⟩ := h
  refine V_getI zf_7_4 zl_X3_167 e_v1 dX3_claim_112 ?_
  refine V_pc (pc' := 115) rfl ?_
  obtain rfl := Option.some.inj h
  exact V_iretX rfl hq dX3_claim_115
def f_X3_claim_97 (a0 : Nat) (i2 : Int32) (a4 : Nat) (i_0 : Int32) (i_1 : Int32) (a_2 : Nat) (M : zM) : Option ((String ⊕ Int32) × zM) :=
  if mK M a_2 = 7 then
  (f_X1_laySet a_2 i_1 i_0 M).bind fun r1 =>
  if i2 = ((2 : Int32)) then
  if mK r1.2 a0 = 9 then
  (f_X3_drawForFour a0 r1.2).bind fun r3 =>
  f_X3_claim_110 a4 r3.2
  else none
  else
  f_X3_claim_110 a4 r1.2
  else none
set_option maxRecDepth 20000 in
set_option maxHeartbeats 4000000 in
theorem s_X3_claim_97 {L : zL} {X : zX} {M0 : zM} {N : Nat × Nat} {Q : State → Prop} {r : (String ⊕ Int32) × zM} (hq : vQX L X M0 N Q (zoI r.1) r.2) {a0 : Nat} {i2 : Int32} {a4 : Nat} {i_0 : Int32} {i_1 : Int32} {a_2 : Nat} {M : zM} (h : f_X3_claim_97 a0 i2 a4 i_0 i_1 a_2 M = some r) : V L X yX3_claim cX3_claim 6 (some FieldType.int) 7 M0 N Q M 97 [(0, .ref (zad L (a0))), (2, .int (i2)), (4, .ref (zad L (a4)))] [.int (i_0), .int (i_1), .ref (zad L (a_2))] := by
  unfold f_X3_claim_97 at h
  replace h := ox h
  obtain ⟨c2, h⟩ := h
  replace h := ob h
  obtain ⟨r1, e_r1, h⟩ := h
  refine V_callV_V (As := [.int (i_1), .int (i_0)]) (rest := []) (c_X1_laySet e_r1) zc_X1_laySet rfl (by decide) rfl (by decide) (Or.inl c2) zm_X3_161 (Nat.le_of_ble_eq_true rfl) rfl dX3_claim_97 ?_
  refine V_pc (pc' := 100) rfl ?_
  refine V_iload_n dX3_claim_100 rfl 1 rfl ?_
  refine V_iconst (v := 2) dX3_claim_101 (by decide) ?_
  refine V_icmp_ne (tgt := 110) dX3_claim_102 (by decide) (fun c5 => ?_) (fun c5 => ?_)
  · replace h := (oi h).2 c5
    refine V_sub [2] rfl ?_
    exact s_X3_claim_110 hq h
  · replace h := (oi h).1 c5
    refine V_aload_n dX3_claim_105 rfl 0 rfl ?_
    replace h := ox h
    obtain ⟨c4, h⟩ := h
    replace h := ob h
    obtain ⟨r3, e_r3, h⟩ := h
    refine V_callV_I (As := []) (rest := []) (c_X3_drawForFour e_r3) zc_X3_drawForFour rfl (by decide) rfl (by decide) (Or.inl c4) zm_X3_164 (Nat.le_of_ble_eq_true rfl) rfl dX3_claim_106 ?_
    refine V_pc (pc' := 109) rfl ?_
    refine V_pop dX3_claim_109 rfl ?_
    refine V_sub [2] rfl ?_
    exact s_X3_claim_110 hq h
def f_X3_claim_0 (a0 : Nat) (i1 : Int32) (i2 : Int32) (i3 : Int32) (M : zM) : Option ((String ⊕ Int32) × zM) :=
  xb (f_X3_requirePlayer i1 M) fun w1 Mw1 =>
  if i2 < 0 then
  f_X3_claim_13 Mw1
  else
  if i2 ≤ ((2 : Int32)) then
  if mK Mw1 a0 = 9 then
  (f_X3_mayClaim a0 i1 i2 i3 Mw1).bind fun r19 =>
  if r19.1 = 0 then
  some (Sum.inl "java/lang/IllegalStateException", nE r19.2)
  else
  (gR 9 0 r19.2 a0).bind fun v21 =>
  (lQ 1 r19.2 v21 i1).bind fun v22 =>
  if mK r19.2 a0 = 9 then
  (f_X3_seatInTurn a0 r19.2).bind fun r23 =>
  if mK r23.2 r23.1 = 7 then
  (f_X1_leaveRiver r23.1 r23.2).bind fun r25 =>
  (pI 9 8 r25.2 a0 i1).bind fun M27 =>
  (pI 9 7 M27 a0 ((1 : Int32))).bind fun M28 =>
  (pZ 9 15 M28 a0 ((0 : Int32))).bind fun M29 =>
  if mK M29 v22 = 7 then
  (f_X1_change v22 r25.1 ((1 : Int32)) M29).bind fun r30 =>
  if i2 = ((1 : Int32)) then
  f_X3_claim_97 a0 i2 v22 i3 i2 v22 r30.2
  else
  f_X3_claim_97 a0 i2 v22 r25.1 i2 v22 r30.2
  else none
  else none
  else none
  else none
  else
  f_X3_claim_13 Mw1
set_option maxRecDepth 20000 in
set_option maxHeartbeats 4000000 in
theorem s_X3_claim_0 {L : zL} {X : zX} {M0 : zM} {N : Nat × Nat} {Q : State → Prop} {r : (String ⊕ Int32) × zM} (hq : vQX L X M0 N Q (zoI r.1) r.2) {a0 : Nat} {i1 : Int32} {i2 : Int32} {i3 : Int32} {M : zM} (h : f_X3_claim_0 a0 i1 i2 i3 M = some r) : V L X yX3_claim cX3_claim 6 (some FieldType.int) 7 M0 N Q M 0 [(0, .ref (zad L (a0))), (1, .int (i1)), (2, .int (i2)), (3, .int (i3))] [] := by
  unfold f_X3_claim_0 at h
  refine V_iload_n dX3_claim_0 rfl 1 rfl ?_
  replace h := xbs h
  rcases h with ⟨E_r1, M_r1, e_r1, rfl⟩ | ⟨w1, Mw1, e_r1, h⟩
  · exact V_callSt (As := [.int (i1)]) (rest := []) (c_X3_requirePlayer e_r1) hq (by decide +kernel) zc_X3_requirePlayer rfl (by decide) zm_X3_143 (Nat.le_of_ble_eq_true rfl) rfl dX3_claim_1
  · refine V_callSx_V (As := [.int (i1)]) (rest := []) (c_X3_requirePlayer e_r1) zc_X3_requirePlayer rfl (by decide) zm_X3_143 (Nat.le_of_ble_eq_true rfl) rfl dX3_claim_1 ?_
    refine V_pc (pc' := 4) rfl ?_
    refine V_iload_n dX3_claim_4 rfl 2 rfl ?_
    refine V_if_lt (tgt := 13) dX3_claim_5 (by decide) (fun c35 => ?_) (fun c35 => ?_)
    · replace h := (oi h).1 c35
      refine V_sub [] rfl ?_
      exact s_X3_claim_13 hq h
    · replace h := (oi h).2 c35
      refine V_iload_n dX3_claim_8 rfl 2 rfl ?_
      refine V_iconst (v := 2) dX3_claim_9 (by decide) ?_
      refine V_icmp_le (tgt := 23) dX3_claim_10 (by decide) (fun c34 => ?_) (fun c34 => ?_)
      · replace h := (oi h).1 c34
        refine V_aload_n dX3_claim_23 rfl 0 rfl ?_
        refine V_iload_n dX3_claim_24 rfl 1 rfl ?_
        refine V_iload_n dX3_claim_25 rfl 2 rfl ?_
        refine V_iload_n dX3_claim_26 rfl 3 rfl ?_
        replace h := ox h
        obtain ⟨c20, h⟩ := h
        replace h := ob h
        obtain ⟨r19, e_r19, h⟩ := h
        refine V_callV_I (As := [.int (i1), .int (i2), .int (i3)]) (rest := []) (c_X3_mayClaim e_r19) zc_X3_mayClaim rfl (by decide) rfl (by decide) (Or.inl c20) zm_X3_148 (Nat.le_of_ble_eq_true rfl) rfl dX3_claim_27 ?_
        refine V_pc (pc' := 30) rfl ?_
        refine V_if_ne (tgt := 43) dX3_claim_30 (by decide) (fun c33 => ?_) (fun c33 => ?_)
        · replace h := (oi h).2 c33
          refine V_aload_n dX3_claim_43 rfl 0 rfl ?_
          replace h := ob h
          obtain ⟨v21, e_v21, h⟩ := h
          refine V_getR zf_9_0 zl_X3_11 e_v21 dX3_claim_44 ?_
          refine V_pc (pc' := 47) rfl ?_
          refine V_iload_n dX3_claim_47 rfl 1 rfl ?_
          replace h := ob h
          obtain ⟨v22, e_v22, h⟩ := h
          refine V_aald (by decide) e_v22 dX3_claim_48 ?_
          refine V_pc (pc' := 49) rfl ?_
          refine V_astore (ls' := [(4, .ref (zad L (v22))), (0, .ref (zad L (a0))), (1, .int (i1)), (2, .int (i2)), (3, .int (i3))]) dX3_claim_49 (by decide) rfl ?_
          refine V_aload_n dX3_claim_51 rfl 1 rfl ?_
          replace h := ox h
          obtain ⟨c24, h⟩ := h
          replace h := ob h
          obtain ⟨r23, e_r23, h⟩ := h
          refine V_callV_A (As := []) (rest := []) (c_X3_seatInTurn e_r23) zc_X3_seatInTurn rfl (by decide) rfl (by decide) (Or.inl c24) zm_X3_108 (Nat.le_of_ble_eq_true rfl) rfl dX3_claim_52 ?_
          refine V_pc (pc' := 55) rfl ?_
          replace h := ox h
          obtain ⟨c26, h⟩ := h
          replace h := ob h
          obtain ⟨r25, e_r25, h⟩ := h
          refine V_callV_I (As := []) (rest := []) (c_X1_leaveRiver e_r25) zc_X1_leaveRiver rfl (by decide) rfl (by decide) (Or.inl c26) zm_X3_154 (Nat.le_of_ble_eq_true rfl) rfl dX3_claim_55 ?_
          refine V_pc (pc' := 58) rfl ?_
          refine V_istore (ls' := [(5, .int (r25.1)), (4, .ref (zad L (v22))), (0, .ref (zad L (a0))), (1, .int (i1)), (2, .int (i2)), (3, .int (i3))]) dX3_claim_58 (by decide) rfl ?_
          refine V_aload_n dX3_claim_60 rfl 2 rfl ?_
          refine V_iload_n dX3_claim_61 rfl 3 rfl ?_
          replace h := ob h
          obtain ⟨M27, e_M27, h⟩ := h
          refine V_putI zf_9_8 zl_X3_45 (Or.inl rfl) rfl e_M27 dX3_claim_62 ?_
          refine V_pc (pc' := 65) rfl ?_
          refine V_aload_n dX3_claim_65 rfl 2 rfl ?_
          refine V_iconst (v := 1) dX3_claim_66 (by decide) ?_
          replace h := ob h
          obtain ⟨M28, e_M28, h⟩ := h
          refine V_putI zf_9_7 zl_X3_42 (Or.inl rfl) rfl e_M28 dX3_claim_67 ?_
          refine V_pc (pc' := 70) rfl ?_
          refine V_aload_n dX3_claim_70 rfl 2 rfl ?_
          refine V_iconst (v := 0) dX3_claim_71 (by decide) ?_
          replace h := ob h
          obtain ⟨M29, e_M29, h⟩ := h
          refine V_putZ zf_9_15 zl_X3_66 (Or.inl rfl) rfl e_M29 dX3_claim_72 ?_
          refine V_pc (pc' := 75) rfl ?_
          refine V_aload dX3_claim_75 1 rfl ?_
          refine V_iload dX3_claim_77 0 rfl ?_
          refine V_iconst (v := 1) dX3_claim_79 (by decide) ?_
          replace h := ox h
          obtain ⟨c31, h⟩ := h
          replace h := ob h
          obtain ⟨r30, e_r30, h⟩ := h
          refine V_callV_V (As := [.int (r25.1), .int ((1 : Int32))]) (rest := []) (c_X1_change e_r30) zc_X1_change rfl (by decide) rfl (by decide) (Or.inl c31) zm_X3_157 (Nat.le_of_ble_eq_true rfl) rfl dX3_claim_80 ?_
          refine V_pc (pc' := 83) rfl ?_
          refine V_aload dX3_claim_83 1 rfl ?_
          refine V_iload_n dX3_claim_85 rfl 4 rfl ?_
          refine V_iload_n dX3_claim_86 rfl 4 rfl ?_
          refine V_iconst (v := 1) dX3_claim_87 (by decide) ?_
          refine V_icmp_ne (tgt := 95) dX3_claim_88 (by decide) (fun c32 => ?_) (fun c32 => ?_)
          · replace h := (oi h).2 c32
            refine V_iload dX3_claim_95 0 rfl ?_
            refine V_sub [2, 4, 1] rfl ?_
            exact s_X3_claim_97 hq h
          · replace h := (oi h).1 c32
            refine V_iload_n dX3_claim_91 rfl 5 rfl ?_
            refine V_goto (tgt := 97) dX3_claim_92 (by decide) ?_
            refine V_sub [2, 4, 1] rfl ?_
            exact s_X3_claim_97 hq h
        · replace h := (oi h).1 c33
          obtain rfl := Option.some.inj h
          exact V_throw (E := "java/lang/IllegalStateException") (tx := "that cannot be claimed") hq zx_X3_122 zk_X3_118 zs_X3_152 (by decide +kernel) (by decide) (Nat.le_of_ble_eq_true rfl) dX3_claim_33 dX3_claim_36 dX3_claim_37 dX3_claim_39 dX3_claim_42
      · replace h := (oi h).2 c34
        refine V_sub [] rfl ?_
        exact s_X3_claim_13 hq h
def f_X3_claim (a0 : Nat) (i1 : Int32) (i2 : Int32) (i3 : Int32) (M : zM) : Option ((String ⊕ Int32) × zM) := f_X3_claim_0 a0 i1 i2 i3 M
theorem c_X3_claim {L : zL} {l : Launch} {a0 : Nat} {i1 : Int32} {i2 : Int32} {i3 : Int32} {M : zM} {r : (String ⊕ Int32) × zM} (h : f_X3_claim a0 i1 i2 i3 M = some r) : CX L l yX3_claim cX3_claim 6 (some FieldType.int) 7 M [.ref (zad L (a0)), .int (i1), .int (i2), .int (i3)] (zoI r.1) r.2 :=
  CX.of ⟨by decide +kernel, by decide +kernel⟩ (Nat.le_of_ble_eq_true rfl) fun X Q hq => s_X3_claim_0 hq h
/-! Windsparlour.four(I)I -/
theorem dX3_four_0 : decode cX3_four 0 = .ok (.iload_n 1, 1) := by decide +kernel
theorem dX3_four_1 : decode cX3_four 1 = .ok (.invokestatic 105, 3) := by decide +kernel
theorem dX3_four_4 : decode cX3_four 4 = .ok (.aload_n 0, 1) := by decide +kernel
theorem dX3_four_5 : decode cX3_four 5 = .ok (.iconst 1, 1) := by decide +kernel
theorem dX3_four_6 : decode cX3_four 6 = .ok (.invokevirtual 78, 3) := by decide +kernel
theorem dX3_four_9 : decode cX3_four 9 = .ok (.aload_n 0, 1) := by decide +kernel
theorem dX3_four_10 : decode cX3_four 10 = .ok (.invokevirtual 108, 3) := by decide +kernel
theorem dX3_four_13 : decode cX3_four 13 = .ok (.astore_n 2, 1) := by decide +kernel
theorem dX3_four_14 : decode cX3_four 14 = .ok (.aload_n 2, 1) := by decide +kernel
theorem dX3_four_15 : decode cX3_four 15 = .ok (.getfield 115, 3) := by decide +kernel
theorem dX3_four_18 : decode cX3_four 18 = .ok (.ifCond .ne 19, 3) := by decide +kernel
theorem dX3_four_21 : decode cX3_four 21 = .ok (.aload_n 2, 1) := by decide +kernel
theorem dX3_four_22 : decode cX3_four 22 = .ok (.iload_n 1, 1) := by decide +kernel
theorem dX3_four_23 : decode cX3_four 23 = .ok (.invokevirtual 112, 3) := by decide +kernel
theorem dX3_four_26 : decode cX3_four 26 = .ok (.iconst 4, 1) := by decide +kernel
theorem dX3_four_27 : decode cX3_four 27 = .ok (.if_icmp .lt 10, 3) := by decide +kernel
theorem dX3_four_30 : decode cX3_four 30 = .ok (.aload_n 0, 1) := by decide +kernel
theorem dX3_four_31 : decode cX3_four 31 = .ok (.invokevirtual 170, 3) := by decide +kernel
theorem dX3_four_34 : decode cX3_four 34 = .ok (.ifCond .ne 13, 3) := by decide +kernel
theorem dX3_four_37 : decode cX3_four 37 = .ok (.new 118, 3) := by decide +kernel
theorem dX3_four_40 : decode cX3_four 40 = .ok (.dup, 1) := by decide +kernel
theorem dX3_four_41 : decode cX3_four 41 = .ok (.ldc 173, 2) := by decide +kernel
theorem dX3_four_43 : decode cX3_four 43 = .ok (.invokespecial 122, 3) := by decide +kernel
theorem dX3_four_46 : decode cX3_four 46 = .ok (.athrow, 1) := by decide +kernel
theorem dX3_four_47 : decode cX3_four 47 = .ok (.aload_n 2, 1) := by decide +kernel
theorem dX3_four_48 : decode cX3_four 48 = .ok (.iconst 3, 1) := by decide +kernel
theorem dX3_four_49 : decode cX3_four 49 = .ok (.iload_n 1, 1) := by decide +kernel
theorem dX3_four_50 : decode cX3_four 50 = .ok (.invokevirtual 161, 3) := by decide +kernel
theorem dX3_four_53 : decode cX3_four 53 = .ok (.aload_n 0, 1) := by decide +kernel
theorem dX3_four_54 : decode cX3_four 54 = .ok (.invokevirtual 164, 3) := by decide +kernel
theorem dX3_four_57 : decode cX3_four 57 = .ok (.ireturn, 1) := by decide +kernel
def f_X3_four_37 (M : zM) : Option ((String ⊕ Int32) × zM) :=
  some (Sum.inl "java/lang/IllegalStateException", nE M)
set_option maxRecDepth 20000 in
set_option maxHeartbeats 4000000 in
theorem s_X3_four_37 {L : zL} {X : zX} {M0 : zM} {N : Nat × Nat} {Q : State → Prop} {r : (String ⊕ Int32) × zM} (hq : vQX L X M0 N Q (zoI r.1) r.2) {M : zM} (h : f_X3_four_37 M = some r) : V L X yX3_four cX3_four 3 (some FieldType.int) 7 M0 N Q M 37 [] [] := by
  unfold f_X3_four_37 at h
  obtain rfl := Option.some.inj h
  exact V_throw (E := "java/lang/IllegalStateException") (tx := "no closed four of that kind") hq zx_X3_122 zk_X3_118 zs_X3_173 (by decide +kernel) (by decide) (Nat.le_of_ble_eq_true rfl) dX3_four_37 dX3_four_40 dX3_four_41 dX3_four_43 dX3_four_46
def f_X3_four_0 (a0 : Nat) (i1 : Int32) (M : zM) : Option ((String ⊕ Int32) × zM) :=
  xb (f_X3_requireKind i1 M) fun w1 Mw1 =>
  if mK Mw1 a0 = 9 then
  xb (f_X3_requirePhase a0 ((1 : Int32)) Mw1) fun w32 Mw32 =>
  if mK Mw32 a0 = 9 then
  (f_X3_seatInTurn a0 Mw32).bind fun r48 =>
  (gI 7 6 r48.2 r48.1).bind fun v50 =>
  if v50 = 0 then
  if mK r48.2 r48.1 = 7 then
  (f_X1_count r48.1 i1 r48.2).bind fun r51 =>
  if r51.1 < ((4 : Int32)) then
  f_X3_four_37 r51.2
  else
  if mK r51.2 a0 = 9 then
  (f_X3_fourAllowed a0 r51.2).bind fun r53 =>
  if r53.1 = 0 then
  f_X3_four_37 r53.2
  else
  if mK r53.2 r48.1 = 7 then
  (f_X1_laySet r48.1 ((3 : Int32)) i1 r53.2).bind fun r55 =>
  if mK r55.2 a0 = 9 then
  (f_X3_drawForFour a0 r55.2).bind fun r57 =>
  some (Sum.inr (r57.1), r57.2)
  else none
  else none
  else none
  else none
  else
  f_X3_four_37 r48.2
  else none
  else none
set_option maxRecDepth 20000 in
set_option maxHeartbeats 4000000 in
theorem s_X3_four_0 {L : zL} {X : zX} {M0 : zM} {N : Nat × Nat} {Q : State → Prop} {r : (String ⊕ Int32) × zM} (hq : vQX L X M0 N Q (zoI r.1) r.2) {a0 : Nat} {i1 : Int32} {M : zM} (h : f_X3_four_0 a0 i1 M = some r) : V L X yX3_four cX3_four 3 (some FieldType.int) 7 M0 N Q M 0 [(0, .ref (zad L (a0))), (1, .int (i1))] [] := by
  unfold f_X3_four_0 at h
  refine V_iload_n dX3_four_0 rfl 1 rfl ?_
  replace h := xbs h
  rcases h with ⟨E_r1, M_r1, e_r1, rfl⟩ | ⟨w1, Mw1, e_r1, h⟩
  · exact V_callSt (As := [.int (i1)]) (rest := []) (c_X3_requireKind e_r1) hq (by decide +kernel) zc_X3_requireKind rfl (by decide) zm_X3_105 (Nat.le_of_ble_eq_true rfl) rfl dX3_four_1
  · refine V_callSx_V (As := [.int (i1)]) (rest := []) (c_X3_requireKind e_r1) zc_X3_requireKind rfl (by decide) zm_X3_105 (Nat.le_of_ble_eq_true rfl) rfl dX3_four_1 ?_
    refine V_pc (pc' := 4) rfl ?_
    refine V_aload_n dX3_four_4 rfl 0 rfl ?_
    refine V_iconst (v := 1) dX3_four_5 (by decide) ?_
    replace h := ox h
    obtain ⟨c33, h⟩ := h
    replace h := xbs h
    rcases h with ⟨E_r32, M_r32, e_r32, rfl⟩ | ⟨w32, Mw32, e_r32, h⟩
    · exact V_callVt (As := [.int ((1 : Int32))]) (rest := []) (c_X3_requirePhase e_r32) hq (by decide +kernel) zc_X3_requirePhase rfl (by decide) rfl (by decide) (Or.inl c33) zm_X3_78 (Nat.le_of_ble_eq_true rfl) rfl dX3_four_6
    · refine V_callVx_V (As := [.int ((1 : Int32))]) (rest := []) (c_X3_requirePhase e_r32) zc_X3_requirePhase rfl (by decide) rfl (by decide) (Or.inl c33) zm_X3_78 (Nat.le_of_ble_eq_true rfl) rfl dX3_four_6 ?_
      refine V_pc (pc' := 9) rfl ?_
      refine V_aload_n dX3_four_9 rfl 0 rfl ?_
      replace h := ox h
      obtain ⟨c49, h⟩ := h
      replace h := ob h
      obtain ⟨r48, e_r48, h⟩ := h
      refine V_callV_A (As := []) (rest := []) (c_X3_seatInTurn e_r48) zc_X3_seatInTurn rfl (by decide) rfl (by decide) (Or.inl c49) zm_X3_108 (Nat.le_of_ble_eq_true rfl) rfl dX3_four_10 ?_
      refine V_pc (pc' := 13) rfl ?_
      refine V_astore_n (ls' := [(2, .ref (zad L (r48.1))), (0, .ref (zad L (a0))), (1, .int (i1))]) dX3_four_13 rfl (by decide) rfl ?_
      refine V_aload_n dX3_four_14 rfl 0 rfl ?_
      replace h := ob h
      obtain ⟨v50, e_v50, h⟩ := h
      refine V_getI zf_7_6 zl_X3_115 e_v50 dX3_four_15 ?_
      refine V_pc (pc' := 18) rfl ?_
      refine V_if_ne (tgt := 37) dX3_four_18 (by decide) (fun c61 => ?_) (fun c61 => ?_)
      · replace h := (oi h).2 c61
        refine V_sub [] rfl ?_
        exact s_X3_four_37 hq h
      · replace h := (oi h).1 c61
        refine V_aload_n dX3_four_21 rfl 0 rfl ?_
        refine V_iload_n dX3_four_22 rfl 2 rfl ?_
        replace h := ox h
        obtain ⟨c52, h⟩ := h
        replace h := ob h
        obtain ⟨r51, e_r51, h⟩ := h
        refine V_callV_I (As := [.int (i1)]) (rest := []) (c_X1_count e_r51) zc_X1_count rfl (by decide) rfl (by decide) (Or.inl c52) zm_X3_112 (Nat.le_of_ble_eq_true rfl) rfl dX3_four_23 ?_
        refine V_pc (pc' := 26) rfl ?_
        refine V_iconst (v := 4) dX3_four_26 (by decide) ?_
        refine V_icmp_lt (tgt := 37) dX3_four_27 (by decide) (fun c60 => ?_) (fun c60 => ?_)
        · replace h := (oi h).1 c60
          refine V_sub [] rfl ?_
          exact s_X3_four_37 hq h
        · replace h := (oi h).2 c60
          refine V_aload_n dX3_four_30 rfl 1 rfl ?_
          replace h := ox h
          obtain ⟨c54, h⟩ := h
          replace h := ob h
          obtain ⟨r53, e_r53, h⟩ := h
          refine V_callV_I (As := []) (rest := []) (c_X3_fourAllowed e_r53) zc_X3_fourAllowed rfl (by decide) rfl (by decide) (Or.inl c54) zm_X3_170 (Nat.le_of_ble_eq_true rfl) rfl dX3_four_31 ?_
          refine V_pc (pc' := 34) rfl ?_
          refine V_if_ne (tgt := 47) dX3_four_34 (by decide) (fun c59 => ?_) (fun c59 => ?_)
          · replace h := (oi h).2 c59
            refine V_aload_n dX3_four_47 rfl 0 rfl ?_
            refine V_iconst (v := 3) dX3_four_48 (by decide) ?_
            refine V_iload_n dX3_four_49 rfl 2 rfl ?_
            replace h := ox h
            obtain ⟨c56, h⟩ := h
            replace h := ob h
            obtain ⟨r55, e_r55, h⟩ := h
            refine V_callV_V (As := [.int ((3 : Int32)), .int (i1)]) (rest := []) (c_X1_laySet e_r55) zc_X1_laySet rfl (by decide) rfl (by decide) (Or.inl c56) zm_X3_161 (Nat.le_of_ble_eq_true rfl) rfl dX3_four_50 ?_
            refine V_pc (pc' := 53) rfl ?_
            refine V_aload_n dX3_four_53 rfl 1 rfl ?_
            replace h := ox h
            obtain ⟨c58, h⟩ := h
            replace h := ob h
            obtain ⟨r57, e_r57, h⟩ := h
            refine V_callV_I (As := []) (rest := []) (c_X3_drawForFour e_r57) zc_X3_drawForFour rfl (by decide) rfl (by decide) (Or.inl c58) zm_X3_164 (Nat.le_of_ble_eq_true rfl) rfl dX3_four_54 ?_
            refine V_pc (pc' := 57) rfl ?_
            obtain rfl := Option.some.inj h
            exact V_iretX rfl hq dX3_four_57
          · replace h := (oi h).1 c59
            refine V_sub [] rfl ?_
            exact s_X3_four_37 hq h
def f_X3_four (a0 : Nat) (i1 : Int32) (M : zM) : Option ((String ⊕ Int32) × zM) := f_X3_four_0 a0 i1 M
theorem c_X3_four {L : zL} {l : Launch} {a0 : Nat} {i1 : Int32} {M : zM} {r : (String ⊕ Int32) × zM} (h : f_X3_four a0 i1 M = some r) : CX L l yX3_four cX3_four 3 (some FieldType.int) 7 M [.ref (zad L (a0)), .int (i1)] (zoI r.1) r.2 :=
  CX.of ⟨by decide +kernel, by decide +kernel⟩ (Nat.le_of_ble_eq_true rfl) fun X Q hq => s_X3_four_0 hq h
/-! Windsparlour.pass()I -/
theorem dX3_pass_0 : decode cX3_pass 0 = .ok (.aload_n 0, 1) := by decide +kernel
theorem dX3_pass_1 : decode cX3_pass 1 = .ok (.iconst 2, 1) := by decide +kernel
theorem dX3_pass_2 : decode cX3_pass 2 = .ok (.invokevirtual 78, 3) := by decide +kernel
theorem dX3_pass_5 : decode cX3_pass 5 = .ok (.aload_n 0, 1) := by decide +kernel
theorem dX3_pass_6 : decode cX3_pass 6 = .ok (.aload_n 0, 1) := by decide +kernel
theorem dX3_pass_7 : decode cX3_pass 7 = .ok (.getfield 45, 3) := by decide +kernel
theorem dX3_pass_10 : decode cX3_pass 10 = .ok (.iconst 1, 1) := by decide +kernel
theorem dX3_pass_11 : decode cX3_pass 11 = .ok (.iadd, 1) := by decide +kernel
theorem dX3_pass_12 : decode cX3_pass 12 = .ok (.iconst 4, 1) := by decide +kernel
theorem dX3_pass_13 : decode cX3_pass 13 = .ok (.irem, 1) := by decide +kernel
theorem dX3_pass_14 : decode cX3_pass 14 = .ok (.putfield 45, 3) := by decide +kernel
theorem dX3_pass_17 : decode cX3_pass 17 = .ok (.aload_n 0, 1) := by decide +kernel
theorem dX3_pass_18 : decode cX3_pass 18 = .ok (.iconst 0, 1) := by decide +kernel
theorem dX3_pass_19 : decode cX3_pass 19 = .ok (.putfield 42, 3) := by decide +kernel
theorem dX3_pass_22 : decode cX3_pass 22 = .ok (.aload_n 0, 1) := by decide +kernel
theorem dX3_pass_23 : decode cX3_pass 23 = .ok (.getfield 45, 3) := by decide +kernel
theorem dX3_pass_26 : decode cX3_pass 26 = .ok (.ireturn, 1) := by decide +kernel
def f_X3_pass_0 (a0 : Nat) (M : zM) : Option ((String ⊕ Int32) × zM) :=
  if mK M a0 = 9 then
  xb (f_X3_requirePhase a0 ((2 : Int32)) M) fun w1 Mw1 =>
  (gI 9 8 Mw1 a0).bind fun v7 =>
  (pI 9 8 Mw1 a0 ((zmd ((v7 + ((1 : Int32)))) ((4 : Int32))))).bind fun M8 =>
  (pI 9 7 M8 a0 ((0 : Int32))).bind fun M9 =>
  (gI 9 8 M9 a0).bind fun v10 =>
  some (Sum.inr (v10), M9)
  else none
set_option maxRecDepth 20000 in
set_option maxHeartbeats 4000000 in
theorem s_X3_pass_0 {L : zL} {X : zX} {M0 : zM} {N : Nat × Nat} {Q : State → Prop} {r : (String ⊕ Int32) × zM} (hq : vQX L X M0 N Q (zoI r.1) r.2) {a0 : Nat} {M : zM} (h : f_X3_pass_0 a0 M = some r) : V L X yX3_pass cX3_pass 1 (some FieldType.int) 7 M0 N Q M 0 [(0, .ref (zad L (a0)))] [] := by
  unfold f_X3_pass_0 at h
  refine V_aload_n dX3_pass_0 rfl 0 rfl ?_
  refine V_iconst (v := 2) dX3_pass_1 (by decide) ?_
  replace h := ox h
  obtain ⟨c2, h⟩ := h
  replace h := xbs h
  rcases h with ⟨E_r1, M_r1, e_r1, rfl⟩ | ⟨w1, Mw1, e_r1, h⟩
  · exact V_callVt (As := [.int ((2 : Int32))]) (rest := []) (c_X3_requirePhase e_r1) hq (by decide +kernel) zc_X3_requirePhase rfl (by decide) rfl (by decide) (Or.inl c2) zm_X3_78 (Nat.le_of_ble_eq_true rfl) rfl dX3_pass_2
  · refine V_callVx_V (As := [.int ((2 : Int32))]) (rest := []) (c_X3_requirePhase e_r1) zc_X3_requirePhase rfl (by decide) rfl (by decide) (Or.inl c2) zm_X3_78 (Nat.le_of_ble_eq_true rfl) rfl dX3_pass_2 ?_
    refine V_pc (pc' := 5) rfl ?_
    refine V_aload_n dX3_pass_5 rfl 0 rfl ?_
    refine V_aload_n dX3_pass_6 rfl 0 rfl ?_
    replace h := ob h
    obtain ⟨v7, e_v7, h⟩ := h
    refine V_getI zf_9_8 zl_X3_45 e_v7 dX3_pass_7 ?_
    refine V_pc (pc' := 10) rfl ?_
    refine V_iconst (v := 1) dX3_pass_10 (by decide) ?_
    refine V_iadd dX3_pass_11 ?_
    refine V_iconst (v := 4) dX3_pass_12 (by decide) ?_
    refine V_irem dX3_pass_13 (by decide) ?_
    replace h := ob h
    obtain ⟨M8, e_M8, h⟩ := h
    refine V_putI zf_9_8 zl_X3_45 (Or.inl rfl) rfl e_M8 dX3_pass_14 ?_
    refine V_pc (pc' := 17) rfl ?_
    refine V_aload_n dX3_pass_17 rfl 0 rfl ?_
    refine V_iconst (v := 0) dX3_pass_18 (by decide) ?_
    replace h := ob h
    obtain ⟨M9, e_M9, h⟩ := h
    refine V_putI zf_9_7 zl_X3_42 (Or.inl rfl) rfl e_M9 dX3_pass_19 ?_
    refine V_pc (pc' := 22) rfl ?_
    refine V_aload_n dX3_pass_22 rfl 0 rfl ?_
    replace h := ob h
    obtain ⟨v10, e_v10, h⟩ := h
    refine V_getI zf_9_8 zl_X3_45 e_v10 dX3_pass_23 ?_
    refine V_pc (pc' := 26) rfl ?_
    obtain rfl := Option.some.inj h
    exact V_iretX rfl hq dX3_pass_26
def f_X3_pass (a0 : Nat) (M : zM) : Option ((String ⊕ Int32) × zM) := f_X3_pass_0 a0 M
theorem c_X3_pass {L : zL} {l : Launch} {a0 : Nat} {M : zM} {r : (String ⊕ Int32) × zM} (h : f_X3_pass a0 M = some r) : CX L l yX3_pass cX3_pass 1 (some FieldType.int) 7 M [.ref (zad L (a0))] (zoI r.1) r.2 :=
  CX.of ⟨by decide +kernel, by decide +kernel⟩ (Nat.le_of_ble_eq_true rfl) fun X Q hq => s_X3_pass_0 hq h
/-! Windsparlour.payWin(IZI)V -/
theorem dX3_payWin_0 : decode cX3_payWin 0 = .ok (.iload_n 2, 1) := by decide +kernel
theorem dX3_payWin_1 : decode cX3_payWin 1 = .ok (.ifCond .eq 57, 3) := by decide +kernel
theorem dX3_payWin_4 : decode cX3_payWin 4 = .ok (.iconst 0, 1) := by decide +kernel
theorem dX3_payWin_5 : decode cX3_payWin 5 = .ok (.istore 4, 2) := by decide +kernel
theorem dX3_payWin_7 : decode cX3_payWin 7 = .ok (.iload 4, 2) := by decide +kernel
theorem dX3_payWin_9 : decode cX3_payWin 9 = .ok (.iconst 4, 1) := by decide +kernel
theorem dX3_payWin_10 : decode cX3_payWin 10 = .ok (.if_icmp .ge 27, 3) := by decide +kernel
theorem dX3_payWin_13 : decode cX3_payWin 13 = .ok (.aload_n 0, 1) := by decide +kernel
theorem dX3_payWin_14 : decode cX3_payWin 14 = .ok (.getfield 11, 3) := by decide +kernel
theorem dX3_payWin_17 : decode cX3_payWin 17 = .ok (.iload 4, 2) := by decide +kernel
theorem dX3_payWin_19 : decode cX3_payWin 19 = .ok (.aaload, 1) := by decide +kernel
theorem dX3_payWin_20 : decode cX3_payWin 20 = .ok (.dup, 1) := by decide +kernel
theorem dX3_payWin_21 : decode cX3_payWin 21 = .ok (.getfield 140, 3) := by decide +kernel
theorem dX3_payWin_24 : decode cX3_payWin 24 = .ok (.iconst 4, 1) := by decide +kernel
theorem dX3_payWin_25 : decode cX3_payWin 25 = .ok (.iload_n 3, 1) := by decide +kernel
theorem dX3_payWin_26 : decode cX3_payWin 26 = .ok (.imul, 1) := by decide +kernel
theorem dX3_payWin_27 : decode cX3_payWin 27 = .ok (.isub, 1) := by decide +kernel
theorem dX3_payWin_28 : decode cX3_payWin 28 = .ok (.putfield 140, 3) := by decide +kernel
theorem dX3_payWin_31 : decode cX3_payWin 31 = .ok (.iinc 4 1, 3) := by decide +kernel
theorem dX3_payWin_34 : decode cX3_payWin 34 = .ok (.goto (-27), 3) := by decide +kernel
theorem dX3_payWin_37 : decode cX3_payWin 37 = .ok (.aload_n 0, 1) := by decide +kernel
theorem dX3_payWin_38 : decode cX3_payWin 38 = .ok (.getfield 11, 3) := by decide +kernel
theorem dX3_payWin_41 : decode cX3_payWin 41 = .ok (.iload_n 1, 1) := by decide +kernel
theorem dX3_payWin_42 : decode cX3_payWin 42 = .ok (.aaload, 1) := by decide +kernel
theorem dX3_payWin_43 : decode cX3_payWin 43 = .ok (.dup, 1) := by decide +kernel
theorem dX3_payWin_44 : decode cX3_payWin 44 = .ok (.getfield 140, 3) := by decide +kernel
theorem dX3_payWin_47 : decode cX3_payWin 47 = .ok (.bipush 16, 2) := by decide +kernel
theorem dX3_payWin_49 : decode cX3_payWin 49 = .ok (.iload_n 3, 1) := by decide +kernel
theorem dX3_payWin_50 : decode cX3_payWin 50 = .ok (.imul, 1) := by decide +kernel
theorem dX3_payWin_51 : decode cX3_payWin 51 = .ok (.iadd, 1) := by decide +kernel
theorem dX3_payWin_52 : decode cX3_payWin 52 = .ok (.putfield 140, 3) := by decide +kernel
theorem dX3_payWin_55 : decode cX3_payWin 55 = .ok (.goto 37, 3) := by decide +kernel
theorem dX3_payWin_58 : decode cX3_payWin 58 = .ok (.aload_n 0, 1) := by decide +kernel
theorem dX3_payWin_59 : decode cX3_payWin 59 = .ok (.invokevirtual 108, 3) := by decide +kernel
theorem dX3_payWin_62 : decode cX3_payWin 62 = .ok (.dup, 1) := by decide +kernel
theorem dX3_payWin_63 : decode cX3_payWin 63 = .ok (.getfield 140, 3) := by decide +kernel
theorem dX3_payWin_66 : decode cX3_payWin 66 = .ok (.bipush 12, 2) := by decide +kernel
theorem dX3_payWin_68 : decode cX3_payWin 68 = .ok (.iload_n 3, 1) := by decide +kernel
theorem dX3_payWin_69 : decode cX3_payWin 69 = .ok (.imul, 1) := by decide +kernel
theorem dX3_payWin_70 : decode cX3_payWin 70 = .ok (.isub, 1) := by decide +kernel
theorem dX3_payWin_71 : decode cX3_payWin 71 = .ok (.putfield 140, 3) := by decide +kernel
theorem dX3_payWin_74 : decode cX3_payWin 74 = .ok (.aload_n 0, 1) := by decide +kernel
theorem dX3_payWin_75 : decode cX3_payWin 75 = .ok (.getfield 11, 3) := by decide +kernel
theorem dX3_payWin_78 : decode cX3_payWin 78 = .ok (.iload_n 1, 1) := by decide +kernel
theorem dX3_payWin_79 : decode cX3_payWin 79 = .ok (.aaload, 1) := by decide +kernel
theorem dX3_payWin_80 : decode cX3_payWin 80 = .ok (.dup, 1) := by decide +kernel
theorem dX3_payWin_81 : decode cX3_payWin 81 = .ok (.getfield 140, 3) := by decide +kernel
theorem dX3_payWin_84 : decode cX3_payWin 84 = .ok (.bipush 12, 2) := by decide +kernel
theorem dX3_payWin_86 : decode cX3_payWin 86 = .ok (.iload_n 3, 1) := by decide +kernel
theorem dX3_payWin_87 : decode cX3_payWin 87 = .ok (.imul, 1) := by decide +kernel
theorem dX3_payWin_88 : decode cX3_payWin 88 = .ok (.iadd, 1) := by decide +kernel
theorem dX3_payWin_89 : decode cX3_payWin 89 = .ok (.putfield 140, 3) := by decide +kernel
theorem dX3_payWin_92 : decode cX3_payWin 92 = .ok (.aload_n 0, 1) := by decide +kernel
theorem dX3_payWin_93 : decode cX3_payWin 93 = .ok (.getfield 11, 3) := by decide +kernel
theorem dX3_payWin_96 : decode cX3_payWin 96 = .ok (.iload_n 1, 1) := by decide +kernel
theorem dX3_payWin_97 : decode cX3_payWin 97 = .ok (.aaload, 1) := by decide +kernel
theorem dX3_payWin_98 : decode cX3_payWin 98 = .ok (.dup, 1) := by decide +kernel
theorem dX3_payWin_99 : decode cX3_payWin 99 = .ok (.getfield 140, 3) := by decide +kernel
theorem dX3_payWin_102 : decode cX3_payWin 102 = .ok (.aload_n 0, 1) := by decide +kernel
theorem dX3_payWin_103 : decode cX3_payWin 103 = .ok (.getfield 54, 3) := by decide +kernel
theorem dX3_payWin_106 : decode cX3_payWin 106 = .ok (.iadd, 1) := by decide +kernel
theorem dX3_payWin_107 : decode cX3_payWin 107 = .ok (.putfield 140, 3) := by decide +kernel
theorem dX3_payWin_110 : decode cX3_payWin 110 = .ok (.aload_n 0, 1) := by decide +kernel
theorem dX3_payWin_111 : decode cX3_payWin 111 = .ok (.iconst 0, 1) := by decide +kernel
theorem dX3_payWin_112 : decode cX3_payWin 112 = .ok (.putfield 54, 3) := by decide +kernel
theorem dX3_payWin_115 : decode cX3_payWin 115 = .ok (.return_, 1) := by decide +kernel
def f_X3_payWin_92 (a0 : Nat) (i1 : Int32) (M : zM) : Option (Unit × zM) :=
  (gR 9 0 M a0).bind fun v1 =>
  (lQ 1 M v1 i1).bind fun v2 =>
  (gI 7 7 M v2).bind fun v3 =>
  (gI 9 11 M a0).bind fun v4 =>
  (pI 7 7 M v2 ((v3 + v4))).bind fun M5 =>
  (pI 9 11 M5 a0 ((0 : Int32))).bind fun M6 =>
  some ((), M6)
set_option maxRecDepth 20000 in
set_option maxHeartbeats 4000000 in
theorem s_X3_payWin_92 {L : zL} {X : zX} {M0 : zM} {N : Nat × Nat} {Q : State → Prop} {r : Unit × zM} (hq : vQ L X M0 N Q none r.2) {a0 : Nat} {i1 : Int32} {M : zM} (h : f_X3_payWin_92 a0 i1 M = some r) : V L X yX3_payWin cX3_payWin 5 (none : Option FieldType) 2 M0 N Q M 92 [(0, .ref (zad L (a0))), (1, .int (i1))] [] := by
  unfold f_X3_payWin_92 at h
  refine V_aload_n dX3_payWin_92 rfl 0 rfl ?_
  replace h := ob h
  obtain ⟨v1, e_v1, h⟩ := h
  refine V_getR zf_9_0 zl_X3_11 e_v1 dX3_payWin_93 ?_
  refine V_pc (pc' := 96) rfl ?_
  refine V_iload_n dX3_payWin_96 rfl 1 rfl ?_
  replace h := ob h
  obtain ⟨v2, e_v2, h⟩ := h
  refine V_aald (by decide) e_v2 dX3_payWin_97 ?_
  refine V_pc (pc' := 98) rfl ?_
  refine V_dup dX3_payWin_98 rfl ?_
  replace h := ob h
  obtain ⟨v3, e_v3, h⟩ := h
  refine V_getI zf_7_7 zl_X3_140 e_v3 dX3_payWin_99 ?_
  refine V_pc (pc' := 102) rfl ?_
  refine V_aload_n dX3_payWin_102 rfl 0 rfl ?_
  replace h := ob h
  obtain ⟨v4, e_v4, h⟩ := h
  refine V_getI zf_9_11 zl_X3_54 e_v4 dX3_payWin_103 ?_
  refine V_pc (pc' := 106) rfl ?_
  refine V_iadd dX3_payWin_106 ?_
  replace h := ob h
  obtain ⟨M5, e_M5, h⟩ := h
  refine V_putI zf_7_7 zl_X3_140 (Or.inl rfl) rfl e_M5 dX3_payWin_107 ?_
  refine V_pc (pc' := 110) rfl ?_
  refine V_aload_n dX3_payWin_110 rfl 0 rfl ?_
  refine V_iconst (v := 0) dX3_payWin_111 (by decide) ?_
  replace h := ob h
  obtain ⟨M6, e_M6, h⟩ := h
  refine V_putI zf_9_11 zl_X3_54 (Or.inl rfl) rfl e_M6 dX3_payWin_112 ?_
  refine V_pc (pc' := 115) rfl ?_
  obtain rfl := Option.some.inj h
  exact V_vret rfl hq dX3_payWin_115
def f_X3_payWin_7 (n : Nat) (a0 : Nat) (i1 : Int32) (i3 : Int32) (i4 : Int32) (M : zM) : Option (Unit × zM) := match n with
  | 0 => none
  | n + 1 =>
    if ((4 : Int32)) ≤ i4 then
    (gR 9 0 M a0).bind fun v1 =>
    (lQ 1 M v1 i1).bind fun v2 =>
    (gI 7 7 M v2).bind fun v3 =>
    (pI 7 7 M v2 ((v3 + ((((16 : Int32)) * i3))))).bind fun M4 =>
    f_X3_payWin_92 a0 i1 M4
    else
    (gR 9 0 M a0).bind fun v5 =>
    (lQ 1 M v5 i4).bind fun v6 =>
    (gI 7 7 M v6).bind fun v7 =>
    (pI 7 7 M v6 ((v7 - ((((4 : Int32)) * i3))))).bind fun M8 =>
    f_X3_payWin_7 n a0 i1 i3 ((i4 + (1 : Int32))) M8
set_option maxRecDepth 20000 in
set_option maxHeartbeats 4000000 in
theorem s_X3_payWin_7 {L : zL} {X : zX} {M0 : zM} {N : Nat × Nat} {Q : State → Prop} {r : Unit × zM} (hq : vQ L X M0 N Q none r.2) {n : Nat} {a0 : Nat} {i1 : Int32} {i3 : Int32} {i4 : Int32} {M : zM} : f_X3_payWin_7 n a0 i1 i3 i4 M = some r → V L X yX3_payWin cX3_payWin 5 (none : Option FieldType) 2 M0 N Q M 7 [(0, .ref (zad L (a0))), (1, .int (i1)), (3, .int (i3)), (4, .int (i4))] [] := by
  induction n generalizing a0 i1 i3 i4 M with
  | zero =>
    intro h
    rw [f_X3_payWin_7] at h
    cases h
  | succ n ih0 =>
    intro h
    have ih : ∀ (a0 : Nat) (i1 : Int32) (i3 : Int32) (i4 : Int32) (M : zM), f_X3_payWin_7 n a0 i1 i3 i4 M = some r → V L X yX3_payWin cX3_payWin 5 (none : Option FieldType) 2 M0 N Q M 7 [(0, .ref (zad L (a0))), (1, .int (i1)), (3, .int (i3)), (4, .int (i4))] [] := fun a0 i1 i3 i4 M h => ih0 h
    rw [f_X3_payWin_7] at h
    refine V_iload dX3_payWin_7 3 rfl ?_
    refine V_iconst (v := 4) dX3_payWin_9 (by decide) ?_
    refine V_icmp_ge (tgt := 37) dX3_payWin_10 (by decide) (fun c9 => ?_) (fun c9 => ?_)
    · replace h := (oi h).1 c9
      refine V_aload_n dX3_payWin_37 rfl 0 rfl ?_
      replace h := ob h
      obtain ⟨v1, e_v1, h⟩ := h
      refine V_getR zf_9_0 zl_X3_11 e_v1 dX3_payWin_38 ?_
      refine V_pc (pc' := 41) rfl ?_
      refine V_iload_n dX3_payWin_41 rfl 1 rfl ?_
      replace h := ob h
      obtain ⟨v2, e_v2, h⟩ := h
      refine V_aald (by decide) e_v2 dX3_payWin_42 ?_
      refine V_pc (pc' := 43) rfl ?_
      refine V_dup dX3_payWin_43 rfl ?_
      replace h := ob h
      obtain ⟨v3, e_v3, h⟩ := h
      refine V_getI zf_7_7 zl_X3_140 e_v3 dX3_payWin_44 ?_
      refine V_pc (pc' := 47) rfl ?_
      refine V_bipush (v := 16) dX3_payWin_47 (by decide) ?_
      refine V_iload_n dX3_payWin_49 rfl 2 rfl ?_
      refine V_imul dX3_payWin_50 ?_
      refine V_iadd dX3_payWin_51 ?_
      replace h := ob h
      obtain ⟨M4, e_M4, h⟩ := h
      refine V_putI zf_7_7 zl_X3_140 (Or.inl rfl) rfl e_M4 dX3_payWin_52 ?_
      refine V_pc (pc' := 55) rfl ?_
      refine V_goto (tgt := 92) dX3_payWin_55 (by decide) ?_
      refine V_sub [0, 1] rfl ?_
      exact s_X3_payWin_92 hq h
    · replace h := (oi h).2 c9
      refine V_aload_n dX3_payWin_13 rfl 0 rfl ?_
      replace h := ob h
      obtain ⟨v5, e_v5, h⟩ := h
      refine V_getR zf_9_0 zl_X3_11 e_v5 dX3_payWin_14 ?_
      refine V_pc (pc' := 17) rfl ?_
      refine V_iload dX3_payWin_17 3 rfl ?_
      replace h := ob h
      obtain ⟨v6, e_v6, h⟩ := h
      refine V_aald (by decide) e_v6 dX3_payWin_19 ?_
      refine V_pc (pc' := 20) rfl ?_
      refine V_dup dX3_payWin_20 rfl ?_
      replace h := ob h
      obtain ⟨v7, e_v7, h⟩ := h
      refine V_getI zf_7_7 zl_X3_140 e_v7 dX3_payWin_21 ?_
      refine V_pc (pc' := 24) rfl ?_
      refine V_iconst (v := 4) dX3_payWin_24 (by decide) ?_
      refine V_iload_n dX3_payWin_25 rfl 2 rfl ?_
      refine V_imul dX3_payWin_26 ?_
      refine V_isub dX3_payWin_27 ?_
      replace h := ob h
      obtain ⟨M8, e_M8, h⟩ := h
      refine V_putI zf_7_7 zl_X3_140 (Or.inl rfl) rfl e_M8 dX3_payWin_28 ?_
      refine V_pc (pc' := 31) rfl ?_
      refine V_iinc (v := i4 + (1 : Int32)) (ls' := [(4, .int ((i4 + (1 : Int32)))), (0, .ref (zad L (a0))), (1, .int (i1)), (3, .int (i3))]) dX3_payWin_31 3 rfl (by rfl) (by decide) rfl ?_
      refine V_goto (tgt := 7) dX3_payWin_34 (by decide) ?_
      refine V_sub [1, 2, 3, 0] rfl ?_
      exact ih _ _ _ _ _ h
def f_X3_payWin_0 (a0 : Nat) (i1 : Int32) (i2 : Int32) (i3 : Int32) (M : zM) : Option (Unit × zM) :=
  if i2 = 0 then
  if mK M a0 = 9 then
  (f_X3_seatInTurn a0 M).bind fun r1 =>
  (gI 7 7 r1.2 r1.1).bind fun v3 =>
  (pI 7 7 r1.2 r1.1 ((v3 - ((((12 : Int32)) * i3))))).bind fun M4 =>
  (gR 9 0 M4 a0).bind fun v5 =>
  (lQ 1 M4 v5 i1).bind fun v6 =>
  (gI 7 7 M4 v6).bind fun v7 =>
  (pI 7 7 M4 v6 ((v7 + ((((12 : Int32)) * i3))))).bind fun M8 =>
  f_X3_payWin_92 a0 i1 M8
  else none
  else
  f_X3_payWin_7 zN a0 i1 i3 ((0 : Int32)) M
set_option maxRecDepth 20000 in
set_option maxHeartbeats 4000000 in
theorem s_X3_payWin_0 {L : zL} {X : zX} {M0 : zM} {N : Nat × Nat} {Q : State → Prop} {r : Unit × zM} (hq : vQ L X M0 N Q none r.2) {a0 : Nat} {i1 : Int32} {i2 : Int32} {i3 : Int32} {M : zM} (h : f_X3_payWin_0 a0 i1 i2 i3 M = some r) : V L X yX3_payWin cX3_payWin 5 (none : Option FieldType) 2 M0 N Q M 0 [(0, .ref (zad L (a0))), (1, .int (i1)), (2, .int (i2)), (3, .int (i3))] [] := by
  unfold f_X3_payWin_0 at h
  refine V_iload_n dX3_payWin_0 rfl 2 rfl ?_
  refine V_if_eq (tgt := 58) dX3_payWin_1 (by decide) (fun c9 => ?_) (fun c9 => ?_)
  · replace h := (oi h).1 c9
    refine V_aload_n dX3_payWin_58 rfl 0 rfl ?_
    replace h := ox h
    obtain ⟨c2, h⟩ := h
    replace h := ob h
    obtain ⟨r1, e_r1, h⟩ := h
    refine V_callV_A (As := []) (rest := []) (c_X3_seatInTurn e_r1) zc_X3_seatInTurn rfl (by decide) rfl (by decide) (Or.inl c2) zm_X3_108 (Nat.le_of_ble_eq_true rfl) rfl dX3_payWin_59 ?_
    refine V_pc (pc' := 62) rfl ?_
    refine V_dup dX3_payWin_62 rfl ?_
    replace h := ob h
    obtain ⟨v3, e_v3, h⟩ := h
    refine V_getI zf_7_7 zl_X3_140 e_v3 dX3_payWin_63 ?_
    refine V_pc (pc' := 66) rfl ?_
    refine V_bipush (v := 12) dX3_payWin_66 (by decide) ?_
    refine V_iload_n dX3_payWin_68 rfl 3 rfl ?_
    refine V_imul dX3_payWin_69 ?_
    refine V_isub dX3_payWin_70 ?_
    replace h := ob h
    obtain ⟨M4, e_M4, h⟩ := h
    refine V_putI zf_7_7 zl_X3_140 (Or.inl rfl) rfl e_M4 dX3_payWin_71 ?_
    refine V_pc (pc' := 74) rfl ?_
    refine V_aload_n dX3_payWin_74 rfl 0 rfl ?_
    replace h := ob h
    obtain ⟨v5, e_v5, h⟩ := h
    refine V_getR zf_9_0 zl_X3_11 e_v5 dX3_payWin_75 ?_
    refine V_pc (pc' := 78) rfl ?_
    refine V_iload_n dX3_payWin_78 rfl 1 rfl ?_
    replace h := ob h
    obtain ⟨v6, e_v6, h⟩ := h
    refine V_aald (by decide) e_v6 dX3_payWin_79 ?_
    refine V_pc (pc' := 80) rfl ?_
    refine V_dup dX3_payWin_80 rfl ?_
    replace h := ob h
    obtain ⟨v7, e_v7, h⟩ := h
    refine V_getI zf_7_7 zl_X3_140 e_v7 dX3_payWin_81 ?_
    refine V_pc (pc' := 84) rfl ?_
    refine V_bipush (v := 12) dX3_payWin_84 (by decide) ?_
    refine V_iload_n dX3_payWin_86 rfl 3 rfl ?_
    refine V_imul dX3_payWin_87 ?_
    refine V_iadd dX3_payWin_88 ?_
    replace h := ob h
    obtain ⟨M8, e_M8, h⟩ := h
    refine V_putI zf_7_7 zl_X3_140 (Or.inl rfl) rfl e_M8 dX3_payWin_89 ?_
    refine V_pc (pc' := 92) rfl ?_
    refine V_sub [0, 1] rfl ?_
    exact s_X3_payWin_92 hq h
  · replace h := (oi h).2 c9
    refine V_iconst (v := 0) dX3_payWin_4 (by decide) ?_
    refine V_istore (ls' := [(4, .int ((0 : Int32))), (0, .ref (zad L (a0))), (1, .int (i1)), (2, .int (i2)), (3, .int (i3))]) dX3_payWin_5 (by decide) rfl ?_
    refine V_sub [1, 2, 4, 0] rfl ?_
    exact s_X3_payWin_7 hq h
def f_X3_payWin (a0 : Nat) (i1 : Int32) (i2 : Int32) (i3 : Int32) (M : zM) : Option (Unit × zM) := f_X3_payWin_0 a0 i1 i2 i3 M
theorem c_X3_payWin {L : zL} {l : Launch} {a0 : Nat} {i1 : Int32} {i2 : Int32} {i3 : Int32} {M : zM} {r : Unit × zM} (h : f_X3_payWin a0 i1 i2 i3 M = some r) : CP L l yX3_payWin cX3_payWin 5 (none : Option FieldType) 2 M [.ref (zad L (a0)), .int (i1), .int (i2), .int (i3)] none r.2 :=
  CP.of ⟨by decide +kernel, by decide +kernel⟩ (Nat.le_of_ble_eq_true rfl) fun X Q hq => s_X3_payWin_0 hq h
/-! Windsparlour.windOf(I)I -/
theorem dX3_windOf_0 : decode cX3_windOf 0 = .ok (.aload_n 0, 1) := by decide +kernel
theorem dX3_windOf_1 : decode cX3_windOf 1 = .ok (.getfield 48, 3) := by decide +kernel
theorem dX3_windOf_4 : decode cX3_windOf 4 = .ok (.iconst (-1), 1) := by decide +kernel
theorem dX3_windOf_5 : decode cX3_windOf 5 = .ok (.if_icmp .ne 7, 3) := by decide +kernel
theorem dX3_windOf_8 : decode cX3_windOf 8 = .ok (.iconst (-1), 1) := by decide +kernel
theorem dX3_windOf_9 : decode cX3_windOf 9 = .ok (.goto 13, 3) := by decide +kernel
theorem dX3_windOf_12 : decode cX3_windOf 12 = .ok (.iload_n 1, 1) := by decide +kernel
theorem dX3_windOf_13 : decode cX3_windOf 13 = .ok (.aload_n 0, 1) := by decide +kernel
theorem dX3_windOf_14 : decode cX3_windOf 14 = .ok (.getfield 48, 3) := by decide +kernel
theorem dX3_windOf_17 : decode cX3_windOf 17 = .ok (.isub, 1) := by decide +kernel
theorem dX3_windOf_18 : decode cX3_windOf 18 = .ok (.iconst 4, 1) := by decide +kernel
theorem dX3_windOf_19 : decode cX3_windOf 19 = .ok (.iadd, 1) := by decide +kernel
theorem dX3_windOf_20 : decode cX3_windOf 20 = .ok (.iconst 4, 1) := by decide +kernel
theorem dX3_windOf_21 : decode cX3_windOf 21 = .ok (.irem, 1) := by decide +kernel
theorem dX3_windOf_22 : decode cX3_windOf 22 = .ok (.ireturn, 1) := by decide +kernel
def f_X3_windOf_0 (a0 : Nat) (i1 : Int32) (M : zM) : Option (Int32 × zM) :=
  (gI 9 9 M a0).bind fun v1 =>
  if v1 = ((-1 : Int32)) then
  some ((-1 : Int32), M)
  else
  (gI 9 9 M a0).bind fun v2 =>
  some ((zmd ((((i1 - v2)) + ((4 : Int32)))) ((4 : Int32))), M)
set_option maxRecDepth 20000 in
set_option maxHeartbeats 4000000 in
theorem s_X3_windOf_0 {L : zL} {X : zX} {M0 : zM} {N : Nat × Nat} {Q : State → Prop} {r : Int32 × zM} (hq : vQ L X M0 N Q (some (.int r.1)) r.2) {a0 : Nat} {i1 : Int32} {M : zM} (h : f_X3_windOf_0 a0 i1 M = some r) : V L X yX3_windOf cX3_windOf 2 (some FieldType.int) 1 M0 N Q M 0 [(0, .ref (zad L (a0))), (1, .int (i1))] [] := by
  unfold f_X3_windOf_0 at h
  refine V_aload_n dX3_windOf_0 rfl 0 rfl ?_
  replace h := ob h
  obtain ⟨v1, e_v1, h⟩ := h
  refine V_getI zf_9_9 zl_X3_48 e_v1 dX3_windOf_1 ?_
  refine V_pc (pc' := 4) rfl ?_
  refine V_iconst (v := -1) dX3_windOf_4 (by decide) ?_
  refine V_icmp_ne (tgt := 12) dX3_windOf_5 (by decide) (fun c3 => ?_) (fun c3 => ?_)
  · replace h := (oi h).2 c3
    refine V_iload_n dX3_windOf_12 rfl 1 rfl ?_
    refine V_aload_n dX3_windOf_13 rfl 0 rfl ?_
    replace h := ob h
    obtain ⟨v2, e_v2, h⟩ := h
    refine V_getI zf_9_9 zl_X3_48 e_v2 dX3_windOf_14 ?_
    refine V_pc (pc' := 17) rfl ?_
    refine V_isub dX3_windOf_17 ?_
    refine V_iconst (v := 4) dX3_windOf_18 (by decide) ?_
    refine V_iadd dX3_windOf_19 ?_
    refine V_iconst (v := 4) dX3_windOf_20 (by decide) ?_
    refine V_irem dX3_windOf_21 (by decide) ?_
    obtain rfl := Option.some.inj h
    exact V_iret rfl hq dX3_windOf_22
  · replace h := (oi h).1 c3
    refine V_iconst (v := -1) dX3_windOf_8 (by decide) ?_
    refine V_goto (tgt := 22) dX3_windOf_9 (by decide) ?_
    obtain rfl := Option.some.inj h
    exact V_iret rfl hq dX3_windOf_22
def f_X3_windOf (a0 : Nat) (i1 : Int32) (M : zM) : Option (Int32 × zM) := f_X3_windOf_0 a0 i1 M
theorem c_X3_windOf {L : zL} {l : Launch} {a0 : Nat} {i1 : Int32} {M : zM} {r : Int32 × zM} (h : f_X3_windOf a0 i1 M = some r) : CP L l yX3_windOf cX3_windOf 2 (some FieldType.int) 1 M [.ref (zad L (a0)), .int (i1)] (some (.int r.1)) r.2 :=
  CP.of ⟨by decide +kernel, by decide +kernel⟩ (Nat.le_of_ble_eq_true rfl) fun X Q hq => s_X3_windOf_0 hq h
/-! Windsparlour.winsAlone(I)Z -/
theorem dX3_winsAlone_0 : decode cX3_winsAlone 0 = .ok (.aload_n 0, 1) := by decide +kernel
theorem dX3_winsAlone_1 : decode cX3_winsAlone 1 = .ok (.getfield 11, 3) := by decide +kernel
theorem dX3_winsAlone_4 : decode cX3_winsAlone 4 = .ok (.iload_n 1, 1) := by decide +kernel
theorem dX3_winsAlone_5 : decode cX3_winsAlone 5 = .ok (.aaload, 1) := by decide +kernel
theorem dX3_winsAlone_6 : decode cX3_winsAlone 6 = .ok (.astore_n 2, 1) := by decide +kernel
theorem dX3_winsAlone_7 : decode cX3_winsAlone 7 = .ok (.iload_n 1, 1) := by decide +kernel
theorem dX3_winsAlone_8 : decode cX3_winsAlone 8 = .ok (.aload_n 0, 1) := by decide +kernel
theorem dX3_winsAlone_9 : decode cX3_winsAlone 9 = .ok (.getfield 45, 3) := by decide +kernel
theorem dX3_winsAlone_12 : decode cX3_winsAlone 12 = .ok (.if_icmp .ne 37, 3) := by decide +kernel
theorem dX3_winsAlone_15 : decode cX3_winsAlone 15 = .ok (.aload_n 0, 1) := by decide +kernel
theorem dX3_winsAlone_16 : decode cX3_winsAlone 16 = .ok (.getfield 66, 3) := by decide +kernel
theorem dX3_winsAlone_19 : decode cX3_winsAlone 19 = .ok (.ifCond .eq 30, 3) := by decide +kernel
theorem dX3_winsAlone_22 : decode cX3_winsAlone 22 = .ok (.aload_n 2, 1) := by decide +kernel
theorem dX3_winsAlone_23 : decode cX3_winsAlone 23 = .ok (.invokevirtual 267, 3) := by decide +kernel
theorem dX3_winsAlone_26 : decode cX3_winsAlone 26 = .ok (.bipush 11, 2) := by decide +kernel
theorem dX3_winsAlone_28 : decode cX3_winsAlone 28 = .ok (.if_icmp .ne 21, 3) := by decide +kernel
theorem dX3_winsAlone_31 : decode cX3_winsAlone 31 = .ok (.aload_n 0, 1) := by decide +kernel
theorem dX3_winsAlone_32 : decode cX3_winsAlone 32 = .ok (.getfield 18, 3) := by decide +kernel
theorem dX3_winsAlone_35 : decode cX3_winsAlone 35 = .ok (.aload_n 2, 1) := by decide +kernel
theorem dX3_winsAlone_36 : decode cX3_winsAlone 36 = .ok (.getfield 201, 3) := by decide +kernel
theorem dX3_winsAlone_39 : decode cX3_winsAlone 39 = .ok (.invokevirtual 306, 3) := by decide +kernel
theorem dX3_winsAlone_42 : decode cX3_winsAlone 42 = .ok (.ifCond .eq 7, 3) := by decide +kernel
theorem dX3_winsAlone_45 : decode cX3_winsAlone 45 = .ok (.iconst 1, 1) := by decide +kernel
theorem dX3_winsAlone_46 : decode cX3_winsAlone 46 = .ok (.goto 4, 3) := by decide +kernel
theorem dX3_winsAlone_49 : decode cX3_winsAlone 49 = .ok (.iconst 0, 1) := by decide +kernel
theorem dX3_winsAlone_50 : decode cX3_winsAlone 50 = .ok (.ireturn, 1) := by decide +kernel
def f_X3_winsAlone_0 (a0 : Nat) (i1 : Int32) (M : zM) : Option (Int32 × zM) :=
  (gR 9 0 M a0).bind fun v1 =>
  (lQ 1 M v1 i1).bind fun v2 =>
  (gI 9 8 M a0).bind fun v3 =>
  if i1 = v3 then
  (gI 9 15 M a0).bind fun v4 =>
  if v4 = 0 then
  some ((0 : Int32), M)
  else
  if mK M v2 = 7 then
  (f_X1_size v2 M).bind fun r5 =>
  if r5.1 = ((11 : Int32)) then
  (gR 9 1 r5.2 a0).bind fun v7 =>
  (gR 7 0 r5.2 v2).bind fun v8 =>
  if mK r5.2 v7 = 6 then
  (f_X0_complete v7 v8 r5.2).bind fun r9 =>
  if r9.1 = 0 then
  some ((0 : Int32), r9.2)
  else
  some ((1 : Int32), r9.2)
  else none
  else
  some ((0 : Int32), r5.2)
  else none
  else
  some ((0 : Int32), M)
set_option maxRecDepth 20000 in
set_option maxHeartbeats 4000000 in
theorem s_X3_winsAlone_0 {L : zL} {X : zX} {M0 : zM} {N : Nat × Nat} {Q : State → Prop} {r : Int32 × zM} (hq : vQ L X M0 N Q (some (.int r.1)) r.2) {a0 : Nat} {i1 : Int32} {M : zM} (h : f_X3_winsAlone_0 a0 i1 M = some r) : V L X yX3_winsAlone cX3_winsAlone 3 (some FieldType.boolean) 4 M0 N Q M 0 [(0, .ref (zad L (a0))), (1, .int (i1))] [] := by
  unfold f_X3_winsAlone_0 at h
  refine V_aload_n dX3_winsAlone_0 rfl 0 rfl ?_
  replace h := ob h
  obtain ⟨v1, e_v1, h⟩ := h
  refine V_getR zf_9_0 zl_X3_11 e_v1 dX3_winsAlone_1 ?_
  refine V_pc (pc' := 4) rfl ?_
  refine V_iload_n dX3_winsAlone_4 rfl 1 rfl ?_
  replace h := ob h
  obtain ⟨v2, e_v2, h⟩ := h
  refine V_aald (by decide) e_v2 dX3_winsAlone_5 ?_
  refine V_pc (pc' := 6) rfl ?_
  refine V_astore_n (ls' := [(2, .ref (zad L (v2))), (0, .ref (zad L (a0))), (1, .int (i1))]) dX3_winsAlone_6 rfl (by decide) rfl ?_
  refine V_iload_n dX3_winsAlone_7 rfl 2 rfl ?_
  refine V_aload_n dX3_winsAlone_8 rfl 1 rfl ?_
  replace h := ob h
  obtain ⟨v3, e_v3, h⟩ := h
  refine V_getI zf_9_8 zl_X3_45 e_v3 dX3_winsAlone_9 ?_
  refine V_pc (pc' := 12) rfl ?_
  refine V_icmp_ne (tgt := 49) dX3_winsAlone_12 (by decide) (fun c14 => ?_) (fun c14 => ?_)
  · replace h := (oi h).2 c14
    refine V_iconst (v := 0) dX3_winsAlone_49 (by decide) ?_
    obtain rfl := Option.some.inj h
    exact V_zret (ty := .boolean) rfl rfl hq dX3_winsAlone_50
  · replace h := (oi h).1 c14
    refine V_aload_n dX3_winsAlone_15 rfl 1 rfl ?_
    replace h := ob h
    obtain ⟨v4, e_v4, h⟩ := h
    refine V_getI zf_9_15 zl_X3_66 e_v4 dX3_winsAlone_16 ?_
    refine V_pc (pc' := 19) rfl ?_
    refine V_if_eq (tgt := 49) dX3_winsAlone_19 (by decide) (fun c13 => ?_) (fun c13 => ?_)
    · replace h := (oi h).1 c13
      refine V_iconst (v := 0) dX3_winsAlone_49 (by decide) ?_
      obtain rfl := Option.some.inj h
      exact V_zret (ty := .boolean) rfl rfl hq dX3_winsAlone_50
    · replace h := (oi h).2 c13
      refine V_aload_n dX3_winsAlone_22 rfl 0 rfl ?_
      replace h := ox h
      obtain ⟨c6, h⟩ := h
      replace h := ob h
      obtain ⟨r5, e_r5, h⟩ := h
      refine V_callV_I (As := []) (rest := []) (c_X1_size e_r5) zc_X1_size rfl (by decide) rfl (by decide) (Or.inl c6) zm_X3_267 (Nat.le_of_ble_eq_true rfl) rfl dX3_winsAlone_23 ?_
      refine V_pc (pc' := 26) rfl ?_
      refine V_bipush (v := 11) dX3_winsAlone_26 (by decide) ?_
      refine V_icmp_ne (tgt := 49) dX3_winsAlone_28 (by decide) (fun c12 => ?_) (fun c12 => ?_)
      · replace h := (oi h).2 c12
        refine V_iconst (v := 0) dX3_winsAlone_49 (by decide) ?_
        obtain rfl := Option.some.inj h
        exact V_zret (ty := .boolean) rfl rfl hq dX3_winsAlone_50
      · replace h := (oi h).1 c12
        refine V_aload_n dX3_winsAlone_31 rfl 1 rfl ?_
        replace h := ob h
        obtain ⟨v7, e_v7, h⟩ := h
        refine V_getR zf_9_1 zl_X3_18 e_v7 dX3_winsAlone_32 ?_
        refine V_pc (pc' := 35) rfl ?_
        refine V_aload_n dX3_winsAlone_35 rfl 0 rfl ?_
        replace h := ob h
        obtain ⟨v8, e_v8, h⟩ := h
        refine V_getR zf_7_0 zl_X3_201 e_v8 dX3_winsAlone_36 ?_
        refine V_pc (pc' := 39) rfl ?_
        replace h := ox h
        obtain ⟨c10, h⟩ := h
        replace h := ob h
        obtain ⟨r9, e_r9, h⟩ := h
        refine V_callV_I (As := [.ref (zad L (v8))]) (rest := []) (c_X0_complete e_r9) zc_X0_complete rfl (by decide) rfl (by decide) (Or.inl c10) zm_X3_306 (Nat.le_of_ble_eq_true rfl) rfl dX3_winsAlone_39 ?_
        refine V_pc (pc' := 42) rfl ?_
        refine V_if_eq (tgt := 49) dX3_winsAlone_42 (by decide) (fun c11 => ?_) (fun c11 => ?_)
        · replace h := (oi h).1 c11
          refine V_iconst (v := 0) dX3_winsAlone_49 (by decide) ?_
          obtain rfl := Option.some.inj h
          exact V_zret (ty := .boolean) rfl rfl hq dX3_winsAlone_50
        · replace h := (oi h).2 c11
          refine V_iconst (v := 1) dX3_winsAlone_45 (by decide) ?_
          refine V_goto (tgt := 50) dX3_winsAlone_46 (by decide) ?_
          obtain rfl := Option.some.inj h
          exact V_zret (ty := .boolean) rfl rfl hq dX3_winsAlone_50
def f_X3_winsAlone (a0 : Nat) (i1 : Int32) (M : zM) : Option (Int32 × zM) := f_X3_winsAlone_0 a0 i1 M
theorem c_X3_winsAlone {L : zL} {l : Launch} {a0 : Nat} {i1 : Int32} {M : zM} {r : Int32 × zM} (h : f_X3_winsAlone a0 i1 M = some r) : CP L l yX3_winsAlone cX3_winsAlone 3 (some FieldType.boolean) 4 M [.ref (zad L (a0)), .int (i1)] (some (.int r.1)) r.2 :=
  CP.of ⟨by decide +kernel, by decide +kernel⟩ (Nat.le_of_ble_eq_true rfl) fun X Q hq => s_X3_winsAlone_0 hq h
/-! Windsparlour.winsByDiscard(I)Z -/
theorem dX3_winsByDiscard_0 : decode cX3_winsByDiscard 0 = .ok (.aload_n 0, 1) := by decide +kernel
theorem dX3_winsByDiscard_1 : decode cX3_winsByDiscard 1 = .ok (.getfield 42, 3) := by decide +kernel
theorem dX3_winsByDiscard_4 : decode cX3_winsByDiscard 4 = .ok (.iconst 2, 1) := by decide +kernel
theorem dX3_winsByDiscard_5 : decode cX3_winsByDiscard 5 = .ok (.if_icmp .ne 11, 3) := by decide +kernel
theorem dX3_winsByDiscard_8 : decode cX3_winsByDiscard 8 = .ok (.iload_n 1, 1) := by decide +kernel
theorem dX3_winsByDiscard_9 : decode cX3_winsByDiscard 9 = .ok (.aload_n 0, 1) := by decide +kernel
theorem dX3_winsByDiscard_10 : decode cX3_winsByDiscard 10 = .ok (.getfield 45, 3) := by decide +kernel
theorem dX3_winsByDiscard_13 : decode cX3_winsByDiscard 13 = .ok (.if_icmp .ne 5, 3) := by decide +kernel
theorem dX3_winsByDiscard_16 : decode cX3_winsByDiscard 16 = .ok (.iconst 0, 1) := by decide +kernel
theorem dX3_winsByDiscard_17 : decode cX3_winsByDiscard 17 = .ok (.ireturn, 1) := by decide +kernel
theorem dX3_winsByDiscard_18 : decode cX3_winsByDiscard 18 = .ok (.aload_n 0, 1) := by decide +kernel
theorem dX3_winsByDiscard_19 : decode cX3_winsByDiscard 19 = .ok (.getfield 11, 3) := by decide +kernel
theorem dX3_winsByDiscard_22 : decode cX3_winsByDiscard 22 = .ok (.iload_n 1, 1) := by decide +kernel
theorem dX3_winsByDiscard_23 : decode cX3_winsByDiscard 23 = .ok (.aaload, 1) := by decide +kernel
theorem dX3_winsByDiscard_24 : decode cX3_winsByDiscard 24 = .ok (.astore_n 2, 1) := by decide +kernel
theorem dX3_winsByDiscard_25 : decode cX3_winsByDiscard 25 = .ok (.aload_n 0, 1) := by decide +kernel
theorem dX3_winsByDiscard_26 : decode cX3_winsByDiscard 26 = .ok (.aload_n 2, 1) := by decide +kernel
theorem dX3_winsByDiscard_27 : decode cX3_winsByDiscard 27 = .ok (.invokevirtual 209, 3) := by decide +kernel
theorem dX3_winsByDiscard_30 : decode cX3_winsByDiscard 30 = .ok (.lstore_n 3, 1) := by decide +kernel
theorem dX3_winsByDiscard_31 : decode cX3_winsByDiscard 31 = .ok (.aload_n 0, 1) := by decide +kernel
theorem dX3_winsByDiscard_32 : decode cX3_winsByDiscard 32 = .ok (.invokevirtual 108, 3) := by decide +kernel
theorem dX3_winsByDiscard_35 : decode cX3_winsByDiscard 35 = .ok (.invokevirtual 253, 3) := by decide +kernel
theorem dX3_winsByDiscard_38 : decode cX3_winsByDiscard 38 = .ok (.istore 5, 2) := by decide +kernel
theorem dX3_winsByDiscard_40 : decode cX3_winsByDiscard 40 = .ok (.iload 5, 2) := by decide +kernel
theorem dX3_winsByDiscard_42 : decode cX3_winsByDiscard 42 = .ok (.ifCond .lt 29, 3) := by decide +kernel
theorem dX3_winsByDiscard_45 : decode cX3_winsByDiscard 45 = .ok (.lload_n 3, 1) := by decide +kernel
theorem dX3_winsByDiscard_46 : decode cX3_winsByDiscard 46 = .ok (.iload 5, 2) := by decide +kernel
theorem dX3_winsByDiscard_48 : decode cX3_winsByDiscard 48 = .ok (.lshr, 1) := by decide +kernel
theorem dX3_winsByDiscard_49 : decode cX3_winsByDiscard 49 = .ok (.lconst 1, 1) := by decide +kernel
theorem dX3_winsByDiscard_50 : decode cX3_winsByDiscard 50 = .ok (.land, 1) := by decide +kernel
theorem dX3_winsByDiscard_51 : decode cX3_winsByDiscard 51 = .ok (.lconst 1, 1) := by decide +kernel
theorem dX3_winsByDiscard_52 : decode cX3_winsByDiscard 52 = .ok (.lcmp, 1) := by decide +kernel
theorem dX3_winsByDiscard_53 : decode cX3_winsByDiscard 53 = .ok (.ifCond .ne 18, 3) := by decide +kernel
theorem dX3_winsByDiscard_56 : decode cX3_winsByDiscard 56 = .ok (.lload_n 3, 1) := by decide +kernel
theorem dX3_winsByDiscard_57 : decode cX3_winsByDiscard 57 = .ok (.aload_n 2, 1) := by decide +kernel
theorem dX3_winsByDiscard_58 : decode cX3_winsByDiscard 58 = .ok (.getfield 213, 3) := by decide +kernel
theorem dX3_winsByDiscard_61 : decode cX3_winsByDiscard 61 = .ok (.land, 1) := by decide +kernel
theorem dX3_winsByDiscard_62 : decode cX3_winsByDiscard 62 = .ok (.lconst 0, 1) := by decide +kernel
theorem dX3_winsByDiscard_63 : decode cX3_winsByDiscard 63 = .ok (.lcmp, 1) := by decide +kernel
theorem dX3_winsByDiscard_64 : decode cX3_winsByDiscard 64 = .ok (.ifCond .ne 7, 3) := by decide +kernel
theorem dX3_winsByDiscard_67 : decode cX3_winsByDiscard 67 = .ok (.iconst 1, 1) := by decide +kernel
theorem dX3_winsByDiscard_68 : decode cX3_winsByDiscard 68 = .ok (.goto 4, 3) := by decide +kernel
theorem dX3_winsByDiscard_71 : decode cX3_winsByDiscard 71 = .ok (.iconst 0, 1) := by decide +kernel
theorem dX3_winsByDiscard_72 : decode cX3_winsByDiscard 72 = .ok (.ireturn, 1) := by decide +kernel
def f_X3_winsByDiscard_0 (a0 : Nat) (i1 : Int32) (M : zM) : Option (Int32 × zM) :=
  (gI 9 7 M a0).bind fun v1 =>
  if v1 = ((2 : Int32)) then
  (gI 9 8 M a0).bind fun v2 =>
  if i1 = v2 then
  some ((0 : Int32), M)
  else
  (gR 9 0 M a0).bind fun v3 =>
  (lQ 1 M v3 i1).bind fun v4 =>
  if mK M a0 = 9 then
  (f_X3_waitsOf a0 v4 M).bind fun r5 =>
  if mK r5.2 a0 = 9 then
  (f_X3_seatInTurn a0 r5.2).bind fun r7 =>
  if mK r7.2 r7.1 = 7 then
  (f_X1_latestInRiver r7.1 r7.2).bind fun r9 =>
  if r9.1 < 0 then
  some ((0 : Int32), r9.2)
  else
  if ((lg_cmp ((((r5.1 >>> (r9.1.toInt64 &&& 63))) &&& ((1 : Int64)))) ((1 : Int64)))) = 0 then
  (gJ 7 3 r9.2 v4).bind fun v11 =>
  if ((lg_cmp ((r5.1 &&& v11)) ((0 : Int64)))) = 0 then
  some ((1 : Int32), r9.2)
  else
  some ((0 : Int32), r9.2)
  else
  some ((0 : Int32), r9.2)
  else none
  else none
  else none
  else
  some ((0 : Int32), M)
set_option maxRecDepth 20000 in
set_option maxHeartbeats 4000000 in
theorem s_X3_winsByDiscard_0 {L : zL} {X : zX} {M0 : zM} {N : Nat × Nat} {Q : State → Prop} {r : Int32 × zM} (hq : vQ L X M0 N Q (some (.int r.1)) r.2) {a0 : Nat} {i1 : Int32} {M : zM} (h : f_X3_winsByDiscard_0 a0 i1 M = some r) : V L X yX3_winsByDiscard cX3_winsByDiscard 6 (some FieldType.boolean) 5 M0 N Q M 0 [(0, .ref (zad L (a0))), (1, .int (i1))] [] := by
  unfold f_X3_winsByDiscard_0 at h
  refine V_aload_n dX3_winsByDiscard_0 rfl 0 rfl ?_
  replace h := ob h
  obtain ⟨v1, e_v1, h⟩ := h
  refine V_getI zf_9_7 zl_X3_42 e_v1 dX3_winsByDiscard_1 ?_
  refine V_pc (pc' := 4) rfl ?_
  refine V_iconst (v := 2) dX3_winsByDiscard_4 (by decide) ?_
  refine V_icmp_ne (tgt := 16) dX3_winsByDiscard_5 (by decide) (fun c16 => ?_) (fun c16 => ?_)
  · replace h := (oi h).2 c16
    refine V_iconst (v := 0) dX3_winsByDiscard_16 (by decide) ?_
    obtain rfl := Option.some.inj h
    exact V_zret (ty := .boolean) rfl rfl hq dX3_winsByDiscard_17
  · replace h := (oi h).1 c16
    refine V_iload_n dX3_winsByDiscard_8 rfl 1 rfl ?_
    refine V_aload_n dX3_winsByDiscard_9 rfl 0 rfl ?_
    replace h := ob h
    obtain ⟨v2, e_v2, h⟩ := h
    refine V_getI zf_9_8 zl_X3_45 e_v2 dX3_winsByDiscard_10 ?_
    refine V_pc (pc' := 13) rfl ?_
    refine V_icmp_ne (tgt := 18) dX3_winsByDiscard_13 (by decide) (fun c15 => ?_) (fun c15 => ?_)
    · replace h := (oi h).2 c15
      refine V_aload_n dX3_winsByDiscard_18 rfl 0 rfl ?_
      replace h := ob h
      obtain ⟨v3, e_v3, h⟩ := h
      refine V_getR zf_9_0 zl_X3_11 e_v3 dX3_winsByDiscard_19 ?_
      refine V_pc (pc' := 22) rfl ?_
      refine V_iload_n dX3_winsByDiscard_22 rfl 1 rfl ?_
      replace h := ob h
      obtain ⟨v4, e_v4, h⟩ := h
      refine V_aald (by decide) e_v4 dX3_winsByDiscard_23 ?_
      refine V_pc (pc' := 24) rfl ?_
      refine V_astore_n (ls' := [(2, .ref (zad L (v4))), (0, .ref (zad L (a0))), (1, .int (i1))]) dX3_winsByDiscard_24 rfl (by decide) rfl ?_
      refine V_aload_n dX3_winsByDiscard_25 rfl 1 rfl ?_
      refine V_aload_n dX3_winsByDiscard_26 rfl 0 rfl ?_
      replace h := ox h
      obtain ⟨c6, h⟩ := h
      replace h := ob h
      obtain ⟨r5, e_r5, h⟩ := h
      refine V_callV_J (As := [.ref (zad L (v4))]) (rest := []) (c_X3_waitsOf e_r5) zc_X3_waitsOf rfl (by decide) rfl (by decide) (Or.inl c6) zm_X3_209 (Nat.le_of_ble_eq_true rfl) rfl dX3_winsByDiscard_27 ?_
      refine V_pc (pc' := 30) rfl ?_
      refine V_lstore_n (ls' := [(3, .long (r5.1)), (2, .ref (zad L (v4))), (0, .ref (zad L (a0))), (1, .int (i1))]) dX3_winsByDiscard_30 rfl (by decide) rfl ?_
      refine V_aload_n dX3_winsByDiscard_31 rfl 2 rfl ?_
      replace h := ox h
      obtain ⟨c8, h⟩ := h
      replace h := ob h
      obtain ⟨r7, e_r7, h⟩ := h
      refine V_callV_A (As := []) (rest := []) (c_X3_seatInTurn e_r7) zc_X3_seatInTurn rfl (by decide) rfl (by decide) (Or.inl c8) zm_X3_108 (Nat.le_of_ble_eq_true rfl) rfl dX3_winsByDiscard_32 ?_
      refine V_pc (pc' := 35) rfl ?_
      replace h := ox h
      obtain ⟨c10, h⟩ := h
      replace h := ob h
      obtain ⟨r9, e_r9, h⟩ := h
      refine V_callV_I (As := []) (rest := []) (c_X1_latestInRiver e_r9) zc_X1_latestInRiver rfl (by decide) rfl (by decide) (Or.inl c10) zm_X3_253 (Nat.le_of_ble_eq_true rfl) rfl dX3_winsByDiscard_35 ?_
      refine V_pc (pc' := 38) rfl ?_
      refine V_istore (ls' := [(5, .int (r9.1)), (3, .long (r5.1)), (2, .ref (zad L (v4))), (0, .ref (zad L (a0))), (1, .int (i1))]) dX3_winsByDiscard_38 (by decide) rfl ?_
      refine V_iload dX3_winsByDiscard_40 0 rfl ?_
      refine V_if_lt (tgt := 71) dX3_winsByDiscard_42 (by decide) (fun c14 => ?_) (fun c14 => ?_)
      · replace h := (oi h).1 c14
        refine V_iconst (v := 0) dX3_winsByDiscard_71 (by decide) ?_
        obtain rfl := Option.some.inj h
        exact V_zret (ty := .boolean) rfl rfl hq dX3_winsByDiscard_72
      · replace h := (oi h).2 c14
        refine V_lload_n dX3_winsByDiscard_45 rfl 1 rfl ?_
        refine V_iload dX3_winsByDiscard_46 0 rfl ?_
        refine V_lshr dX3_winsByDiscard_48 ?_
        refine V_lconst (v := 1) dX3_winsByDiscard_49 (by decide) ?_
        refine V_land dX3_winsByDiscard_50 ?_
        refine V_lconst (v := 1) dX3_winsByDiscard_51 (by decide) ?_
        refine V_lcmp dX3_winsByDiscard_52 ?_
        refine V_if_ne (tgt := 71) dX3_winsByDiscard_53 (by decide) (fun c13 => ?_) (fun c13 => ?_)
        · replace h := (oi h).2 c13
          refine V_iconst (v := 0) dX3_winsByDiscard_71 (by decide) ?_
          obtain rfl := Option.some.inj h
          exact V_zret (ty := .boolean) rfl rfl hq dX3_winsByDiscard_72
        · replace h := (oi h).1 c13
          refine V_lload_n dX3_winsByDiscard_56 rfl 1 rfl ?_
          refine V_aload_n dX3_winsByDiscard_57 rfl 2 rfl ?_
          replace h := ob h
          obtain ⟨v11, e_v11, h⟩ := h
          refine V_getJ zf_7_3 zl_X3_213 e_v11 dX3_winsByDiscard_58 ?_
          refine V_pc (pc' := 61) rfl ?_
          refine V_land dX3_winsByDiscard_61 ?_
          refine V_lconst (v := 0) dX3_winsByDiscard_62 (by decide) ?_
          refine V_lcmp dX3_winsByDiscard_63 ?_
          refine V_if_ne (tgt := 71) dX3_winsByDiscard_64 (by decide) (fun c12 => ?_) (fun c12 => ?_)
          · replace h := (oi h).2 c12
            refine V_iconst (v := 0) dX3_winsByDiscard_71 (by decide) ?_
            obtain rfl := Option.some.inj h
            exact V_zret (ty := .boolean) rfl rfl hq dX3_winsByDiscard_72
          · replace h := (oi h).1 c12
            refine V_iconst (v := 1) dX3_winsByDiscard_67 (by decide) ?_
            refine V_goto (tgt := 72) dX3_winsByDiscard_68 (by decide) ?_
            obtain rfl := Option.some.inj h
            exact V_zret (ty := .boolean) rfl rfl hq dX3_winsByDiscard_72
    · replace h := (oi h).1 c15
      refine V_iconst (v := 0) dX3_winsByDiscard_16 (by decide) ?_
      obtain rfl := Option.some.inj h
      exact V_zret (ty := .boolean) rfl rfl hq dX3_winsByDiscard_17
def f_X3_winsByDiscard (a0 : Nat) (i1 : Int32) (M : zM) : Option (Int32 × zM) := f_X3_winsByDiscard_0 a0 i1 M
theorem c_X3_winsByDiscard {L : zL} {l : Launch} {a0 : Nat} {i1 : Int32} {M : zM} {r : Int32 × zM} (h : f_X3_winsByDiscard a0 i1 M = some r) : CP L l yX3_winsByDiscard cX3_winsByDiscard 6 (some FieldType.boolean) 5 M [.ref (zad L (a0)), .int (i1)] (some (.int r.1)) r.2 :=
  CP.of ⟨by decide +kernel, by decide +kernel⟩ (Nat.le_of_ble_eq_true rfl) fun X Q hq => s_X3_winsByDiscard_0 hq h
/-! Windsparlour.win(I)I -/
theorem dX3_win_0 : decode cX3_win 0 = .ok (.iload_n 1, 1) := by decide +kernel
theorem dX3_win_1 : decode cX3_win 1 = .ok (.invokestatic 143, 3) := by decide +kernel
theorem dX3_win_4 : decode cX3_win 4 = .ok (.aload_n 0, 1) := by decide +kernel
theorem dX3_win_5 : decode cX3_win 5 = .ok (.getfield 42, 3) := by decide +kernel
theorem dX3_win_8 : decode cX3_win 8 = .ok (.iconst 1, 1) := by decide +kernel
theorem dX3_win_9 : decode cX3_win 9 = .ok (.if_icmp .ne 7, 3) := by decide +kernel
theorem dX3_win_12 : decode cX3_win 12 = .ok (.iconst 1, 1) := by decide +kernel
theorem dX3_win_13 : decode cX3_win 13 = .ok (.goto 4, 3) := by decide +kernel
theorem dX3_win_16 : decode cX3_win 16 = .ok (.iconst 0, 1) := by decide +kernel
theorem dX3_win_17 : decode cX3_win 17 = .ok (.istore_n 2, 1) := by decide +kernel
theorem dX3_win_18 : decode cX3_win 18 = .ok (.iload_n 2, 1) := by decide +kernel
theorem dX3_win_19 : decode cX3_win 19 = .ok (.ifCond .eq 14, 3) := by decide +kernel
theorem dX3_win_22 : decode cX3_win 22 = .ok (.aload_n 0, 1) := by decide +kernel
theorem dX3_win_23 : decode cX3_win 23 = .ok (.iload_n 1, 1) := by decide +kernel
theorem dX3_win_24 : decode cX3_win 24 = .ok (.invokevirtual 175, 3) := by decide +kernel
theorem dX3_win_27 : decode cX3_win 27 = .ok (.ifCond .eq 14, 3) := by decide +kernel
theorem dX3_win_30 : decode cX3_win 30 = .ok (.goto 21, 3) := by decide +kernel
theorem dX3_win_33 : decode cX3_win 33 = .ok (.aload_n 0, 1) := by decide +kernel
theorem dX3_win_34 : decode cX3_win 34 = .ok (.iload_n 1, 1) := by decide +kernel
theorem dX3_win_35 : decode cX3_win 35 = .ok (.invokevirtual 179, 3) := by decide +kernel
theorem dX3_win_38 : decode cX3_win 38 = .ok (.ifCond .ne 13, 3) := by decide +kernel
theorem dX3_win_41 : decode cX3_win 41 = .ok (.new 118, 3) := by decide +kernel
theorem dX3_win_44 : decode cX3_win 44 = .ok (.dup, 1) := by decide +kernel
theorem dX3_win_45 : decode cX3_win 45 = .ok (.ldc 182, 2) := by decide +kernel
theorem dX3_win_47 : decode cX3_win 47 = .ok (.invokespecial 122, 3) := by decide +kernel
theorem dX3_win_50 : decode cX3_win 50 = .ok (.athrow, 1) := by decide +kernel
theorem dX3_win_51 : decode cX3_win 51 = .ok (.aload_n 0, 1) := by decide +kernel
theorem dX3_win_52 : decode cX3_win 52 = .ok (.getfield 11, 3) := by decide +kernel
theorem dX3_win_55 : decode cX3_win 55 = .ok (.iload_n 1, 1) := by decide +kernel
theorem dX3_win_56 : decode cX3_win 56 = .ok (.aaload, 1) := by decide +kernel
theorem dX3_win_57 : decode cX3_win 57 = .ok (.astore_n 3, 1) := by decide +kernel
theorem dX3_win_58 : decode cX3_win 58 = .ok (.iload_n 2, 1) := by decide +kernel
theorem dX3_win_59 : decode cX3_win 59 = .ok (.ifCond .ne 15, 3) := by decide +kernel
theorem dX3_win_62 : decode cX3_win 62 = .ok (.aload_n 3, 1) := by decide +kernel
theorem dX3_win_63 : decode cX3_win 63 = .ok (.aload_n 0, 1) := by decide +kernel
theorem dX3_win_64 : decode cX3_win 64 = .ok (.invokevirtual 108, 3) := by decide +kernel
theorem dX3_win_67 : decode cX3_win 67 = .ok (.invokevirtual 154, 3) := by decide +kernel
theorem dX3_win_70 : decode cX3_win 70 = .ok (.iconst 1, 1) := by decide +kernel
theorem dX3_win_71 : decode cX3_win 71 = .ok (.invokevirtual 157, 3) := by decide +kernel
theorem dX3_win_74 : decode cX3_win 74 = .ok (.aload_n 0, 1) := by decide +kernel
theorem dX3_win_75 : decode cX3_win 75 = .ok (.getfield 25, 3) := by decide +kernel
theorem dX3_win_78 : decode cX3_win 78 = .ok (.aload_n 3, 1) := by decide +kernel
theorem dX3_win_79 : decode cX3_win 79 = .ok (.iload_n 2, 1) := by decide +kernel
theorem dX3_win_80 : decode cX3_win 80 = .ok (.aload_n 0, 1) := by decide +kernel
theorem dX3_win_81 : decode cX3_win 81 = .ok (.getfield 57, 3) := by decide +kernel
theorem dX3_win_84 : decode cX3_win 84 = .ok (.aload_n 0, 1) := by decide +kernel
theorem dX3_win_85 : decode cX3_win 85 = .ok (.iload_n 1, 1) := by decide +kernel
theorem dX3_win_86 : decode cX3_win 86 = .ok (.invokevirtual 184, 3) := by decide +kernel
theorem dX3_win_89 : decode cX3_win 89 = .ok (.invokevirtual 187, 3) := by decide +kernel
theorem dX3_win_92 : decode cX3_win 92 = .ok (.istore 4, 2) := by decide +kernel
theorem dX3_win_94 : decode cX3_win 94 = .ok (.aload_n 0, 1) := by decide +kernel
theorem dX3_win_95 : decode cX3_win 95 = .ok (.iload_n 1, 1) := by decide +kernel
theorem dX3_win_96 : decode cX3_win 96 = .ok (.iload_n 2, 1) := by decide +kernel
theorem dX3_win_97 : decode cX3_win 97 = .ok (.iload 4, 2) := by decide +kernel
theorem dX3_win_99 : decode cX3_win 99 = .ok (.invokevirtual 191, 3) := by decide +kernel
theorem dX3_win_102 : decode cX3_win 102 = .ok (.aload_n 3, 1) := by decide +kernel
theorem dX3_win_103 : decode cX3_win 103 = .ok (.dup, 1) := by decide +kernel
theorem dX3_win_104 : decode cX3_win 104 = .ok (.getfield 195, 3) := by decide +kernel
theorem dX3_win_107 : decode cX3_win 107 = .ok (.iconst 1, 1) := by decide +kernel
theorem dX3_win_108 : decode cX3_win 108 = .ok (.iadd, 1) := by decide +kernel
theorem dX3_win_109 : decode cX3_win 109 = .ok (.putfield 195, 3) := by decide +kernel
theorem dX3_win_112 : decode cX3_win 112 = .ok (.aload_n 0, 1) := by decide +kernel
theorem dX3_win_113 : decode cX3_win 113 = .ok (.iload_n 1, 1) := by decide +kernel
theorem dX3_win_114 : decode cX3_win 114 = .ok (.putfield 60, 3) := by decide +kernel
theorem dX3_win_117 : decode cX3_win 117 = .ok (.aload_n 0, 1) := by decide +kernel
theorem dX3_win_118 : decode cX3_win 118 = .ok (.iconst 3, 1) := by decide +kernel
theorem dX3_win_119 : decode cX3_win 119 = .ok (.putfield 42, 3) := by decide +kernel
theorem dX3_win_122 : decode cX3_win 122 = .ok (.iload 4, 2) := by decide +kernel
theorem dX3_win_124 : decode cX3_win 124 = .ok (.ireturn, 1) := by decide +kernel
def f_X3_win_74 (a0 : Nat) (i1 : Int32) (i2 : Int32) (a3 : Nat) (M : zM) : Option ((String ⊕ Int32) × zM) :=
  (gR 9 2 M a0).bind fun v1 =>
  (gI 9 12 M a0).bind fun v2 =>
  if mK M a0 = 9 then
  (f_X3_windOf a0 i1 M).bind fun r3 =>
  if mK r3.2 v1 = 8 then
  (f_X2_value v1 a3 i2 v2 r3.1 r3.2).bind fun r5 =>
  if mK r5.2 a0 = 9 then
  (f_X3_payWin a0 i1 i2 r5.1 r5.2).bind fun r7 =>
  (gI 7 8 r7.2 a3).bind fun v9 =>
  (pI 7 8 r7.2 a3 ((v9 + ((1 : Int32))))).bind fun M10 =>
  (pI 9 13 M10 a0 i1).bind fun M11 =>
  (pI 9 7 M11 a0 ((3 : Int32))).bind fun M12 =>
  some (Sum.inr (r5.1), M12)
  else none
  else none
  else none
set_option maxRecDepth 20000 in
set_option maxHeartbeats 4000000 in
theorem s_X3_win_74 {L : zL} {X : zX} {M0 : zM} {N : Nat × Nat} {Q : State → Prop} {r : (String ⊕ Int32) × zM} (hq : vQX L X M0 N Q (zoI r.1) r.2) {a0 : Nat} {i1 : Int32} {i2 : Int32} {a3 : Nat} {M : zM} (h : f_X3_win_74 a0 i1 i2 a3 M = some r) : V L X yX3_win cX3_win 5 (some FieldType.int) 7 M0 N Q M 74 [(0, .ref (zad L (a0))), (1, .int (i1)), (2, .int (i2)), (3, .ref (zad L (a3)))] [] := by
  unfold f_X3_win_74 at h
  refine V_aload_n dX3_win_74 rfl 0 rfl ?_
  replace h := ob h
  obtain ⟨v1, e_v1, h⟩ := h
  refine V_getR zf_9_2 zl_X3_25 e_v1 dX3_win_75 ?_
  refine V_pc (pc' := 78) rfl ?_
  refine V_aload_n dX3_win_78 rfl 3 rfl ?_
  refine V_iload_n dX3_win_79 rfl 2 rfl ?_
  refine V_aload_n dX3_win_80 rfl 0 rfl ?_
  replace h := ob h
  obtain ⟨v2, e_v2, h⟩ := h
  refine V_getI zf_9_12 zl_X3_57 e_v2 dX3_win_81 ?_
  refine V_pc (pc' := 84) rfl ?_
  refine V_aload_n dX3_win_84 rfl 0 rfl ?_
  refine V_iload_n dX3_win_85 rfl 1 rfl ?_
  replace h := ox h
  obtain ⟨c4, h⟩ := h
  replace h := ob h
  obtain ⟨r3, e_r3, h⟩ := h
  refine V_callV_I (As := [.int (i1)]) (rest := [.int (v2), .int (i2), .ref (zad L (a3)), .ref (zad L (v1))]) (c_X3_windOf e_r3) zc_X3_windOf rfl (by decide) rfl (by decide) (Or.inl c4) zm_X3_184 (Nat.le_of_ble_eq_true rfl) rfl dX3_win_86 ?_
  refine V_pc (pc' := 89) rfl ?_
  replace h := ox h
  obtain ⟨c6, h⟩ := h
  replace h := ob h
  obtain ⟨r5, e_r5, h⟩ := h
  refine V_callV_I (As := [.ref (zad L (a3)), .int (i2), .int (v2), .int (r3.1)]) (rest := []) (c_X2_value e_r5) zc_X2_value rfl (by decide) rfl (by decide) (Or.inl c6) zm_X3_187 (Nat.le_of_ble_eq_true rfl) rfl dX3_win_89 ?_
  refine V_pc (pc' := 92) rfl ?_
  refine V_istore (ls' := [(4, .int (r5.1)), (0, .ref (zad L (a0))), (1, .int (i1)), (2, .int (i2)), (3, .ref (zad L (a3)))]) dX3_win_92 (by decide) rfl ?_
  refine V_aload_n dX3_win_94 rfl 1 rfl ?_
  refine V_iload_n dX3_win_95 rfl 2 rfl ?_
  refine V_iload_n dX3_win_96 rfl 3 rfl ?_
  refine V_iload dX3_win_97 0 rfl ?_
  replace h := ox h
  obtain ⟨c8, h⟩ := h
  replace h := ob h
  obtain ⟨r7, e_r7, h⟩ := h
  refine V_callV_V (As := [.int (i1), .int (i2), .int (r5.1)]) (rest := []) (c_X3_payWin e_r7) zc_X3_payWin rfl (by decide) rfl (by decide) (Or.inl c8) zm_X3_191 (Nat.le_of_ble_eq_true rfl) rfl dX3_win_99 ?_
  refine V_pc (pc' := 102) rfl ?_
  refine V_aload_n dX3_win_102 rfl 4 rfl ?_
  refine V_dup dX3_win_103 rfl ?_
  replace h := ob h
  obtain ⟨v9, e_v9, h⟩ := h
  refine V_getI zf_7_8 zl_X3_195 e_v9 dX3_win_104 ?_
  refine V_pc (pc' := 107) rfl ?_
  refine V_iconst (v := 1) dX3_win_107 (by decide) ?_
  refine V_iadd dX3_win_108 ?_
  replace h := ob h
  obtain ⟨M10, e_M10, h⟩ := h
  refine V_putI zf_7_8 zl_X3_195 (Or.inl rfl) rfl e_M10 dX3_win_109 ?_
  refine V_pc (pc' := 112) rfl ?_
  refine V_aload_n dX3_win_112 rfl 1 rfl ?_
  refine V_iload_n dX3_win_113 rfl 2 rfl ?_
  replace h := ob h
  obtain ⟨M11, e_M11, h⟩ := h
  refine V_putI zf_9_13 zl_X3_60 (Or.inl rfl) rfl e_M11 dX3_win_114 ?_
  refine V_pc (pc' := 117) rfl ?_
  refine V_aload_n dX3_win_117 rfl 1 rfl ?_
  refine V_iconst (v := 3) dX3_win_118 (by decide) ?_
  replace h := ob h
  obtain ⟨M12, e_M12, h⟩ := h
  refine V_putI zf_9_7 zl_X3_42 (Or.inl rfl) rfl e_M12 dX3_win_119 ?_
  refine V_pc (pc' := 122) rfl ?_
  refine V_iload dX3_win_122 0 rfl ?_
  obtain rfl := Option.some.inj h
  exact V_iretX rfl hq dX3_win_124
def f_X3_win_51 (a0 : Nat) (i1 : Int32) (i2 : Int32) (M : zM) : Option ((String ⊕ Int32) × zM) :=
  (gR 9 0 M a0).bind fun v1 =>
  (lQ 1 M v1 i1).bind fun v2 =>
  if i2 = 0 then
  if mK M a0 = 9 then
  (f_X3_seatInTurn a0 M).bind fun r3 =>
  if mK r3.2 r3.1 = 7 then
  (f_X1_leaveRiver r3.1 r3.2).bind fun r5 =>
  if mK r5.2 v2 = 7 then
  (f_X1_change v2 r5.1 ((1 : Int32)) r5.2).bind fun r7 =>
  f_X3_win_74 a0 i1 i2 v2 r7.2
  else none
  else none
  else none
  else
  f_X3_win_74 a0 i1 i2 v2 M
set_option maxRecDepth 20000 in
set_option maxHeartbeats 4000000 in
theorem s_X3_win_51 {L : zL} {X : zX} {M0 : zM} {N : Nat × Nat} {Q : State → Prop} {r : (String ⊕ Int32) × zM} (hq : vQX L X M0 N Q (zoI r.1) r.2) {a0 : Nat} {i1 : Int32} {i2 : Int32} {M : zM} (h : f_X3_win_51 a0 i1 i2 M = some r) : V L X yX3_win cX3_win 5 (some FieldType.int) 7 M0 N Q M 51 [(0, .ref (zad L (a0))), (1, .int (i1)), (2, .int (i2))] [] := by
  unfold f_X3_win_51 at h
  refine V_aload_n dX3_win_51 rfl 0 rfl ?_
  replace h := ob h
  obtain ⟨v1, e_v1, h⟩ := h
  refine V_getR zf_9_0 zl_X3_11 e_v1 dX3_win_52 ?_
  refine V_pc (pc' := 55) rfl ?_
  refine V_iload_n dX3_win_55 rfl 1 rfl ?_
  replace h := ob h
  obtain ⟨v2, e_v2, h⟩ := h
  refine V_aald (by decide) e_v2 dX3_win_56 ?_
  refine V_pc (pc' := 57) rfl ?_
  refine V_astore_n (ls' := [(3, .ref (zad L (v2))), (0, .ref (zad L (a0))), (1, .int (i1)), (2, .int (i2))]) dX3_win_57 rfl (by decide) rfl ?_
  refine V_iload_n dX3_win_58 rfl 3 rfl ?_
  refine V_if_ne (tgt := 74) dX3_win_59 (by decide) (fun c9 => ?_) (fun c9 => ?_)
  · replace h := (oi h).2 c9
    refine V_sub [1, 2, 3, 0] rfl ?_
    exact s_X3_win_74 hq h
  · replace h := (oi h).1 c9
    refine V_aload_n dX3_win_62 rfl 0 rfl ?_
    refine V_aload_n dX3_win_63 rfl 1 rfl ?_
    replace h := ox h
    obtain ⟨c4, h⟩ := h
    replace h := ob h
    obtain ⟨r3, e_r3, h⟩ := h
    refine V_callV_A (As := []) (rest := [.ref (zad L (v2))]) (c_X3_seatInTurn e_r3) zc_X3_seatInTurn rfl (by decide) rfl (by decide) (Or.inl c4) zm_X3_108 (Nat.le_of_ble_eq_true rfl) rfl dX3_win_64 ?_
    refine V_pc (pc' := 67) rfl ?_
    replace h := ox h
    obtain ⟨c6, h⟩ := h
    replace h := ob h
    obtain ⟨r5, e_r5, h⟩ := h
    refine V_callV_I (As := []) (rest := [.ref (zad L (v2))]) (c_X1_leaveRiver e_r5) zc_X1_leaveRiver rfl (by decide) rfl (by decide) (Or.inl c6) zm_X3_154 (Nat.le_of_ble_eq_true rfl) rfl dX3_win_67 ?_
    refine V_pc (pc' := 70) rfl ?_
    refine V_iconst (v := 1) dX3_win_70 (by decide) ?_
    replace h := ox h
    obtain ⟨c8, h⟩ := h
    replace h := ob h
    obtain ⟨r7, e_r7, h⟩ := h
    refine V_callV_V (As := [.int (r5.1), .int ((1 : Int32))]) (rest := []) (c_X1_change e_r7) zc_X1_change rfl (by decide) rfl (by decide) (Or.inl c8) zm_X3_157 (Nat.le_of_ble_eq_true rfl) rfl dX3_win_71 ?_
    refine V_pc (pc' := 74) rfl ?_
    refine V_sub [1, 2, 3, 0] rfl ?_
    exact s_X3_win_74 hq h
def f_X3_win_41 (M : zM) : Option ((String ⊕ Int32) × zM) :=
  some (Sum.inl "java/lang/IllegalStateException", nE M)
set_option maxRecDepth 20000 in
set_option maxHeartbeats 4000000 in
theorem s_X3_win_41 {L : zL} {X : zX} {M0 : zM} {N : Nat × Nat} {Q : State → Prop} {r : (String ⊕ Int32) × zM} (hq : vQX L X M0 N Q (zoI r.1) r.2) {M : zM} (h : f_X3_win_41 M = some r) : V L X yX3_win cX3_win 5 (some FieldType.int) 7 M0 N Q M 41 [] [] := by
  unfold f_X3_win_41 at h
  obtain rfl := Option.some.inj h
  exact V_throw (E := "java/lang/IllegalStateException") (tx := "that is no win") hq zx_X3_122 zk_X3_118 zs_X3_182 (by decide +kernel) (by decide) (Nat.le_of_ble_eq_true rfl) dX3_win_41 dX3_win_44 dX3_win_45 dX3_win_47 dX3_win_50
def f_X3_win_17 (a0 : Nat) (i1 : Int32) (i_0 : Int32) (M : zM) : Option ((String ⊕ Int32) × zM) :=
  if i_0 = 0 then
  if mK M a0 = 9 then
  (f_X3_winsByDiscard a0 i1 M).bind fun r1 =>
  if r1.1 = 0 then
  f_X3_win_41 r1.2
  else
  f_X3_win_51 a0 i1 i_0 r1.2
  else none
  else
  if mK M a0 = 9 then
  (f_X3_winsAlone a0 i1 M).bind fun r4 =>
  if r4.1 = 0 then
  f_X3_win_41 r4.2
  else
  f_X3_win_51 a0 i1 i_0 r4.2
  else none
set_option maxRecDepth 20000 in
set_option maxHeartbeats 4000000 in
theorem s_X3_win_17 {L : zL} {X : zX} {M0 : zM} {N : Nat × Nat} {Q : State → Prop} {r : (String ⊕ Int32) × zM} (hq : vQX L X M0 N Q (zoI r.1) r.2) {a0 : Nat} {i1 : Int32} {i_0 : Int32} {M : zM} (h : f_X3_win_17 a0 i1 i_0 M = some r) : V L X yX3_win cX3_win 5 (some FieldType.int) 7 M0 N Q M 17 [(0, .ref (zad L (a0))), (1, .int (i1))] [.int (i_0)] := by
  unfold f_X3_win_17 at h
  refine V_istore_n (ls' := [(2, .int (i_0)), (0, .ref (zad L (a0))), (1, .int (i1))]) dX3_win_17 rfl (by decide) rfl ?_
  refine V_iload_n dX3_win_18 rfl 0 rfl ?_
  refine V_if_eq (tgt := 33) dX3_win_19 (by decide) (fun c7 => ?_) (fun c7 => ?_)
  · replace h := (oi h).1 c7
    refine V_aload_n dX3_win_33 rfl 1 rfl ?_
    refine V_iload_n dX3_win_34 rfl 2 rfl ?_
    replace h := ox h
    obtain ⟨c2, h⟩ := h
    replace h := ob h
    obtain ⟨r1, e_r1, h⟩ := h
    refine V_callV_I (As := [.int (i1)]) (rest := []) (c_X3_winsByDiscard e_r1) zc_X3_winsByDiscard rfl (by decide) rfl (by decide) (Or.inl c2) zm_X3_179 (Nat.le_of_ble_eq_true rfl) rfl dX3_win_35 ?_
    refine V_pc (pc' := 38) rfl ?_
    refine V_if_ne (tgt := 51) dX3_win_38 (by decide) (fun c3 => ?_) (fun c3 => ?_)
    · replace h := (oi h).2 c3
      refine V_sub [1, 2, 0] rfl ?_
      exact s_X3_win_51 hq h
    · replace h := (oi h).1 c3
      refine V_sub [] rfl ?_
      exact s_X3_win_41 hq h
  · replace h := (oi h).2 c7
    refine V_aload_n dX3_win_22 rfl 1 rfl ?_
    refine V_iload_n dX3_win_23 rfl 2 rfl ?_
    replace h := ox h
    obtain ⟨c5, h⟩ := h
    replace h := ob h
    obtain ⟨r4, e_r4, h⟩ := h
    refine V_callV_I (As := [.int (i1)]) (rest := []) (c_X3_winsAlone e_r4) zc_X3_winsAlone rfl (by decide) rfl (by decide) (Or.inl c5) zm_X3_175 (Nat.le_of_ble_eq_true rfl) rfl dX3_win_24 ?_
    refine V_pc (pc' := 27) rfl ?_
    refine V_if_eq (tgt := 41) dX3_win_27 (by decide) (fun c6 => ?_) (fun c6 => ?_)
    · replace h := (oi h).1 c6
      refine V_sub [] rfl ?_
      exact s_X3_win_41 hq h
    · replace h := (oi h).2 c6
      refine V_goto (tgt := 51) dX3_win_30 (by decide) ?_
      refine V_sub [1, 2, 0] rfl ?_
      exact s_X3_win_51 hq h
def f_X3_win_0 (a0 : Nat) (i1 : Int32) (M : zM) : Option ((String ⊕ Int32) × zM) :=
  xb (f_X3_requirePlayer i1 M) fun w1 Mw1 =>
  (gI 9 7 Mw1 a0).bind fun v4 =>
  if v4 = ((1 : Int32)) then
  f_X3_win_17 a0 i1 ((1 : Int32)) Mw1
  else
  f_X3_win_17 a0 i1 ((0 : Int32)) Mw1
set_option maxRecDepth 20000 in
set_option maxHeartbeats 4000000 in
theorem s_X3_win_0 {L : zL} {X : zX} {M0 : zM} {N : Nat × Nat} {Q : State → Prop} {r : (String ⊕ Int32) × zM} (hq : vQX L X M0 N Q (zoI r.1) r.2) {a0 : Nat} {i1 : Int32} {M : zM} (h : f_X3_win_0 a0 i1 M = some r) : V L X yX3_win cX3_win 5 (some FieldType.int) 7 M0 N Q M 0 [(0, .ref (zad L (a0))), (1, .int (i1))] [] := by
  unfold f_X3_win_0 at h
  refine V_iload_n dX3_win_0 rfl 1 rfl ?_
  replace h := xbs h
  rcases h with ⟨E_r1, M_r1, e_r1, rfl⟩ | ⟨w1, Mw1, e_r1, h⟩
  · exact V_callSt (As := [.int (i1)]) (rest := []) (c_X3_requirePlayer e_r1) hq (by decide +kernel) zc_X3_requirePlayer rfl (by decide) zm_X3_143 (Nat.le_of_ble_eq_true rfl) rfl dX3_win_1
  · refine V_callSx_V (As := [.int (i1)]) (rest := []) (c_X3_requirePlayer e_r1) zc_X3_requirePlayer rfl (by decide) zm_X3_143 (Nat.le_of_ble_eq_true rfl) rfl dX3_win_1 ?_
    refine V_pc (pc' := 4) rfl ?_
    refine V_aload_n dX3_win_4 rfl 0 rfl ?_
    replace h := ob h
    obtain ⟨v4, e_v4, h⟩ := h
    refine V_getI zf_9_7 zl_X3_42 e_v4 dX3_win_5 ?_
    refine V_pc (pc' := 8) rfl ?_
    refine V_iconst (v := 1) dX3_win_8 (by decide) ?_
    refine V_icmp_ne (tgt := 16) dX3_win_9 (by decide) (fun c5 => ?_) (fun c5 => ?_)
    · replace h := (oi h).2 c5
      refine V_iconst (v := 0) dX3_win_16 (by decide) ?_
      exact s_X3_win_17 hq h
    · replace h := (oi h).1 c5
      refine V_iconst (v := 1) dX3_win_12 (by decide) ?_
      refine V_goto (tgt := 17) dX3_win_13 (by decide) ?_
      exact s_X3_win_17 hq h
def f_X3_win (a0 : Nat) (i1 : Int32) (M : zM) : Option ((String ⊕ Int32) × zM) := f_X3_win_0 a0 i1 M
theorem c_X3_win {L : zL} {l : Launch} {a0 : Nat} {i1 : Int32} {M : zM} {r : (String ⊕ Int32) × zM} (h : f_X3_win a0 i1 M = some r) : CX L l yX3_win cX3_win 5 (some FieldType.int) 7 M [.ref (zad L (a0)), .int (i1)] (zoI r.1) r.2 :=
  CX.of ⟨by decide +kernel, by decide +kernel⟩ (Nat.le_of_ble_eq_true rfl) fun X Q hq => s_X3_win_0 hq h
/-! Windsparlour.has(II)I -/
theorem dX3_has_0 : decode cX3_has 0 = .ok (.iload_n 1, 1) := by decide +kernel
theorem dX3_has_1 : decode cX3_has 1 = .ok (.invokestatic 143, 3) := by decide +kernel
theorem dX3_has_4 : decode cX3_has 4 = .ok (.iload_n 2, 1) := by decide +kernel
theorem dX3_has_5 : decode cX3_has 5 = .ok (.invokestatic 105, 3) := by decide +kernel
theorem dX3_has_8 : decode cX3_has 8 = .ok (.aload_n 0, 1) := by decide +kernel
theorem dX3_has_9 : decode cX3_has 9 = .ok (.getfield 11, 3) := by decide +kernel
theorem dX3_has_12 : decode cX3_has 12 = .ok (.iload_n 1, 1) := by decide +kernel
theorem dX3_has_13 : decode cX3_has 13 = .ok (.aaload, 1) := by decide +kernel
theorem dX3_has_14 : decode cX3_has 14 = .ok (.iload_n 2, 1) := by decide +kernel
theorem dX3_has_15 : decode cX3_has 15 = .ok (.invokevirtual 112, 3) := by decide +kernel
theorem dX3_has_18 : decode cX3_has 18 = .ok (.ireturn, 1) := by decide +kernel
def f_X3_has_0 (a0 : Nat) (i1 : Int32) (i2 : Int32) (M : zM) : Option ((String ⊕ Int32) × zM) :=
  xb (f_X3_requirePlayer i1 M) fun w1 Mw1 =>
  xb (f_X3_requireKind i2 Mw1) fun w11 Mw11 =>
  (gR 9 0 Mw11 a0).bind fun v16 =>
  (lQ 1 Mw11 v16 i1).bind fun v17 =>
  if mK Mw11 v17 = 7 then
  (f_X1_count v17 i2 Mw11).bind fun r18 =>
  some (Sum.inr (r18.1), r18.2)
  else none
set_option maxRecDepth 20000 in
set_option maxHeartbeats 4000000 in
theorem s_X3_has_0 {L : zL} {X : zX} {M0 : zM} {N : Nat × Nat} {Q : State → Prop} {r : (String ⊕ Int32) × zM} (hq : vQX L X M0 N Q (zoI r.1) r.2) {a0 : Nat} {i1 : Int32} {i2 : Int32} {M : zM} (h : f_X3_has_0 a0 i1 i2 M = some r) : V L X yX3_has cX3_has 3 (some FieldType.int) 7 M0 N Q M 0 [(0, .ref (zad L (a0))), (1, .int (i1)), (2, .int (i2))] [] := by
  unfold f_X3_has_0 at h
  refine V_iload_n dX3_has_0 rfl 1 rfl ?_
  replace h := xbs h
  rcases h with ⟨E_r1, M_r1, e_r1, rfl⟩ | ⟨w1, Mw1, e_r1, h⟩
  · exact V_callSt (As := [.int (i1)]) (rest := []) (c_X3_requirePlayer e_r1) hq (by decide +kernel) zc_X3_requirePlayer rfl (by decide) zm_X3_143 (Nat.le_of_ble_eq_true rfl) rfl dX3_has_1
  · refine V_callSx_V (As := [.int (i1)]) (rest := []) (c_X3_requirePlayer e_r1) zc_X3_requirePlayer rfl (by decide) zm_X3_143 (Nat.le_of_ble_eq_true rfl) rfl dX3_has_1 ?_
    refine V_pc (pc' := 4) rfl ?_
    refine V_iload_n dX3_has_4 rfl 2 rfl ?_
    replace h := xbs h
    rcases h with ⟨E_r11, M_r11, e_r11, rfl⟩ | ⟨w11, Mw11, e_r11, h⟩
    · exact V_callSt (As := [.int (i2)]) (rest := []) (c_X3_requireKind e_r11) hq (by decide +kernel) zc_X3_requireKind rfl (by decide) zm_X3_105 (Nat.le_of_ble_eq_true rfl) rfl dX3_has_5
    · refine V_callSx_V (As := [.int (i2)]) (rest := []) (c_X3_requireKind e_r11) zc_X3_requireKind rfl (by decide) zm_X3_105 (Nat.le_of_ble_eq_true rfl) rfl dX3_has_5 ?_
      refine V_pc (pc' := 8) rfl ?_
      refine V_aload_n dX3_has_8 rfl 0 rfl ?_
      replace h := ob h
      obtain ⟨v16, e_v16, h⟩ := h
      refine V_getR zf_9_0 zl_X3_11 e_v16 dX3_has_9 ?_
      refine V_pc (pc' := 12) rfl ?_
      refine V_iload_n dX3_has_12 rfl 1 rfl ?_
      replace h := ob h
      obtain ⟨v17, e_v17, h⟩ := h
      refine V_aald (by decide) e_v17 dX3_has_13 ?_
      refine V_pc (pc' := 14) rfl ?_
      refine V_iload_n dX3_has_14 rfl 2 rfl ?_
      replace h := ox h
      obtain ⟨c19, h⟩ := h
      replace h := ob h
      obtain ⟨r18, e_r18, h⟩ := h
      refine V_callV_I (As := [.int (i2)]) (rest := []) (c_X1_count e_r18) zc_X1_count rfl (by decide) rfl (by decide) (Or.inl c19) zm_X3_112 (Nat.le_of_ble_eq_true rfl) rfl dX3_has_15 ?_
      refine V_pc (pc' := 18) rfl ?_
      obtain rfl := Option.some.inj h
      exact V_iretX rfl hq dX3_has_18
def f_X3_has (a0 : Nat) (i1 : Int32) (i2 : Int32) (M : zM) : Option ((String ⊕ Int32) × zM) := f_X3_has_0 a0 i1 i2 M
theorem c_X3_has {L : zL} {l : Launch} {a0 : Nat} {i1 : Int32} {i2 : Int32} {M : zM} {r : (String ⊕ Int32) × zM} (h : f_X3_has a0 i1 i2 M = some r) : CX L l yX3_has cX3_has 3 (some FieldType.int) 7 M [.ref (zad L (a0)), .int (i1), .int (i2)] (zoI r.1) r.2 :=
  CX.of ⟨by decide +kernel, by decide +kernel⟩ (Nat.le_of_ble_eq_true rfl) fun X Q hq => s_X3_has_0 hq h
/-! Windsparlour.ofPlayer(II)I -/
theorem dX3_ofPlayer_0 : decode cX3_ofPlayer 0 = .ok (.iload_n 1, 1) := by decide +kernel
theorem dX3_ofPlayer_1 : decode cX3_ofPlayer 1 = .ok (.invokestatic 143, 3) := by decide +kernel
theorem dX3_ofPlayer_4 : decode cX3_ofPlayer 4 = .ok (.aload_n 0, 1) := by decide +kernel
theorem dX3_ofPlayer_5 : decode cX3_ofPlayer 5 = .ok (.getfield 11, 3) := by decide +kernel
theorem dX3_ofPlayer_8 : decode cX3_ofPlayer 8 = .ok (.iload_n 1, 1) := by decide +kernel
theorem dX3_ofPlayer_9 : decode cX3_ofPlayer 9 = .ok (.aaload, 1) := by decide +kernel
theorem dX3_ofPlayer_10 : decode cX3_ofPlayer 10 = .ok (.astore_n 3, 1) := by decide +kernel
theorem dX3_ofPlayer_11 : decode cX3_ofPlayer 11 = .ok (.iload_n 2, 1) := by decide +kernel
theorem dX3_ofPlayer_12 : decode cX3_ofPlayer 12 = .ok (.tableswitch 142 0 9 #[56, 61, 66, 71, 76, 81, 94, 110, 116, 121], 56) := by decide +kernel
theorem dX3_ofPlayer_68 : decode cX3_ofPlayer 68 = .ok (.aload_n 3, 1) := by decide +kernel
theorem dX3_ofPlayer_69 : decode cX3_ofPlayer 69 = .ok (.getfield 140, 3) := by decide +kernel
theorem dX3_ofPlayer_72 : decode cX3_ofPlayer 72 = .ok (.ireturn, 1) := by decide +kernel
theorem dX3_ofPlayer_73 : decode cX3_ofPlayer 73 = .ok (.aload_n 3, 1) := by decide +kernel
theorem dX3_ofPlayer_74 : decode cX3_ofPlayer 74 = .ok (.getfield 167, 3) := by decide +kernel
theorem dX3_ofPlayer_77 : decode cX3_ofPlayer 77 = .ok (.ireturn, 1) := by decide +kernel
theorem dX3_ofPlayer_78 : decode cX3_ofPlayer 78 = .ok (.aload_n 3, 1) := by decide +kernel
theorem dX3_ofPlayer_79 : decode cX3_ofPlayer 79 = .ok (.invokevirtual 130, 3) := by decide +kernel
theorem dX3_ofPlayer_82 : decode cX3_ofPlayer 82 = .ok (.ireturn, 1) := by decide +kernel
theorem dX3_ofPlayer_83 : decode cX3_ofPlayer 83 = .ok (.aload_n 3, 1) := by decide +kernel
theorem dX3_ofPlayer_84 : decode cX3_ofPlayer 84 = .ok (.invokevirtual 198, 3) := by decide +kernel
theorem dX3_ofPlayer_87 : decode cX3_ofPlayer 87 = .ok (.ireturn, 1) := by decide +kernel
theorem dX3_ofPlayer_88 : decode cX3_ofPlayer 88 = .ok (.aload_n 3, 1) := by decide +kernel
theorem dX3_ofPlayer_89 : decode cX3_ofPlayer 89 = .ok (.getfield 127, 3) := by decide +kernel
theorem dX3_ofPlayer_92 : decode cX3_ofPlayer 92 = .ok (.ireturn, 1) := by decide +kernel
theorem dX3_ofPlayer_93 : decode cX3_ofPlayer 93 = .ok (.aload_n 3, 1) := by decide +kernel
theorem dX3_ofPlayer_94 : decode cX3_ofPlayer 94 = .ok (.getfield 115, 3) := by decide +kernel
theorem dX3_ofPlayer_97 : decode cX3_ofPlayer 97 = .ok (.ifCond .eq 7, 3) := by decide +kernel
theorem dX3_ofPlayer_100 : decode cX3_ofPlayer 100 = .ok (.iconst 1, 1) := by decide +kernel
theorem dX3_ofPlayer_101 : decode cX3_ofPlayer 101 = .ok (.goto 4, 3) := by decide +kernel
theorem dX3_ofPlayer_104 : decode cX3_ofPlayer 104 = .ok (.iconst 0, 1) := by decide +kernel
theorem dX3_ofPlayer_105 : decode cX3_ofPlayer 105 = .ok (.ireturn, 1) := by decide +kernel
theorem dX3_ofPlayer_106 : decode cX3_ofPlayer 106 = .ok (.aload_n 0, 1) := by decide +kernel
theorem dX3_ofPlayer_107 : decode cX3_ofPlayer 107 = .ok (.getfield 18, 3) := by decide +kernel
theorem dX3_ofPlayer_110 : decode cX3_ofPlayer 110 = .ok (.aload_n 3, 1) := by decide +kernel
theorem dX3_ofPlayer_111 : decode cX3_ofPlayer 111 = .ok (.getfield 201, 3) := by decide +kernel
theorem dX3_ofPlayer_114 : decode cX3_ofPlayer 114 = .ok (.aload_n 3, 1) := by decide +kernel
theorem dX3_ofPlayer_115 : decode cX3_ofPlayer 115 = .ok (.getfield 167, 3) := by decide +kernel
theorem dX3_ofPlayer_118 : decode cX3_ofPlayer 118 = .ok (.invokevirtual 205, 3) := by decide +kernel
theorem dX3_ofPlayer_121 : decode cX3_ofPlayer 121 = .ok (.ireturn, 1) := by decide +kernel
theorem dX3_ofPlayer_122 : decode cX3_ofPlayer 122 = .ok (.aload_n 0, 1) := by decide +kernel
theorem dX3_ofPlayer_123 : decode cX3_ofPlayer 123 = .ok (.iload_n 1, 1) := by decide +kernel
theorem dX3_ofPlayer_124 : decode cX3_ofPlayer 124 = .ok (.invokevirtual 184, 3) := by decide +kernel
theorem dX3_ofPlayer_127 : decode cX3_ofPlayer 127 = .ok (.ireturn, 1) := by decide +kernel
theorem dX3_ofPlayer_128 : decode cX3_ofPlayer 128 = .ok (.aload_n 3, 1) := by decide +kernel
theorem dX3_ofPlayer_129 : decode cX3_ofPlayer 129 = .ok (.getfield 195, 3) := by decide +kernel
theorem dX3_ofPlayer_132 : decode cX3_ofPlayer 132 = .ok (.ireturn, 1) := by decide +kernel
theorem dX3_ofPlayer_133 : decode cX3_ofPlayer 133 = .ok (.aload_n 0, 1) := by decide +kernel
theorem dX3_ofPlayer_134 : decode cX3_ofPlayer 134 = .ok (.aload_n 3, 1) := by decide +kernel
theorem dX3_ofPlayer_135 : decode cX3_ofPlayer 135 = .ok (.invokevirtual 209, 3) := by decide +kernel
theorem dX3_ofPlayer_138 : decode cX3_ofPlayer 138 = .ok (.aload_n 3, 1) := by decide +kernel
theorem dX3_ofPlayer_139 : decode cX3_ofPlayer 139 = .ok (.getfield 213, 3) := by decide +kernel
theorem dX3_ofPlayer_142 : decode cX3_ofPlayer 142 = .ok (.land, 1) := by decide +kernel
theorem dX3_ofPlayer_143 : decode cX3_ofPlayer 143 = .ok (.lconst 0, 1) := by decide +kernel
theorem dX3_ofPlayer_144 : decode cX3_ofPlayer 144 = .ok (.lcmp, 1) := by decide +kernel
theorem dX3_ofPlayer_145 : decode cX3_ofPlayer 145 = .ok (.ifCond .eq 7, 3) := by decide +kernel
theorem dX3_ofPlayer_148 : decode cX3_ofPlayer 148 = .ok (.iconst 1, 1) := by decide +kernel
theorem dX3_ofPlayer_149 : decode cX3_ofPlayer 149 = .ok (.goto 4, 3) := by decide +kernel
theorem dX3_ofPlayer_152 : decode cX3_ofPlayer 152 = .ok (.iconst 0, 1) := by decide +kernel
theorem dX3_ofPlayer_153 : decode cX3_ofPlayer 153 = .ok (.ireturn, 1) := by decide +kernel
theorem dX3_ofPlayer_154 : decode cX3_ofPlayer 154 = .ok (.new 71, 3) := by decide +kernel
theorem dX3_ofPlayer_157 : decode cX3_ofPlayer 157 = .ok (.dup, 1) := by decide +kernel
theorem dX3_ofPlayer_158 : decode cX3_ofPlayer 158 = .ok (.ldc 217, 2) := by decide +kernel
theorem dX3_ofPlayer_160 : decode cX3_ofPlayer 160 = .ok (.invokespecial 75, 3) := by decide +kernel
theorem dX3_ofPlayer_163 : decode cX3_ofPlayer 163 = .ok (.athrow, 1) := by decide +kernel
def f_X3_ofPlayer_0 (a0 : Nat) (i1 : Int32) (i2 : Int32) (M : zM) : Option ((String ⊕ Int32) × zM) :=
  xb (f_X3_requirePlayer i1 M) fun w1 Mw1 =>
  (gR 9 0 Mw1 a0).bind fun v35 =>
  (lQ 1 Mw1 v35 i1).bind fun v36 =>
  if i2 = 0 then
  (gI 7 7 Mw1 v36).bind fun v67 =>
  some (Sum.inr (v67), Mw1)
  else
  if i2 = 1 then
  (gI 7 4 Mw1 v36).bind fun v66 =>
  some (Sum.inr (v66), Mw1)
  else
  if i2 = 2 then
  if mK Mw1 v36 = 7 then
  (f_X1_openSets v36 Mw1).bind fun r64 =>
  some (Sum.inr (r64.1), r64.2)
  else none
  else
  if i2 = 3 then
  if mK Mw1 v36 = 7 then
  (f_X1_inHand v36 Mw1).bind fun r62 =>
  some (Sum.inr (r62.1), r62.2)
  else none
  else
  if i2 = 4 then
  (gI 7 5 Mw1 v36).bind fun v61 =>
  some (Sum.inr (v61), Mw1)
  else
  if i2 = 5 then
  (gI 7 6 Mw1 v36).bind fun v59 =>
  if v59 = 0 then
  some (Sum.inr ((0 : Int32)), Mw1)
  else
  some (Sum.inr ((1 : Int32)), Mw1)
  else
  if i2 = 6 then
  (gR 9 1 Mw1 a0).bind fun v54 =>
  (gR 7 0 Mw1 v36).bind fun v55 =>
  (gI 7 4 Mw1 v36).bind fun v56 =>
  if mK Mw1 v54 = 6 then
  (f_X0_far v54 v55 v56 Mw1).bind fun r57 =>
  some (Sum.inr (r57.1), r57.2)
  else none
  else
  if i2 = 7 then
  if mK Mw1 a0 = 9 then
  (f_X3_windOf a0 i1 Mw1).bind fun r52 =>
  some (Sum.inr (r52.1), r52.2)
  else none
  else
  if i2 = 8 then
  (gI 7 8 Mw1 v36).bind fun v51 =>
  some (Sum.inr (v51), Mw1)
  else
  if i2 = 9 then
  if mK Mw1 a0 = 9 then
  (f_X3_waitsOf a0 v36 Mw1).bind fun r47 =>
  (gJ 7 3 r47.2 v36).bind fun v49 =>
  if ((lg_cmp ((r47.1 &&& v49)) ((0 : Int64)))) = 0 then
  some (Sum.inr ((0 : Int32)), r47.2)
  else
  some (Sum.inr ((1 : Int32)), r47.2)
  else none
  else
  some (Sum.inl "java/lang/IllegalArgumentException", nE Mw1)
set_option maxRecDepth 20000 in
set_option maxHeartbeats 4000000 in
theorem s_X3_ofPlayer_0 {L : zL} {X : zX} {M0 : zM} {N : Nat × Nat} {Q : State → Prop} {r : (String ⊕ Int32) × zM} (hq : vQX L X M0 N Q (zoI r.1) r.2) {a0 : Nat} {i1 : Int32} {i2 : Int32} {M : zM} (h : f_X3_ofPlayer_0 a0 i1 i2 M = some r) : V L X yX3_ofPlayer cX3_ofPlayer 4 (some FieldType.int) 69 M0 N Q M 0 [(0, .ref (zad L (a0))), (1, .int (i1)), (2, .int (i2))] [] := by
  unfold f_X3_ofPlayer_0 at h
  refine V_iload_n dX3_ofPlayer_0 rfl 1 rfl ?_
  replace h := xbs h
  rcases h with ⟨E_r1, M_r1, e_r1, rfl⟩ | ⟨w1, Mw1, e_r1, h⟩
  · exact V_callSt (As := [.int (i1)]) (rest := []) (c_X3_requirePlayer e_r1) hq (by decide +kernel) zc_X3_requirePlayer rfl (by decide) zm_X3_143 (Nat.le_of_ble_eq_true rfl) rfl dX3_ofPlayer_1
  · refine V_callSx_V (As := [.int (i1)]) (rest := []) (c_X3_requirePlayer e_r1) zc_X3_requirePlayer rfl (by decide) zm_X3_143 (Nat.le_of_ble_eq_true rfl) rfl dX3_ofPlayer_1 ?_
    refine V_pc (pc' := 4) rfl ?_
    refine V_aload_n dX3_ofPlayer_4 rfl 0 rfl ?_
    replace h := ob h
    obtain ⟨v35, e_v35, h⟩ := h
    refine V_getR zf_9_0 zl_X3_11 e_v35 dX3_ofPlayer_5 ?_
    refine V_pc (pc' := 8) rfl ?_
    refine V_iload_n dX3_ofPlayer_8 rfl 1 rfl ?_
    replace h := ob h
    obtain ⟨v36, e_v36, h⟩ := h
    refine V_aald (by decide) e_v36 dX3_ofPlayer_9 ?_
    refine V_pc (pc' := 10) rfl ?_
    refine V_astore_n (ls' := [(3, .ref (zad L (v36))), (0, .ref (zad L (a0))), (1, .int (i1)), (2, .int (i2))]) dX3_ofPlayer_10 rfl (by decide) rfl ?_
    refine V_iload_n dX3_ofPlayer_11 rfl 3 rfl ?_
    by_cases c37 : i2 = 0
    · replace h := (oi h).1 c37
      refine V_tabIn (off := 56) (tgt := 68) dX3_ofPlayer_12 (by rw [c37]; decide) (by rw [c37]; decide) (by rw [c37]; decide) (by decide) ?_
      refine V_aload_n dX3_ofPlayer_68 rfl 0 rfl ?_
      replace h := ob h
      obtain ⟨v67, e_v67, h⟩ := h
      refine V_getI zf_7_7 zl_X3_140 e_v67 dX3_ofPlayer_69 ?_
      refine V_pc (pc' := 72) rfl ?_
      obtain rfl := Option.some.inj h
      exact V_iretX rfl hq dX3_ofPlayer_72
    · replace h := (oi h).2 c37
      by_cases c38 : i2 = 1
      · replace h := (oi h).1 c38
        refine V_tabIn (off := 61) (tgt := 73) dX3_ofPlayer_12 (by rw [c38]; decide) (by rw [c38]; decide) (by rw [c38]; decide) (by decide) ?_
        refine V_aload_n dX3_ofPlayer_73 rfl 0 rfl ?_
        replace h := ob h
        obtain ⟨v66, e_v66, h⟩ := h
        refine V_getI zf_7_4 zl_X3_167 e_v66 dX3_ofPlayer_74 ?_
        refine V_pc (pc' := 77) rfl ?_
        obtain rfl := Option.some.inj h
        exact V_iretX rfl hq dX3_ofPlayer_77
      · replace h := (oi h).2 c38
        by_cases c39 : i2 = 2
        · replace h := (oi h).1 c39
          refine V_tabIn (off := 66) (tgt := 78) dX3_ofPlayer_12 (by rw [c39]; decide) (by rw [c39]; decide) (by rw [c39]; decide) (by decide) ?_
          refine V_aload_n dX3_ofPlayer_78 rfl 0 rfl ?_
          replace h := ox h
          obtain ⟨c65, h⟩ := h
          replace h := ob h
          obtain ⟨r64, e_r64, h⟩ := h
          refine V_callV_I (As := []) (rest := []) (c_X1_openSets e_r64) zc_X1_openSets rfl (by decide) rfl (by decide) (Or.inl c65) zm_X3_130 (Nat.le_of_ble_eq_true rfl) rfl dX3_ofPlayer_79 ?_
          refine V_pc (pc' := 82) rfl ?_
          obtain rfl := Option.some.inj h
          exact V_iretX rfl hq dX3_ofPlayer_82
        · replace h := (oi h).2 c39
          by_cases c40 : i2 = 3
          · replace h := (oi h).1 c40
            refine V_tabIn (off := 71) (tgt := 83) dX3_ofPlayer_12 (by rw [c40]; decide) (by rw [c40]; decide) (by rw [c40]; decide) (by decide) ?_
            refine V_aload_n dX3_ofPlayer_83 rfl 0 rfl ?_
            replace h := ox h
            obtain ⟨c63, h⟩ := h
            replace h := ob h
            obtain ⟨r62, e_r62, h⟩ := h
            refine V_callV_I (As := []) (rest := []) (c_X1_inHand e_r62) zc_X1_inHand rfl (by decide) rfl (by decide) (Or.inl c63) zm_X3_198 (Nat.le_of_ble_eq_true rfl) rfl dX3_ofPlayer_84 ?_
            refine V_pc (pc' := 87) rfl ?_
            obtain rfl := Option.some.inj h
            exact V_iretX rfl hq dX3_ofPlayer_87
          · replace h := (oi h).2 c40
            by_cases c41 : i2 = 4
            · replace h := (oi h).1 c41
              refine V_tabIn (off := 76) (tgt := 88) dX3_ofPlayer_12 (by rw [c41]; decide) (by rw [c41]; decide) (by rw [c41]; decide) (by decide) ?_
              refine V_aload_n dX3_ofPlayer_88 rfl 0 rfl ?_
              replace h := ob h
              obtain ⟨v61, e_v61, h⟩ := h
              refine V_getI zf_7_5 zl_X3_127 e_v61 dX3_ofPlayer_89 ?_
              refine V_pc (pc' := 92) rfl ?_
              obtain rfl := Option.some.inj h
              exact V_iretX rfl hq dX3_ofPlayer_92
            · replace h := (oi h).2 c41
              by_cases c42 : i2 = 5
              · replace h := (oi h).1 c42
                refine V_tabIn (off := 81) (tgt := 93) dX3_ofPlayer_12 (by rw [c42]; decide) (by rw [c42]; decide) (by rw [c42]; decide) (by decide) ?_
                refine V_aload_n dX3_ofPlayer_93 rfl 0 rfl ?_
                replace h := ob h
                obtain ⟨v59, e_v59, h⟩ := h
                refine V_getI zf_7_6 zl_X3_115 e_v59 dX3_ofPlayer_94 ?_
                refine V_pc (pc' := 97) rfl ?_
                refine V_if_eq (tgt := 104) dX3_ofPlayer_97 (by decide) (fun c60 => ?_) (fun c60 => ?_)
                · replace h := (oi h).1 c60
                  refine V_iconst (v := 0) dX3_ofPlayer_104 (by decide) ?_
                  obtain rfl := Option.some.inj h
                  exact V_iretX rfl hq dX3_ofPlayer_105
                · replace h := (oi h).2 c60
                  refine V_iconst (v := 1) dX3_ofPlayer_100 (by decide) ?_
                  refine V_goto (tgt := 105) dX3_ofPlayer_101 (by decide) ?_
                  obtain rfl := Option.some.inj h
                  exact V_iretX rfl hq dX3_ofPlayer_105
              · replace h := (oi h).2 c42
                by_cases c43 : i2 = 6
                · replace h := (oi h).1 c43
                  refine V_tabIn (off := 94) (tgt := 106) dX3_ofPlayer_12 (by rw [c43]; decide) (by rw [c43]; decide) (by rw [c43]; decide) (by decide) ?_
                  refine V_aload_n dX3_ofPlayer_106 rfl 1 rfl ?_
                  replace h := ob h
                  obtain ⟨v54, e_v54, h⟩ := h
                  refine V_getR zf_9_1 zl_X3_18 e_v54 dX3_ofPlayer_107 ?_
                  refine V_pc (pc' := 110) rfl ?_
                  refine V_aload_n dX3_ofPlayer_110 rfl 0 rfl ?_
                  replace h := ob h
                  obtain ⟨v55, e_v55, h⟩ := h
                  refine V_getR zf_7_0 zl_X3_201 e_v55 dX3_ofPlayer_111 ?_
                  refine V_pc (pc' := 114) rfl ?_
                  refine V_aload_n dX3_ofPlayer_114 rfl 0 rfl ?_
                  replace h := ob h
                  obtain ⟨v56, e_v56, h⟩ := h
                  refine V_getI zf_7_4 zl_X3_167 e_v56 dX3_ofPlayer_115 ?_
                  refine V_pc (pc' := 118) rfl ?_
                  replace h := ox h
                  obtain ⟨c58, h⟩ := h
                  replace h := ob h
                  obtain ⟨r57, e_r57, h⟩ := h
                  refine V_callV_I (As := [.ref (zad L (v55)), .int (v56)]) (rest := []) (c_X0_far e_r57) zc_X0_far rfl (by decide) rfl (by decide) (Or.inl c58) zm_X3_205 (Nat.le_of_ble_eq_true rfl) rfl dX3_ofPlayer_118 ?_
                  refine V_pc (pc' := 121) rfl ?_
                  obtain rfl := Option.some.inj h
                  exact V_iretX rfl hq dX3_ofPlayer_121
                · replace h := (oi h).2 c43
                  by_cases c44 : i2 = 7
                  · replace h := (oi h).1 c44
                    refine V_tabIn (off := 110) (tgt := 122) dX3_ofPlayer_12 (by rw [c44]; decide) (by rw [c44]; decide) (by rw [c44]; decide) (by decide) ?_
                    refine V_aload_n dX3_ofPlayer_122 rfl 1 rfl ?_
                    refine V_iload_n dX3_ofPlayer_123 rfl 2 rfl ?_
                    replace h := ox h
                    obtain ⟨c53, h⟩ := h
                    replace h := ob h
                    obtain ⟨r52, e_r52, h⟩ := h
                    refine V_callV_I (As := [.int (i1)]) (rest := []) (c_X3_windOf e_r52) zc_X3_windOf rfl (by decide) rfl (by decide) (Or.inl c53) zm_X3_184 (Nat.le_of_ble_eq_true rfl) rfl dX3_ofPlayer_124 ?_
                    refine V_pc (pc' := 127) rfl ?_
                    obtain rfl := Option.some.inj h
                    exact V_iretX rfl hq dX3_ofPlayer_127
                  · replace h := (oi h).2 c44
                    by_cases c45 : i2 = 8
                    · replace h := (oi h).1 c45
                      refine V_tabIn (off := 116) (tgt := 128) dX3_ofPlayer_12 (by rw [c45]; decide) (by rw [c45]; decide) (by rw [c45]; decide) (by decide) ?_
                      refine V_aload_n dX3_ofPlayer_128 rfl 0 rfl ?_
                      replace h := ob h
                      obtain ⟨v51, e_v51, h⟩ := h
                      refine V_getI zf_7_8 zl_X3_195 e_v51 dX3_ofPlayer_129 ?_
                      refine V_pc (pc' := 132) rfl ?_
                      obtain rfl := Option.some.inj h
                      exact V_iretX rfl hq dX3_ofPlayer_132
                    · replace h := (oi h).2 c45
                      by_cases c46 : i2 = 9
                      · replace h := (oi h).1 c46
                        refine V_tabIn (off := 121) (tgt := 133) dX3_ofPlayer_12 (by rw [c46]; decide) (by rw [c46]; decide) (by rw [c46]; decide) (by decide) ?_
                        refine V_aload_n dX3_ofPlayer_133 rfl 1 rfl ?_
                        refine V_aload_n dX3_ofPlayer_134 rfl 0 rfl ?_
                        replace h := ox h
                        obtain ⟨c48, h⟩ := h
                        replace h := ob h
                        obtain ⟨r47, e_r47, h⟩ := h
                        refine V_callV_J (As := [.ref (zad L (v36))]) (rest := []) (c_X3_waitsOf e_r47) zc_X3_waitsOf rfl (by decide) rfl (by decide) (Or.inl c48) zm_X3_209 (Nat.le_of_ble_eq_true rfl) rfl dX3_ofPlayer_135 ?_
                        refine V_pc (pc' := 138) rfl ?_
                        refine V_aload_n dX3_ofPlayer_138 rfl 0 rfl ?_
                        replace h := ob h
                        obtain ⟨v49, e_v49, h⟩ := h
                        refine V_getJ zf_7_3 zl_X3_213 e_v49 dX3_ofPlayer_139 ?_
                        refine V_pc (pc' := 142) rfl ?_
                        refine V_land dX3_ofPlayer_142 ?_
                        refine V_lconst (v := 0) dX3_ofPlayer_143 (by decide) ?_
                        refine V_lcmp dX3_ofPlayer_144 ?_
                        refine V_if_eq (tgt := 152) dX3_ofPlayer_145 (by decide) (fun c50 => ?_) (fun c50 => ?_)
                        · replace h := (oi h).1 c50
                          refine V_iconst (v := 0) dX3_ofPlayer_152 (by decide) ?_
                          obtain rfl := Option.some.inj h
                          exact V_iretX rfl hq dX3_ofPlayer_153
                        · replace h := (oi h).2 c50
                          refine V_iconst (v := 1) dX3_ofPlayer_148 (by decide) ?_
                          refine V_goto (tgt := 153) dX3_ofPlayer_149 (by decide) ?_
                          obtain rfl := Option.some.inj h
                          exact V_iretX rfl hq dX3_ofPlayer_153
                      · replace h := (oi h).2 c46
                        have hsw : (i2).toInt < 0 ∨ 9 < (i2).toInt := by
                          have q0 : ¬ (i2).toInt = 0 := fun e => c37 (Int32.toInt_inj.mp (e.trans (by decide)))
                          have q1 : ¬ (i2).toInt = 1 := fun e => c38 (Int32.toInt_inj.mp (e.trans (by decide)))
                          have q2 : ¬ (i2).toInt = 2 := fun e => c39 (Int32.toInt_inj.mp (e.trans (by decide)))
                          have q3 : ¬ (i2).toInt = 3 := fun e => c40 (Int32.toInt_inj.mp (e.trans (by decide)))
                          have q4 : ¬ (i2).toInt = 4 := fun e => c41 (Int32.toInt_inj.mp (e.trans (by decide)))
                          have q5 : ¬ (i2).toInt = 5 := fun e => c42 (Int32.toInt_inj.mp (e.trans (by decide)))
                          have q6 : ¬ (i2).toInt = 6 := fun e => c43 (Int32.toInt_inj.mp (e.trans (by decide)))
                          have q7 : ¬ (i2).toInt = 7 := fun e => c44 (Int32.toInt_inj.mp (e.trans (by decide)))
                          have q8 : ¬ (i2).toInt = 8 := fun e => c45 (Int32.toInt_inj.mp (e.trans (by decide)))
                          have q9 : ¬ (i2).toInt = 9 := fun e => c46 (Int32.toInt_inj.mp (e.trans (by decide)))
                          omega
                        refine V_tabOut (tgt := 154) dX3_ofPlayer_12 hsw (by decide) ?_
                        obtain rfl := Option.some.inj h
                        exact V_throw (E := "java/lang/IllegalArgumentException") (tx := "no such number of a player") hq zx_X3_75 zk_X3_71 zs_X3_217 (by decide +kernel) (by decide) (Nat.le_of_ble_eq_true rfl) dX3_ofPlayer_154 dX3_ofPlayer_157 dX3_ofPlayer_158 dX3_ofPlayer_160 dX3_ofPlayer_163
def f_X3_ofPlayer (a0 : Nat) (i1 : Int32) (i2 : Int32) (M : zM) : Option ((String ⊕ Int32) × zM) := f_X3_ofPlayer_0 a0 i1 i2 M
theorem c_X3_ofPlayer {L : zL} {l : Launch} {a0 : Nat} {i1 : Int32} {i2 : Int32} {M : zM} {r : (String ⊕ Int32) × zM} (h : f_X3_ofPlayer a0 i1 i2 M = some r) : CX L l yX3_ofPlayer cX3_ofPlayer 4 (some FieldType.int) 69 M [.ref (zad L (a0)), .int (i1), .int (i2)] (zoI r.1) r.2 :=
  CX.of ⟨by decide +kernel, by decide +kernel⟩ (Nat.le_of_ble_eq_true rfl) fun X Q hq => s_X3_ofPlayer_0 hq h
/-! Windsparlour.ofSet(II)I -/
theorem dX3_ofSet_0 : decode cX3_ofSet 0 = .ok (.iload_n 1, 1) := by decide +kernel
theorem dX3_ofSet_1 : decode cX3_ofSet 1 = .ok (.invokestatic 143, 3) := by decide +kernel
theorem dX3_ofSet_4 : decode cX3_ofSet 4 = .ok (.aload_n 0, 1) := by decide +kernel
theorem dX3_ofSet_5 : decode cX3_ofSet 5 = .ok (.getfield 11, 3) := by decide +kernel
theorem dX3_ofSet_8 : decode cX3_ofSet 8 = .ok (.iload_n 1, 1) := by decide +kernel
theorem dX3_ofSet_9 : decode cX3_ofSet 9 = .ok (.aaload, 1) := by decide +kernel
theorem dX3_ofSet_10 : decode cX3_ofSet 10 = .ok (.astore_n 3, 1) := by decide +kernel
theorem dX3_ofSet_11 : decode cX3_ofSet 11 = .ok (.iload_n 2, 1) := by decide +kernel
theorem dX3_ofSet_12 : decode cX3_ofSet 12 = .ok (.ifCond .lt 16, 3) := by decide +kernel
theorem dX3_ofSet_15 : decode cX3_ofSet 15 = .ok (.iload_n 2, 1) := by decide +kernel
theorem dX3_ofSet_16 : decode cX3_ofSet 16 = .ok (.aload_n 3, 1) := by decide +kernel
theorem dX3_ofSet_17 : decode cX3_ofSet 17 = .ok (.getfield 167, 3) := by decide +kernel
theorem dX3_ofSet_20 : decode cX3_ofSet 20 = .ok (.if_icmp .ge 8, 3) := by decide +kernel
theorem dX3_ofSet_23 : decode cX3_ofSet 23 = .ok (.iload_n 2, 1) := by decide +kernel
theorem dX3_ofSet_24 : decode cX3_ofSet 24 = .ok (.iconst 3, 1) := by decide +kernel
theorem dX3_ofSet_25 : decode cX3_ofSet 25 = .ok (.if_icmp .lt 13, 3) := by decide +kernel
theorem dX3_ofSet_28 : decode cX3_ofSet 28 = .ok (.new 219, 3) := by decide +kernel
theorem dX3_ofSet_31 : decode cX3_ofSet 31 = .ok (.dup, 1) := by decide +kernel
theorem dX3_ofSet_32 : decode cX3_ofSet 32 = .ok (.ldc 221, 2) := by decide +kernel
theorem dX3_ofSet_34 : decode cX3_ofSet 34 = .ok (.invokespecial 223, 3) := by decide +kernel
theorem dX3_ofSet_37 : decode cX3_ofSet 37 = .ok (.athrow, 1) := by decide +kernel
theorem dX3_ofSet_38 : decode cX3_ofSet 38 = .ok (.aload_n 3, 1) := by decide +kernel
theorem dX3_ofSet_39 : decode cX3_ofSet 39 = .ok (.getfield 224, 3) := by decide +kernel
theorem dX3_ofSet_42 : decode cX3_ofSet 42 = .ok (.iload_n 2, 1) := by decide +kernel
theorem dX3_ofSet_43 : decode cX3_ofSet 43 = .ok (.iaload, 1) := by decide +kernel
theorem dX3_ofSet_44 : decode cX3_ofSet 44 = .ok (.ireturn, 1) := by decide +kernel
def f_X3_ofSet_28 (M : zM) : Option ((String ⊕ Int32) × zM) :=
  some (Sum.inl "java/lang/IndexOutOfBoundsException", nE M)
set_option maxRecDepth 20000 in
set_option maxHeartbeats 4000000 in
theorem s_X3_ofSet_28 {L : zL} {X : zX} {M0 : zM} {N : Nat × Nat} {Q : State → Prop} {r : (String ⊕ Int32) × zM} (hq : vQX L X M0 N Q (zoI r.1) r.2) {M : zM} (h : f_X3_ofSet_28 M = some r) : V L X yX3_ofSet cX3_ofSet 4 (some FieldType.int) 7 M0 N Q M 28 [] [] := by
  unfold f_X3_ofSet_28 at h
  obtain rfl := Option.some.inj h
  exact V_throw (E := "java/lang/IndexOutOfBoundsException") (tx := "no such set") hq zx_X3_223 zk_X3_219 zs_X3_221 (by decide +kernel) (by decide) (Nat.le_of_ble_eq_true rfl) dX3_ofSet_28 dX3_ofSet_31 dX3_ofSet_32 dX3_ofSet_34 dX3_ofSet_37
def f_X3_ofSet_0 (a0 : Nat) (i1 : Int32) (i2 : Int32) (M : zM) : Option ((String ⊕ Int32) × zM) :=
  xb (f_X3_requirePlayer i1 M) fun w1 Mw1 =>
  (gR 9 0 Mw1 a0).bind fun v10 =>
  (lQ 1 Mw1 v10 i1).bind fun v11 =>
  if i2 < 0 then
  f_X3_ofSet_28 Mw1
  else
  (gI 7 4 Mw1 v11).bind fun v12 =>
  if v12 ≤ i2 then
  f_X3_ofSet_28 Mw1
  else
  if i2 < ((3 : Int32)) then
  (gR 7 1 Mw1 v11).bind fun v13 =>
  (lA 0 Mw1 v13 i2).bind fun v14 =>
  some (Sum.inr (v14), Mw1)
  else
  f_X3_ofSet_28 Mw1
set_option maxRecDepth 20000 in
set_option maxHeartbeats 4000000 in
theorem s_X3_ofSet_0 {L : zL} {X : zX} {M0 : zM} {N : Nat × Nat} {Q : State → Prop} {r : (String ⊕ Int32) × zM} (hq : vQX L X M0 N Q (zoI r.1) r.2) {a0 : Nat} {i1 : Int32} {i2 : Int32} {M : zM} (h : f_X3_ofSet_0 a0 i1 i2 M = some r) : V L X yX3_ofSet cX3_ofSet 4 (some FieldType.int) 7 M0 N Q M 0 [(0, .ref (zad L (a0))), (1, .int (i1)), (2, .int (i2))] [] := by
  unfold f_X3_ofSet_0 at h
  refine V_iload_n dX3_ofSet_0 rfl 1 rfl ?_
  replace h := xbs h
  rcases h with ⟨E_r1, M_r1, e_r1, rfl⟩ | ⟨w1, Mw1, e_r1, h⟩
  · exact V_callSt (As := [.int (i1)]) (rest := []) (c_X3_requirePlayer e_r1) hq (by decide +kernel) zc_X3_requirePlayer rfl (by decide) zm_X3_143 (Nat.le_of_ble_eq_true rfl) rfl dX3_ofSet_1
  · refine V_callSx_V (As := [.int (i1)]) (rest := []) (c_X3_requirePlayer e_r1) zc_X3_requirePlayer rfl (by decide) zm_X3_143 (Nat.le_of_ble_eq_true rfl) rfl dX3_ofSet_1 ?_
    refine V_pc (pc' := 4) rfl ?_
    refine V_aload_n dX3_ofSet_4 rfl 0 rfl ?_
    replace h := ob h
    obtain ⟨v10, e_v10, h⟩ := h
    refine V_getR zf_9_0 zl_X3_11 e_v10 dX3_ofSet_5 ?_
    refine V_pc (pc' := 8) rfl ?_
    refine V_iload_n dX3_ofSet_8 rfl 1 rfl ?_
    replace h := ob h
    obtain ⟨v11, e_v11, h⟩ := h
    refine V_aald (by decide) e_v11 dX3_ofSet_9 ?_
    refine V_pc (pc' := 10) rfl ?_
    refine V_astore_n (ls' := [(3, .ref (zad L (v11))), (0, .ref (zad L (a0))), (1, .int (i1)), (2, .int (i2))]) dX3_ofSet_10 rfl (by decide) rfl ?_
    refine V_iload_n dX3_ofSet_11 rfl 3 rfl ?_
    refine V_if_lt (tgt := 28) dX3_ofSet_12 (by decide) (fun c17 => ?_) (fun c17 => ?_)
    · replace h := (oi h).1 c17
      refine V_sub [] rfl ?_
      exact s_X3_ofSet_28 hq h
    · replace h := (oi h).2 c17
      refine V_iload_n dX3_ofSet_15 rfl 3 rfl ?_
      refine V_aload_n dX3_ofSet_16 rfl 0 rfl ?_
      replace h := ob h
      obtain ⟨v12, e_v12, h⟩ := h
      refine V_getI zf_7_4 zl_X3_167 e_v12 dX3_ofSet_17 ?_
      refine V_pc (pc' := 20) rfl ?_
      refine V_icmp_ge (tgt := 28) dX3_ofSet_20 (by decide) (fun c16 => ?_) (fun c16 => ?_)
      · replace h := (oi h).1 c16
        refine V_sub [] rfl ?_
        exact s_X3_ofSet_28 hq h
      · replace h := (oi h).2 c16
        refine V_iload_n dX3_ofSet_23 rfl 3 rfl ?_
        refine V_iconst (v := 3) dX3_ofSet_24 (by decide) ?_
        refine V_icmp_lt (tgt := 38) dX3_ofSet_25 (by decide) (fun c15 => ?_) (fun c15 => ?_)
        · replace h := (oi h).1 c15
          refine V_aload_n dX3_ofSet_38 rfl 0 rfl ?_
          replace h := ob h
          obtain ⟨v13, e_v13, h⟩ := h
          refine V_getR zf_7_1 zl_X3_224 e_v13 dX3_ofSet_39 ?_
          refine V_pc (pc' := 42) rfl ?_
          refine V_iload_n dX3_ofSet_42 rfl 3 rfl ?_
          replace h := ob h
          obtain ⟨v14, e_v14, h⟩ := h
          refine V_iald e_v14 dX3_ofSet_43 ?_
          refine V_pc (pc' := 44) rfl ?_
          obtain rfl := Option.some.inj h
          exact V_iretX rfl hq dX3_ofSet_44
        · replace h := (oi h).2 c15
          refine V_sub [] rfl ?_
          exact s_X3_ofSet_28 hq h
def f_X3_ofSet (a0 : Nat) (i1 : Int32) (i2 : Int32) (M : zM) : Option ((String ⊕ Int32) × zM) := f_X3_ofSet_0 a0 i1 i2 M
theorem c_X3_ofSet {L : zL} {l : Launch} {a0 : Nat} {i1 : Int32} {i2 : Int32} {M : zM} {r : (String ⊕ Int32) × zM} (h : f_X3_ofSet a0 i1 i2 M = some r) : CX L l yX3_ofSet cX3_ofSet 4 (some FieldType.int) 7 M [.ref (zad L (a0)), .int (i1), .int (i2)] (zoI r.1) r.2 :=
  CX.of ⟨by decide +kernel, by decide +kernel⟩ (Nat.le_of_ble_eq_true rfl) fun X Q hq => s_X3_ofSet_0 hq h
/-! Windsparlour.river(II)I -/
theorem dX3_river_0 : decode cX3_river 0 = .ok (.iload_n 1, 1) := by decide +kernel
theorem dX3_river_1 : decode cX3_river 1 = .ok (.invokestatic 143, 3) := by decide +kernel
theorem dX3_river_4 : decode cX3_river 4 = .ok (.aload_n 0, 1) := by decide +kernel
theorem dX3_river_5 : decode cX3_river 5 = .ok (.getfield 11, 3) := by decide +kernel
theorem dX3_river_8 : decode cX3_river 8 = .ok (.iload_n 1, 1) := by decide +kernel
theorem dX3_river_9 : decode cX3_river 9 = .ok (.aaload, 1) := by decide +kernel
theorem dX3_river_10 : decode cX3_river 10 = .ok (.astore_n 3, 1) := by decide +kernel
theorem dX3_river_11 : decode cX3_river 11 = .ok (.iload_n 2, 1) := by decide +kernel
theorem dX3_river_12 : decode cX3_river 12 = .ok (.ifCond .lt 17, 3) := by decide +kernel
theorem dX3_river_15 : decode cX3_river 15 = .ok (.iload_n 2, 1) := by decide +kernel
theorem dX3_river_16 : decode cX3_river 16 = .ok (.aload_n 3, 1) := by decide +kernel
theorem dX3_river_17 : decode cX3_river 17 = .ok (.getfield 127, 3) := by decide +kernel
theorem dX3_river_20 : decode cX3_river 20 = .ok (.if_icmp .ge 9, 3) := by decide +kernel
theorem dX3_river_23 : decode cX3_river 23 = .ok (.iload_n 2, 1) := by decide +kernel
theorem dX3_river_24 : decode cX3_river 24 = .ok (.bipush 64, 2) := by decide +kernel
theorem dX3_river_26 : decode cX3_river 26 = .ok (.if_icmp .lt 13, 3) := by decide +kernel
theorem dX3_river_29 : decode cX3_river 29 = .ok (.new 219, 3) := by decide +kernel
theorem dX3_river_32 : decode cX3_river 32 = .ok (.dup, 1) := by decide +kernel
theorem dX3_river_33 : decode cX3_river 33 = .ok (.ldc 227, 2) := by decide +kernel
theorem dX3_river_35 : decode cX3_river 35 = .ok (.invokespecial 223, 3) := by decide +kernel
theorem dX3_river_38 : decode cX3_river 38 = .ok (.athrow, 1) := by decide +kernel
theorem dX3_river_39 : decode cX3_river 39 = .ok (.aload_n 3, 1) := by decide +kernel
theorem dX3_river_40 : decode cX3_river 40 = .ok (.getfield 229, 3) := by decide +kernel
theorem dX3_river_43 : decode cX3_river 43 = .ok (.iload_n 2, 1) := by decide +kernel
theorem dX3_river_44 : decode cX3_river 44 = .ok (.iaload, 1) := by decide +kernel
theorem dX3_river_45 : decode cX3_river 45 = .ok (.ireturn, 1) := by decide +kernel
def f_X3_river_29 (M : zM) : Option ((String ⊕ Int32) × zM) :=
  some (Sum.inl "java/lang/IndexOutOfBoundsException", nE M)
set_option maxRecDepth 20000 in
set_option maxHeartbeats 4000000 in
theorem s_X3_river_29 {L : zL} {X : zX} {M0 : zM} {N : Nat × Nat} {Q : State → Prop} {r : (String ⊕ Int32) × zM} (hq : vQX L X M0 N Q (zoI r.1) r.2) {M : zM} (h : f_X3_river_29 M = some r) : V L X yX3_river cX3_river 4 (some FieldType.int) 7 M0 N Q M 29 [] [] := by
  unfold f_X3_river_29 at h
  obtain rfl := Option.some.inj h
  exact V_throw (E := "java/lang/IndexOutOfBoundsException") (tx := "no such place") hq zx_X3_223 zk_X3_219 zs_X3_227 (by decide +kernel) (by decide) (Nat.le_of_ble_eq_true rfl) dX3_river_29 dX3_river_32 dX3_river_33 dX3_river_35 dX3_river_38
def f_X3_river_0 (a0 : Nat) (i1 : Int32) (i2 : Int32) (M : zM) : Option ((String ⊕ Int32) × zM) :=
  xb (f_X3_requirePlayer i1 M) fun w1 Mw1 =>
  (gR 9 0 Mw1 a0).bind fun v10 =>
  (lQ 1 Mw1 v10 i1).bind fun v11 =>
  if i2 < 0 then
  f_X3_river_29 Mw1
  else
  (gI 7 5 Mw1 v11).bind fun v12 =>
  if v12 ≤ i2 then
  f_X3_river_29 Mw1
  else
  if i2 < ((64 : Int32)) then
  (gR 7 2 Mw1 v11).bind fun v13 =>
  (lA 0 Mw1 v13 i2).bind fun v14 =>
  some (Sum.inr (v14), Mw1)
  else
  f_X3_river_29 Mw1
set_option maxRecDepth 20000 in
set_option maxHeartbeats 4000000 in
theorem s_X3_river_0 {L : zL} {X : zX} {M0 : zM} {N : Nat × Nat} {Q : State → Prop} {r : (String ⊕ Int32) × zM} (hq : vQX L X M0 N Q (zoI r.1) r.2) {a0 : Nat} {i1 : Int32} {i2 : Int32} {M : zM} (h : f_X3_river_0 a0 i1 i2 M = some r) : V L X yX3_river cX3_river 4 (some FieldType.int) 7 M0 N Q M 0 [(0, .ref (zad L (a0))), (1, .int (i1)), (2, .int (i2))] [] := by
  unfold f_X3_river_0 at h
  refine V_iload_n dX3_river_0 rfl 1 rfl ?_
  replace h := xbs h
  rcases h with ⟨E_r1, M_r1, e_r1, rfl⟩ | ⟨w1, Mw1, e_r1, h⟩
  · exact V_callSt (As := [.int (i1)]) (rest := []) (c_X3_requirePlayer e_r1) hq (by decide +kernel) zc_X3_requirePlayer rfl (by decide) zm_X3_143 (Nat.le_of_ble_eq_true rfl) rfl dX3_river_1
  · refine V_callSx_V (As := [.int (i1)]) (rest := []) (c_X3_requirePlayer e_r1) zc_X3_requirePlayer rfl (by decide) zm_X3_143 (Nat.le_of_ble_eq_true rfl) rfl dX3_river_1 ?_
    refine V_pc (pc' := 4) rfl ?_
    refine V_aload_n dX3_river_4 rfl 0 rfl ?_
    replace h := ob h
    obtain ⟨v10, e_v10, h⟩ := h
    refine V_getR zf_9_0 zl_X3_11 e_v10 dX3_river_5 ?_
    refine V_pc (pc' := 8) rfl ?_
    refine V_iload_n dX3_river_8 rfl 1 rfl ?_
    replace h := ob h
    obtain ⟨v11, e_v11, h⟩ := h
    refine V_aald (by decide) e_v11 dX3_river_9 ?_
    refine V_pc (pc' := 10) rfl ?_
    refine V_astore_n (ls' := [(3, .ref (zad L (v11))), (0, .ref (zad L (a0))), (1, .int (i1)), (2, .int (i2))]) dX3_river_10 rfl (by decide) rfl ?_
    refine V_iload_n dX3_river_11 rfl 3 rfl ?_
    refine V_if_lt (tgt := 29) dX3_river_12 (by decide) (fun c17 => ?_) (fun c17 => ?_)
    · replace h := (oi h).1 c17
      refine V_sub [] rfl ?_
      exact s_X3_river_29 hq h
    · replace h := (oi h).2 c17
      refine V_iload_n dX3_river_15 rfl 3 rfl ?_
      refine V_aload_n dX3_river_16 rfl 0 rfl ?_
      replace h := ob h
      obtain ⟨v12, e_v12, h⟩ := h
      refine V_getI zf_7_5 zl_X3_127 e_v12 dX3_river_17 ?_
      refine V_pc (pc' := 20) rfl ?_
      refine V_icmp_ge (tgt := 29) dX3_river_20 (by decide) (fun c16 => ?_) (fun c16 => ?_)
      · replace h := (oi h).1 c16
        refine V_sub [] rfl ?_
        exact s_X3_river_29 hq h
      · replace h := (oi h).2 c16
        refine V_iload_n dX3_river_23 rfl 3 rfl ?_
        refine V_bipush (v := 64) dX3_river_24 (by decide) ?_
        refine V_icmp_lt (tgt := 39) dX3_river_26 (by decide) (fun c15 => ?_) (fun c15 => ?_)
        · replace h := (oi h).1 c15
          refine V_aload_n dX3_river_39 rfl 0 rfl ?_
          replace h := ob h
          obtain ⟨v13, e_v13, h⟩ := h
          refine V_getR zf_7_2 zl_X3_229 e_v13 dX3_river_40 ?_
          refine V_pc (pc' := 43) rfl ?_
          refine V_iload_n dX3_river_43 rfl 3 rfl ?_
          replace h := ob h
          obtain ⟨v14, e_v14, h⟩ := h
          refine V_iald e_v14 dX3_river_44 ?_
          refine V_pc (pc' := 45) rfl ?_
          obtain rfl := Option.some.inj h
          exact V_iretX rfl hq dX3_river_45
        · replace h := (oi h).2 c15
          refine V_sub [] rfl ?_
          exact s_X3_river_29 hq h
def f_X3_river (a0 : Nat) (i1 : Int32) (i2 : Int32) (M : zM) : Option ((String ⊕ Int32) × zM) := f_X3_river_0 a0 i1 i2 M
theorem c_X3_river {L : zL} {l : Launch} {a0 : Nat} {i1 : Int32} {i2 : Int32} {M : zM} {r : (String ⊕ Int32) × zM} (h : f_X3_river a0 i1 i2 M = some r) : CX L l yX3_river cX3_river 4 (some FieldType.int) 7 M [.ref (zad L (a0)), .int (i1), .int (i2)] (zoI r.1) r.2 :=
  CX.of ⟨by decide +kernel, by decide +kernel⟩ (Nat.le_of_ble_eq_true rfl) fun X Q hq => s_X3_river_0 hq h
/-! Windsparlour.waits(I)J -/
theorem dX3_waits_0 : decode cX3_waits 0 = .ok (.iload_n 1, 1) := by decide +kernel
theorem dX3_waits_1 : decode cX3_waits 1 = .ok (.invokestatic 143, 3) := by decide +kernel
theorem dX3_waits_4 : decode cX3_waits 4 = .ok (.aload_n 0, 1) := by decide +kernel
theorem dX3_waits_5 : decode cX3_waits 5 = .ok (.aload_n 0, 1) := by decide +kernel
theorem dX3_waits_6 : decode cX3_waits 6 = .ok (.getfield 11, 3) := by decide +kernel
theorem dX3_waits_9 : decode cX3_waits 9 = .ok (.iload_n 1, 1) := by decide +kernel
theorem dX3_waits_10 : decode cX3_waits 10 = .ok (.aaload, 1) := by decide +kernel
theorem dX3_waits_11 : decode cX3_waits 11 = .ok (.invokevirtual 209, 3) := by decide +kernel
theorem dX3_waits_14 : decode cX3_waits 14 = .ok (.lreturn, 1) := by decide +kernel
def f_X3_waits_0 (a0 : Nat) (i1 : Int32) (M : zM) : Option ((String ⊕ Int64) × zM) :=
  xb (f_X3_requirePlayer i1 M) fun w1 Mw1 =>
  (gR 9 0 Mw1 a0).bind fun v6 =>
  (lQ 1 Mw1 v6 i1).bind fun v7 =>
  if mK Mw1 a0 = 9 then
  (f_X3_waitsOf a0 v7 Mw1).bind fun r8 =>
  some (Sum.inr (r8.1), r8.2)
  else none
set_option maxRecDepth 20000 in
set_option maxHeartbeats 4000000 in
theorem s_X3_waits_0 {L : zL} {X : zX} {M0 : zM} {N : Nat × Nat} {Q : State → Prop} {r : (String ⊕ Int64) × zM} (hq : vQX L X M0 N Q (zoJ r.1) r.2) {a0 : Nat} {i1 : Int32} {M : zM} (h : f_X3_waits_0 a0 i1 M = some r) : V L X yX3_waits cX3_waits 2 (some FieldType.long) 7 M0 N Q M 0 [(0, .ref (zad L (a0))), (1, .int (i1))] [] := by
  unfold f_X3_waits_0 at h
  refine V_iload_n dX3_waits_0 rfl 1 rfl ?_
  replace h := xbs h
  rcases h with ⟨E_r1, M_r1, e_r1, rfl⟩ | ⟨w1, Mw1, e_r1, h⟩
  · exact V_callSt (As := [.int (i1)]) (rest := []) (c_X3_requirePlayer e_r1) hq (by decide +kernel) zc_X3_requirePlayer rfl (by decide) zm_X3_143 (Nat.le_of_ble_eq_true rfl) rfl dX3_waits_1
  · refine V_callSx_V (As := [.int (i1)]) (rest := []) (c_X3_requirePlayer e_r1) zc_X3_requirePlayer rfl (by decide) zm_X3_143 (Nat.le_of_ble_eq_true rfl) rfl dX3_waits_1 ?_
    refine V_pc (pc' := 4) rfl ?_
    refine V_aload_n dX3_waits_4 rfl 0 rfl ?_
    refine V_aload_n dX3_waits_5 rfl 0 rfl ?_
    replace h := ob h
    obtain ⟨v6, e_v6, h⟩ := h
    refine V_getR zf_9_0 zl_X3_11 e_v6 dX3_waits_6 ?_
    refine V_pc (pc' := 9) rfl ?_
    refine V_iload_n dX3_waits_9 rfl 1 rfl ?_
    replace h := ob h
    obtain ⟨v7, e_v7, h⟩ := h
    refine V_aald (by decide) e_v7 dX3_waits_10 ?_
    refine V_pc (pc' := 11) rfl ?_
    replace h := ox h
    obtain ⟨c9, h⟩ := h
    replace h := ob h
    obtain ⟨r8, e_r8, h⟩ := h
    refine V_callV_J (As := [.ref (zad L (v7))]) (rest := []) (c_X3_waitsOf e_r8) zc_X3_waitsOf rfl (by decide) rfl (by decide) (Or.inl c9) zm_X3_209 (Nat.le_of_ble_eq_true rfl) rfl dX3_waits_11 ?_
    refine V_pc (pc' := 14) rfl ?_
    obtain rfl := Option.some.inj h
    exact V_lretX rfl hq dX3_waits_14
def f_X3_waits (a0 : Nat) (i1 : Int32) (M : zM) : Option ((String ⊕ Int64) × zM) := f_X3_waits_0 a0 i1 M
theorem c_X3_waits {L : zL} {l : Launch} {a0 : Nat} {i1 : Int32} {M : zM} {r : (String ⊕ Int64) × zM} (h : f_X3_waits a0 i1 M = some r) : CX L l yX3_waits cX3_waits 2 (some FieldType.long) 7 M [.ref (zad L (a0)), .int (i1)] (zoJ r.1) r.2 :=
  CX.of ⟨by decide +kernel, by decide +kernel⟩ (Nat.le_of_ble_eq_true rfl) fun X Q hq => s_X3_waits_0 hq h
