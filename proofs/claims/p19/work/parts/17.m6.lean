/-! ===== METHODS, by program ===== -/
/-! WindsparlourModel.isIn(III)Z -/
theorem dX7_isIn_0 : decode cX7_isIn 0 = .ok (.iload_n 0, 1) := by decide +kernel
theorem dX7_isIn_1 : decode cX7_isIn 1 = .ok (.iload_n 1, 1) := by decide +kernel
theorem dX7_isIn_2 : decode cX7_isIn 2 = .ok (.if_icmp .lt 12, 3) := by decide +kernel
theorem dX7_isIn_5 : decode cX7_isIn 5 = .ok (.iload_n 0, 1) := by decide +kernel
theorem dX7_isIn_6 : decode cX7_isIn 6 = .ok (.iload_n 2, 1) := by decide +kernel
theorem dX7_isIn_7 : decode cX7_isIn 7 = .ok (.if_icmp .gt 7, 3) := by decide +kernel
theorem dX7_isIn_10 : decode cX7_isIn 10 = .ok (.iconst 1, 1) := by decide +kernel
theorem dX7_isIn_11 : decode cX7_isIn 11 = .ok (.goto 4, 3) := by decide +kernel
theorem dX7_isIn_14 : decode cX7_isIn 14 = .ok (.iconst 0, 1) := by decide +kernel
theorem dX7_isIn_15 : decode cX7_isIn 15 = .ok (.ireturn, 1) := by decide +kernel
def f_X7_isIn_0 (i0 : Int32) (i1 : Int32) (i2 : Int32) (M : zM) : Option (Int32 × zM) :=
  if i0 < i1 then
  some ((0 : Int32), M)
  else
  if i2 < i0 then
  some ((0 : Int32), M)
  else
  some ((1 : Int32), M)
set_option maxRecDepth 20000 in
set_option maxHeartbeats 4000000 in
theorem s_X7_isIn_0 {L : zL} {X : zX} {M0 : zM} {N : Nat × Nat} {Q : State → Prop} {r : Int32 × zM} (hq : vQ L X M0 N Q (some (.int r.1)) r.2) {i0 : Int32} {i1 : Int32} {i2 : Int32} {M : zM} (h : f_X7_isIn_0 i0 i1 i2 M = some r) : V L X yX7_isIn cX7_isIn 3 (some FieldType.boolean) 1 M0 N Q M 0 [(0, .int (i0)), (1, .int (i1)), (2, .int (i2))] [] := by
  unfold f_X7_isIn_0 at h
  refine V_iload_n dX7_isIn_0 rfl 0 rfl ?_
  refine V_iload_n dX7_isIn_1 rfl 1 rfl ?_
  refine V_icmp_lt (tgt := 14) dX7_isIn_2 (by decide) (fun c2 => ?_) (fun c2 => ?_)
  · replace h := (oi h).1 c2
    refine V_iconst (v := 0) dX7_isIn_14 (by decide) ?_
    obtain rfl := Option.some.inj h
    exact V_zret (ty := .boolean) rfl rfl hq dX7_isIn_15
  · replace h := (oi h).2 c2
    refine V_iload_n dX7_isIn_5 rfl 0 rfl ?_
    refine V_iload_n dX7_isIn_6 rfl 2 rfl ?_
    refine V_icmp_gt (tgt := 14) dX7_isIn_7 (by decide) (fun c1 => ?_) (fun c1 => ?_)
    · replace h := (oi h).1 c1
      refine V_iconst (v := 0) dX7_isIn_14 (by decide) ?_
      obtain rfl := Option.some.inj h
      exact V_zret (ty := .boolean) rfl rfl hq dX7_isIn_15
    · replace h := (oi h).2 c1
      refine V_iconst (v := 1) dX7_isIn_10 (by decide) ?_
      refine V_goto (tgt := 15) dX7_isIn_11 (by decide) ?_
      obtain rfl := Option.some.inj h
      exact V_zret (ty := .boolean) rfl rfl hq dX7_isIn_15
def f_X7_isIn (i0 : Int32) (i1 : Int32) (i2 : Int32) (M : zM) : Option (Int32 × zM) := f_X7_isIn_0 i0 i1 i2 M
theorem c_X7_isIn {L : zL} {l : Launch} {i0 : Int32} {i1 : Int32} {i2 : Int32} {M : zM} {r : Int32 × zM} (h : f_X7_isIn i0 i1 i2 M = some r) : CP L l yX7_isIn cX7_isIn 3 (some FieldType.boolean) 1 M [.int (i0), .int (i1), .int (i2)] (some (.int r.1)) r.2 :=
  CP.of ⟨by decide +kernel, by decide +kernel⟩ (Nat.le_of_ble_eq_true rfl) fun X Q hq => s_X7_isIn_0 hq h
/-! WindsparlourModel$Lying.of(I)I -/
theorem dX5_of_0 : decode cX5_of 0 = .ok (.aload_n 0, 1) := by decide +kernel
theorem dX5_of_1 : decode cX5_of 1 = .ok (.getfield 15, 3) := by decide +kernel
theorem dX5_of_4 : decode cX5_of 4 = .ok (.iconst 1, 1) := by decide +kernel
theorem dX5_of_5 : decode cX5_of 5 = .ok (.if_icmp .ne 28, 3) := by decide +kernel
theorem dX5_of_8 : decode cX5_of 8 = .ok (.iload_n 1, 1) := by decide +kernel
theorem dX5_of_9 : decode cX5_of 9 = .ok (.aload_n 0, 1) := by decide +kernel
theorem dX5_of_10 : decode cX5_of 10 = .ok (.getfield 9, 3) := by decide +kernel
theorem dX5_of_13 : decode cX5_of 13 = .ok (.aload_n 0, 1) := by decide +kernel
theorem dX5_of_14 : decode cX5_of 14 = .ok (.getfield 9, 3) := by decide +kernel
theorem dX5_of_17 : decode cX5_of 17 = .ok (.iconst 2, 1) := by decide +kernel
theorem dX5_of_18 : decode cX5_of 18 = .ok (.iadd, 1) := by decide +kernel
theorem dX5_of_19 : decode cX5_of 19 = .ok (.invokestatic 18, 3) := by decide +kernel
theorem dX5_of_22 : decode cX5_of 22 = .ok (.ifCond .eq 7, 3) := by decide +kernel
theorem dX5_of_25 : decode cX5_of 25 = .ok (.iconst 1, 1) := by decide +kernel
theorem dX5_of_26 : decode cX5_of 26 = .ok (.goto 31, 3) := by decide +kernel
theorem dX5_of_29 : decode cX5_of 29 = .ok (.iconst 0, 1) := by decide +kernel
theorem dX5_of_30 : decode cX5_of 30 = .ok (.goto 27, 3) := by decide +kernel
theorem dX5_of_33 : decode cX5_of 33 = .ok (.iload_n 1, 1) := by decide +kernel
theorem dX5_of_34 : decode cX5_of 34 = .ok (.aload_n 0, 1) := by decide +kernel
theorem dX5_of_35 : decode cX5_of 35 = .ok (.getfield 9, 3) := by decide +kernel
theorem dX5_of_38 : decode cX5_of 38 = .ok (.if_icmp .eq 7, 3) := by decide +kernel
theorem dX5_of_41 : decode cX5_of 41 = .ok (.iconst 0, 1) := by decide +kernel
theorem dX5_of_42 : decode cX5_of 42 = .ok (.goto 15, 3) := by decide +kernel
theorem dX5_of_45 : decode cX5_of 45 = .ok (.aload_n 0, 1) := by decide +kernel
theorem dX5_of_46 : decode cX5_of 46 = .ok (.getfield 15, 3) := by decide +kernel
theorem dX5_of_49 : decode cX5_of 49 = .ok (.ifCond .ne 7, 3) := by decide +kernel
theorem dX5_of_52 : decode cX5_of 52 = .ok (.iconst 3, 1) := by decide +kernel
theorem dX5_of_53 : decode cX5_of 53 = .ok (.goto 4, 3) := by decide +kernel
theorem dX5_of_56 : decode cX5_of 56 = .ok (.iconst 4, 1) := by decide +kernel
theorem dX5_of_57 : decode cX5_of 57 = .ok (.ireturn, 1) := by decide +kernel
def f_X5_of_0 (a0 : Nat) (i1 : Int32) (M : zM) : Option (Int32 × zM) :=
  (gI 11 1 M a0).bind fun v1 =>
  if v1 = ((1 : Int32)) then
  (gI 11 0 M a0).bind fun v6 =>
  (gI 11 0 M a0).bind fun v7 =>
  (f_X7_isIn i1 v6 ((v7 + ((2 : Int32)))) M).bind fun r8 =>
  if r8.1 = 0 then
  some ((0 : Int32), r8.2)
  else
  some ((1 : Int32), r8.2)
  else
  (gI 11 0 M a0).bind fun v2 =>
  if i1 = v2 then
  (gI 11 1 M a0).bind fun v3 =>
  if v3 = 0 then
  some ((3 : Int32), M)
  else
  some ((4 : Int32), M)
  else
  some ((0 : Int32), M)
set_option maxRecDepth 20000 in
set_option maxHeartbeats 4000000 in
theorem s_X5_of_0 {L : zL} {X : zX} {M0 : zM} {N : Nat × Nat} {Q : State → Prop} {r : Int32 × zM} (hq : vQ L X M0 N Q (some (.int r.1)) r.2) {a0 : Nat} {i1 : Int32} {M : zM} (h : f_X5_of_0 a0 i1 M = some r) : V L X yX5_of cX5_of 2 (some FieldType.int) 2 M0 N Q M 0 [(0, .ref (zad L (a0))), (1, .int (i1))] [] := by
  unfold f_X5_of_0 at h
  refine V_aload_n dX5_of_0 rfl 0 rfl ?_
  replace h := ob h
  obtain ⟨v1, e_v1, h⟩ := h
  refine V_getI zf_11_1 zl_X5_15 e_v1 dX5_of_1 ?_
  refine V_pc (pc' := 4) rfl ?_
  refine V_iconst (v := 1) dX5_of_4 (by decide) ?_
  refine V_icmp_ne (tgt := 33) dX5_of_5 (by decide) (fun c10 => ?_) (fun c10 => ?_)
  · replace h := (oi h).2 c10
    refine V_iload_n dX5_of_33 rfl 1 rfl ?_
    refine V_aload_n dX5_of_34 rfl 0 rfl ?_
    replace h := ob h
    obtain ⟨v2, e_v2, h⟩ := h
    refine V_getI zf_11_0 zl_X5_9 e_v2 dX5_of_35 ?_
    refine V_pc (pc' := 38) rfl ?_
    refine V_icmp_eq (tgt := 45) dX5_of_38 (by decide) (fun c5 => ?_) (fun c5 => ?_)
    · replace h := (oi h).1 c5
      refine V_aload_n dX5_of_45 rfl 0 rfl ?_
      replace h := ob h
      obtain ⟨v3, e_v3, h⟩ := h
      refine V_getI zf_11_1 zl_X5_15 e_v3 dX5_of_46 ?_
      refine V_pc (pc' := 49) rfl ?_
      refine V_if_ne (tgt := 56) dX5_of_49 (by decide) (fun c4 => ?_) (fun c4 => ?_)
      · replace h := (oi h).2 c4
        refine V_iconst (v := 4) dX5_of_56 (by decide) ?_
        obtain rfl := Option.some.inj h
        exact V_iret rfl hq dX5_of_57
      · replace h := (oi h).1 c4
        refine V_iconst (v := 3) dX5_of_52 (by decide) ?_
        refine V_goto (tgt := 57) dX5_of_53 (by decide) ?_
        obtain rfl := Option.some.inj h
        exact V_iret rfl hq dX5_of_57
    · replace h := (oi h).2 c5
      refine V_iconst (v := 0) dX5_of_41 (by decide) ?_
      refine V_goto (tgt := 57) dX5_of_42 (by decide) ?_
      obtain rfl := Option.some.inj h
      exact V_iret rfl hq dX5_of_57
  · replace h := (oi h).1 c10
    refine V_iload_n dX5_of_8 rfl 1 rfl ?_
    refine V_aload_n dX5_of_9 rfl 0 rfl ?_
    replace h := ob h
    obtain ⟨v6, e_v6, h⟩ := h
    refine V_getI zf_11_0 zl_X5_9 e_v6 dX5_of_10 ?_
    refine V_pc (pc' := 13) rfl ?_
    refine V_aload_n dX5_of_13 rfl 0 rfl ?_
    replace h := ob h
    obtain ⟨v7, e_v7, h⟩ := h
    refine V_getI zf_11_0 zl_X5_9 e_v7 dX5_of_14 ?_
    refine V_pc (pc' := 17) rfl ?_
    refine V_iconst (v := 2) dX5_of_17 (by decide) ?_
    refine V_iadd dX5_of_18 ?_
    replace h := ob h
    obtain ⟨r8, e_r8, h⟩ := h
    refine V_callSN_I (As := [.int (i1), .int (v6), .int ((v7 + ((2 : Int32))))]) (rest := []) (c_X7_isIn e_r8) zc_X7_isIn rfl (by decide) zm_X5_18 (Nat.le_of_ble_eq_true rfl) rfl dX5_of_19 ?_
    refine V_pc (pc' := 22) rfl ?_
    refine V_if_eq (tgt := 29) dX5_of_22 (by decide) (fun c9 => ?_) (fun c9 => ?_)
    · replace h := (oi h).1 c9
      refine V_iconst (v := 0) dX5_of_29 (by decide) ?_
      refine V_goto (tgt := 57) dX5_of_30 (by decide) ?_
      obtain rfl := Option.some.inj h
      exact V_iret rfl hq dX5_of_57
    · replace h := (oi h).2 c9
      refine V_iconst (v := 1) dX5_of_25 (by decide) ?_
      refine V_goto (tgt := 57) dX5_of_26 (by decide) ?_
      obtain rfl := Option.some.inj h
      exact V_iret rfl hq dX5_of_57
def f_X5_of (a0 : Nat) (i1 : Int32) (M : zM) : Option (Int32 × zM) := f_X5_of_0 a0 i1 M
theorem c_X5_of {L : zL} {l : Launch} {a0 : Nat} {i1 : Int32} {M : zM} {r : Int32 × zM} (h : f_X5_of a0 i1 M = some r) : CP L l yX5_of cX5_of 2 (some FieldType.int) 2 M [.ref (zad L (a0)), .int (i1)] (some (.int r.1)) r.2 :=
  CP.of ⟨by decide +kernel, by decide +kernel⟩ (Nat.le_of_ble_eq_true rfl) fun X Q hq => s_X5_of_0 hq h
/-! java/util/AbstractCollection.<init>()V -/
theorem dJxa1e45_init_da8c8_0 : decode cJxa1e45_init_da8c8 0 = .ok (.aload_n 0, 1) := by decide +kernel
theorem dJxa1e45_init_da8c8_1 : decode cJxa1e45_init_da8c8 1 = .ok (.invokespecial 1, 3) := by decide +kernel
theorem dJxa1e45_init_da8c8_4 : decode cJxa1e45_init_da8c8 4 = .ok (.return_, 1) := by decide +kernel
def f_Jxa1e45_init_da8c8_0 (a0 : Nat) (M : zM) : Option (Unit × zM) :=
  some ((), M)
set_option maxRecDepth 20000 in
set_option maxHeartbeats 4000000 in
theorem s_Jxa1e45_init_da8c8_0 {L : zL} {X : zX} {M0 : zM} {N : Nat × Nat} {Q : State → Prop} {r : Unit × zM} (hq : vQ L X M0 N Q none r.2) {a0 : Nat} {M : zM} (h : f_Jxa1e45_init_da8c8_0 a0 M = some r) : V L X yJxa1e45_init_da8c8 cJxa1e45_init_da8c8 1 (none : Option FieldType) 1 M0 N Q M 0 [(0, .ref (zad L (a0)))] [] := by
  unfold f_Jxa1e45_init_da8c8_0 at h
  refine V_aload_n dJxa1e45_init_da8c8_0 rfl 0 rfl ?_
  refine V_objInit zo_Jxa1e45_1 (by decide) (Nat.le_of_ble_eq_true rfl) dJxa1e45_init_da8c8_1 ?_
  obtain rfl := Option.some.inj h
  exact V_vret rfl hq dJxa1e45_init_da8c8_4
def f_Jxa1e45_init_da8c8 (a0 : Nat) (M : zM) : Option (Unit × zM) := f_Jxa1e45_init_da8c8_0 a0 M
theorem c_Jxa1e45_init_da8c8 {L : zL} {l : Launch} {a0 : Nat} {M : zM} {r : Unit × zM} (h : f_Jxa1e45_init_da8c8 a0 M = some r) : CP L l yJxa1e45_init_da8c8 cJxa1e45_init_da8c8 1 (none : Option FieldType) 1 M [.ref (zad L (a0))] none r.2 :=
  CP.of ⟨by decide +kernel, by decide +kernel⟩ (Nat.le_of_ble_eq_true rfl) fun X Q hq => s_Jxa1e45_init_da8c8_0 hq h
/-! java/util/AbstractList.<init>()V -/
theorem dJxc12de_init_da8c8_0 : decode cJxc12de_init_da8c8 0 = .ok (.aload_n 0, 1) := by decide +kernel
theorem dJxc12de_init_da8c8_1 : decode cJxc12de_init_da8c8 1 = .ok (.invokespecial 1, 3) := by decide +kernel
theorem dJxc12de_init_da8c8_4 : decode cJxc12de_init_da8c8 4 = .ok (.aload_n 0, 1) := by decide +kernel
theorem dJxc12de_init_da8c8_5 : decode cJxc12de_init_da8c8 5 = .ok (.iconst 0, 1) := by decide +kernel
theorem dJxc12de_init_da8c8_6 : decode cJxc12de_init_da8c8 6 = .ok (.putfield 7, 3) := by decide +kernel
theorem dJxc12de_init_da8c8_9 : decode cJxc12de_init_da8c8 9 = .ok (.return_, 1) := by decide +kernel
def f_Jxc12de_init_da8c8_0 (a0 : Nat) (M : zM) : Option (Unit × zM) :=
  (f_Jxa1e45_init_da8c8 a0 M).bind fun r1 =>
  (pI 5 0 r1.2 a0 ((0 : Int32))).bind fun M2 =>
  some ((), M2)
set_option maxRecDepth 20000 in
set_option maxHeartbeats 4000000 in
theorem s_Jxc12de_init_da8c8_0 {L : zL} {X : zX} {M0 : zM} {N : Nat × Nat} {Q : State → Prop} {r : Unit × zM} (hq : vQ L X M0 N Q none r.2) {a0 : Nat} {M : zM} (h : f_Jxc12de_init_da8c8_0 a0 M = some r) : V L X yJxc12de_init_da8c8 cJxc12de_init_da8c8 1 (none : Option FieldType) 2 M0 N Q M 0 [(0, .ref (zad L (a0)))] [] := by
  unfold f_Jxc12de_init_da8c8_0 at h
  refine V_aload_n dJxc12de_init_da8c8_0 rfl 0 rfl ?_
  replace h := ob h
  obtain ⟨r1, e_r1, h⟩ := h
  refine V_callI_V (As := []) (rest := []) (c_Jxa1e45_init_da8c8 e_r1) zc_Jxa1e45_init_da8c8 rfl (by decide) zm_Jxc12de_1 rfl (Nat.le_of_ble_eq_true rfl) rfl dJxc12de_init_da8c8_1 ?_
  refine V_pc (pc' := 4) rfl ?_
  refine V_aload_n dJxc12de_init_da8c8_4 rfl 0 rfl ?_
  refine V_iconst (v := 0) dJxc12de_init_da8c8_5 (by decide) ?_
  replace h := ob h
  obtain ⟨M2, e_M2, h⟩ := h
  refine V_putI zf_5_0 zl_Jxc12de_7 (Or.inl rfl) rfl e_M2 dJxc12de_init_da8c8_6 ?_
  refine V_pc (pc' := 9) rfl ?_
  obtain rfl := Option.some.inj h
  exact V_vret rfl hq dJxc12de_init_da8c8_9
def f_Jxc12de_init_da8c8 (a0 : Nat) (M : zM) : Option (Unit × zM) := f_Jxc12de_init_da8c8_0 a0 M
theorem c_Jxc12de_init_da8c8 {L : zL} {l : Launch} {a0 : Nat} {M : zM} {r : Unit × zM} (h : f_Jxc12de_init_da8c8 a0 M = some r) : CP L l yJxc12de_init_da8c8 cJxc12de_init_da8c8 1 (none : Option FieldType) 2 M [.ref (zad L (a0))] none r.2 :=
  CP.of ⟨by decide +kernel, by decide +kernel⟩ (Nat.le_of_ble_eq_true rfl) fun X Q hq => s_Jxc12de_init_da8c8_0 hq h
/-! java/util/ArrayList.<init>()V -/
theorem dJx4a65c_init_da8c8_0 : decode cJx4a65c_init_da8c8 0 = .ok (.aload_n 0, 1) := by decide +kernel
theorem dJx4a65c_init_da8c8_1 : decode cJx4a65c_init_da8c8 1 = .ok (.invokespecial 1, 3) := by decide +kernel
theorem dJx4a65c_init_da8c8_4 : decode cJx4a65c_init_da8c8 4 = .ok (.aload_n 0, 1) := by decide +kernel
theorem dJx4a65c_init_da8c8_5 : decode cJx4a65c_init_da8c8 5 = .ok (.getstatic 39, 3) := by decide +kernel
theorem dJx4a65c_init_da8c8_8 : decode cJx4a65c_init_da8c8 8 = .ok (.putfield 9, 3) := by decide +kernel
theorem dJx4a65c_init_da8c8_11 : decode cJx4a65c_init_da8c8 11 = .ok (.return_, 1) := by decide +kernel
def f_Jx4a65c_init_da8c8_0 (a0 : Nat) (M : zM) : Option (Unit × zM) :=
  (f_Jxc12de_init_da8c8 a0 M).bind fun r1 =>
  (pR 5 1 r1.2 a0 4).bind fun M2 =>
  some ((), M2)
set_option maxRecDepth 20000 in
set_option maxHeartbeats 4000000 in
theorem s_Jx4a65c_init_da8c8_0 {L : zL} {X : zX} {M0 : zM} {N : Nat × Nat} {Q : State → Prop} {r : Unit × zM} (hq : vQ L X M0 N Q none r.2) {a0 : Nat} {M : zM} (h : f_Jx4a65c_init_da8c8_0 a0 M = some r) : V L X yJx4a65c_init_da8c8 cJx4a65c_init_da8c8 1 (none : Option FieldType) 3 M0 N Q M 0 [(0, .ref (zad L (a0)))] [] := by
  unfold f_Jx4a65c_init_da8c8_0 at h
  refine V_aload_n dJx4a65c_init_da8c8_0 rfl 0 rfl ?_
  replace h := ob h
  obtain ⟨r1, e_r1, h⟩ := h
  refine V_callI_V (As := []) (rest := []) (c_Jxc12de_init_da8c8 e_r1) zc_Jxc12de_init_da8c8 rfl (by decide) zm_Jx4a65c_1 rfl (Nat.le_of_ble_eq_true rfl) rfl dJx4a65c_init_da8c8_1 ?_
  refine V_pc (pc' := 4) rfl ?_
  refine V_aload_n dJx4a65c_init_da8c8_4 rfl 0 rfl ?_
  refine V_gets (zst_3 L) zg_Jx4a65c_39 rfl dJx4a65c_init_da8c8_5 ?_
  replace h := ob h
  obtain ⟨M2, e_M2, h⟩ := h
  refine V_putR zf_5_1 zl_Jx4a65c_9 (Or.inl rfl) rfl e_M2 dJx4a65c_init_da8c8_8 ?_
  refine V_pc (pc' := 11) rfl ?_
  obtain rfl := Option.some.inj h
  exact V_vret rfl hq dJx4a65c_init_da8c8_11
def f_Jx4a65c_init_da8c8 (a0 : Nat) (M : zM) : Option (Unit × zM) := f_Jx4a65c_init_da8c8_0 a0 M
theorem c_Jx4a65c_init_da8c8 {L : zL} {l : Launch} {a0 : Nat} {M : zM} {r : Unit × zM} (h : f_Jx4a65c_init_da8c8 a0 M = some r) : CP L l yJx4a65c_init_da8c8 cJx4a65c_init_da8c8 1 (none : Option FieldType) 3 M [.ref (zad L (a0))] none r.2 :=
  CP.of ⟨by decide +kernel, by decide +kernel⟩ (Nat.le_of_ble_eq_true rfl) fun X Q hq => s_Jx4a65c_init_da8c8_0 hq h
/-! WindsparlourModel$Player.<init>()V -/
theorem dX6_init_0 : decode cX6_init 0 = .ok (.aload_n 0, 1) := by decide +kernel
theorem dX6_init_1 : decode cX6_init 1 = .ok (.invokespecial 3, 3) := by decide +kernel
theorem dX6_init_4 : decode cX6_init 4 = .ok (.aload_n 0, 1) := by decide +kernel
theorem dX6_init_5 : decode cX6_init 5 = .ok (.sipush 250, 3) := by decide +kernel
theorem dX6_init_8 : decode cX6_init 8 = .ok (.putfield 9, 3) := by decide +kernel
theorem dX6_init_11 : decode cX6_init 11 = .ok (.aload_n 0, 1) := by decide +kernel
theorem dX6_init_12 : decode cX6_init 12 = .ok (.bipush 25, 2) := by decide +kernel
theorem dX6_init_14 : decode cX6_init 14 = .ok (.newarray .int, 2) := by decide +kernel
theorem dX6_init_16 : decode cX6_init 16 = .ok (.putfield 15, 3) := by decide +kernel
theorem dX6_init_19 : decode cX6_init 19 = .ok (.aload_n 0, 1) := by decide +kernel
theorem dX6_init_20 : decode cX6_init 20 = .ok (.new 19, 3) := by decide +kernel
theorem dX6_init_23 : decode cX6_init 23 = .ok (.dup, 1) := by decide +kernel
theorem dX6_init_24 : decode cX6_init 24 = .ok (.invokespecial 21, 3) := by decide +kernel
theorem dX6_init_27 : decode cX6_init 27 = .ok (.putfield 22, 3) := by decide +kernel
theorem dX6_init_30 : decode cX6_init 30 = .ok (.aload_n 0, 1) := by decide +kernel
theorem dX6_init_31 : decode cX6_init 31 = .ok (.new 19, 3) := by decide +kernel
theorem dX6_init_34 : decode cX6_init 34 = .ok (.dup, 1) := by decide +kernel
theorem dX6_init_35 : decode cX6_init 35 = .ok (.invokespecial 21, 3) := by decide +kernel
theorem dX6_init_38 : decode cX6_init 38 = .ok (.putfield 26, 3) := by decide +kernel
theorem dX6_init_41 : decode cX6_init 41 = .ok (.return_, 1) := by decide +kernel
def f_X6_init_0 (a0 : Nat) (M : zM) : Option (Unit × zM) :=
  (pI 12 0 M a0 ((250 : Int32))).bind fun M1 =>
  (aA 0 M1 ((25 : Int32))).bind fun r2 =>
  (pR 12 2 r2.2 a0 r2.1).bind fun M3 =>
  (f_Jx4a65c_init_da8c8 (mX M3) (nO M3 5 3)).bind fun r4 =>
  (pR 12 3 r4.2 a0 (mX M3)).bind fun M5 =>
  (f_Jx4a65c_init_da8c8 (mX M5) (nO M5 5 3)).bind fun r6 =>
  (pR 12 4 r6.2 a0 (mX M5)).bind fun M7 =>
  some ((), M7)
set_option maxRecDepth 20000 in
set_option maxHeartbeats 4000000 in
theorem s_X6_init_0 {L : zL} {X : zX} {M0 : zM} {N : Nat × Nat} {Q : State → Prop} {r : Unit × zM} (hq : vQ L X M0 N Q none r.2) {a0 : Nat} {M : zM} (h : f_X6_init_0 a0 M = some r) : V L X yX6_init cX6_init 1 (none : Option FieldType) 4 M0 N Q M 0 [(0, .ref (zad L (a0)))] [] := by
  unfold f_X6_init_0 at h
  refine V_aload_n dX6_init_0 rfl 0 rfl ?_
  refine V_objInit zo_X6_3 (by decide) (Nat.le_of_ble_eq_true rfl) dX6_init_1 ?_
  refine V_aload_n dX6_init_4 rfl 0 rfl ?_
  refine V_sipush (v := 250) dX6_init_5 (by decide) ?_
  replace h := ob h
  obtain ⟨M1, e_M1, h⟩ := h
  refine V_putI zf_12_0 zl_X6_9 (Or.inl rfl) rfl e_M1 dX6_init_8 ?_
  refine V_pc (pc' := 11) rfl ?_
  refine V_aload_n dX6_init_11 rfl 0 rfl ?_
  refine V_bipush (v := 25) dX6_init_12 (by decide) ?_
  replace h := ob h
  obtain ⟨r2, e_r2, h⟩ := h
  refine V_newa (t := 0) (by decide) rfl zna_0 e_r2 dX6_init_14 ?_
  refine V_pc (pc' := 16) rfl ?_
  replace h := ob h
  obtain ⟨M3, e_M3, h⟩ := h
  refine V_putR zf_12_2 zl_X6_15 (Or.inl rfl) rfl e_M3 dX6_init_16 ?_
  refine V_pc (pc' := 19) rfl ?_
  refine V_aload_n dX6_init_19 rfl 0 rfl ?_
  refine V_new (by decide) rfl zin5 zty5 zdf5 zn_X6_19 dX6_init_20 ?_
  refine V_dup dX6_init_23 rfl ?_
  replace h := ob h
  obtain ⟨r4, e_r4, h⟩ := h
  refine V_callI_V (As := []) (rest := [.ref (zad L (mX M3)), .ref (zad L (a0))]) (c_Jx4a65c_init_da8c8 e_r4) zc_Jx4a65c_init_da8c8 rfl (by decide) zm_X6_21 rfl (Nat.le_of_ble_eq_true rfl) rfl dX6_init_24 ?_
  refine V_pc (pc' := 27) rfl ?_
  replace h := ob h
  obtain ⟨M5, e_M5, h⟩ := h
  refine V_putR zf_12_3 zl_X6_22 (Or.inr ⟨rfl, rfl, rfl⟩) rfl e_M5 dX6_init_27 ?_
  refine V_pc (pc' := 30) rfl ?_
  refine V_aload_n dX6_init_30 rfl 0 rfl ?_
  refine V_new (by decide) rfl zin5 zty5 zdf5 zn_X6_19 dX6_init_31 ?_
  refine V_dup dX6_init_34 rfl ?_
  replace h := ob h
  obtain ⟨r6, e_r6, h⟩ := h
  refine V_callI_V (As := []) (rest := [.ref (zad L (mX M5)), .ref (zad L (a0))]) (c_Jx4a65c_init_da8c8 e_r6) zc_Jx4a65c_init_da8c8 rfl (by decide) zm_X6_21 rfl (Nat.le_of_ble_eq_true rfl) rfl dX6_init_35 ?_
  refine V_pc (pc' := 38) rfl ?_
  replace h := ob h
  obtain ⟨M7, e_M7, h⟩ := h
  refine V_putR zf_12_4 zl_X6_26 (Or.inr ⟨rfl, rfl, rfl⟩) rfl e_M7 dX6_init_38 ?_
  refine V_pc (pc' := 41) rfl ?_
  obtain rfl := Option.some.inj h
  exact V_vret rfl hq dX6_init_41
def f_X6_init (a0 : Nat) (M : zM) : Option (Unit × zM) := f_X6_init_0 a0 M
theorem c_X6_init {L : zL} {l : Launch} {a0 : Nat} {M : zM} {r : Unit × zM} (h : f_X6_init a0 M = some r) : CP L l yX6_init cX6_init 1 (none : Option FieldType) 4 M [.ref (zad L (a0))] none r.2 :=
  CP.of ⟨by decide +kernel, by decide +kernel⟩ (Nat.le_of_ble_eq_true rfl) fun X Q hq => s_X6_init_0 hq h
/-! java/util/ArrayList.clear()V -/
theorem dJx4a65c_clear_da8c8_0 : decode cJx4a65c_clear_da8c8 0 = .ok (.aload_n 0, 1) := by decide +kernel
theorem dJx4a65c_clear_da8c8_1 : decode cJx4a65c_clear_da8c8 1 = .ok (.dup, 1) := by decide +kernel
theorem dJx4a65c_clear_da8c8_2 : decode cJx4a65c_clear_da8c8 2 = .ok (.getfield 63, 3) := by decide +kernel
theorem dJx4a65c_clear_da8c8_5 : decode cJx4a65c_clear_da8c8 5 = .ok (.iconst 1, 1) := by decide +kernel
theorem dJx4a65c_clear_da8c8_6 : decode cJx4a65c_clear_da8c8 6 = .ok (.iadd, 1) := by decide +kernel
theorem dJx4a65c_clear_da8c8_7 : decode cJx4a65c_clear_da8c8 7 = .ok (.putfield 63, 3) := by decide +kernel
theorem dJx4a65c_clear_da8c8_10 : decode cJx4a65c_clear_da8c8 10 = .ok (.aload_n 0, 1) := by decide +kernel
theorem dJx4a65c_clear_da8c8_11 : decode cJx4a65c_clear_da8c8 11 = .ok (.getfield 9, 3) := by decide +kernel
theorem dJx4a65c_clear_da8c8_14 : decode cJx4a65c_clear_da8c8 14 = .ok (.astore_n 1, 1) := by decide +kernel
theorem dJx4a65c_clear_da8c8_15 : decode cJx4a65c_clear_da8c8 15 = .ok (.aload_n 0, 1) := by decide +kernel
theorem dJx4a65c_clear_da8c8_16 : decode cJx4a65c_clear_da8c8 16 = .ok (.getfield 48, 3) := by decide +kernel
theorem dJx4a65c_clear_da8c8_19 : decode cJx4a65c_clear_da8c8 19 = .ok (.istore_n 2, 1) := by decide +kernel
theorem dJx4a65c_clear_da8c8_20 : decode cJx4a65c_clear_da8c8 20 = .ok (.aload_n 0, 1) := by decide +kernel
theorem dJx4a65c_clear_da8c8_21 : decode cJx4a65c_clear_da8c8 21 = .ok (.iconst 0, 1) := by decide +kernel
theorem dJx4a65c_clear_da8c8_22 : decode cJx4a65c_clear_da8c8 22 = .ok (.dup_x1, 1) := by decide +kernel
theorem dJx4a65c_clear_da8c8_23 : decode cJx4a65c_clear_da8c8 23 = .ok (.putfield 48, 3) := by decide +kernel
theorem dJx4a65c_clear_da8c8_26 : decode cJx4a65c_clear_da8c8 26 = .ok (.istore_n 3, 1) := by decide +kernel
theorem dJx4a65c_clear_da8c8_27 : decode cJx4a65c_clear_da8c8 27 = .ok (.iload_n 3, 1) := by decide +kernel
theorem dJx4a65c_clear_da8c8_28 : decode cJx4a65c_clear_da8c8 28 = .ok (.iload_n 2, 1) := by decide +kernel
theorem dJx4a65c_clear_da8c8_29 : decode cJx4a65c_clear_da8c8 29 = .ok (.if_icmp .ge 13, 3) := by decide +kernel
theorem dJx4a65c_clear_da8c8_32 : decode cJx4a65c_clear_da8c8 32 = .ok (.aload_n 1, 1) := by decide +kernel
theorem dJx4a65c_clear_da8c8_33 : decode cJx4a65c_clear_da8c8 33 = .ok (.iload_n 3, 1) := by decide +kernel
theorem dJx4a65c_clear_da8c8_34 : decode cJx4a65c_clear_da8c8 34 = .ok (.aconst_null, 1) := by decide +kernel
theorem dJx4a65c_clear_da8c8_35 : decode cJx4a65c_clear_da8c8 35 = .ok (.aastore, 1) := by decide +kernel
theorem dJx4a65c_clear_da8c8_36 : decode cJx4a65c_clear_da8c8 36 = .ok (.iinc 3 1, 3) := by decide +kernel
theorem dJx4a65c_clear_da8c8_39 : decode cJx4a65c_clear_da8c8 39 = .ok (.goto (-12), 3) := by decide +kernel
theorem dJx4a65c_clear_da8c8_42 : decode cJx4a65c_clear_da8c8 42 = .ok (.return_, 1) := by decide +kernel
def f_Jx4a65c_clear_da8c8_27 (n : Nat) (a1 : Nat) (i2 : Int32) (i3 : Int32) (M : zM) : Option (Unit × zM) := match n with
  | 0 => none
  | n + 1 =>
    if i2 ≤ i3 then
    some ((), M)
    else
    (tQ 0 M a1 i3 none).bind fun M1 =>
    f_Jx4a65c_clear_da8c8_27 n a1 i2 ((i3 + (1 : Int32))) M1
set_option maxRecDepth 20000 in
set_option maxHeartbeats 4000000 in
theorem s_Jx4a65c_clear_da8c8_27 {L : zL} {X : zX} {M0 : zM} {N : Nat × Nat} {Q : State → Prop} {r : Unit × zM} (hq : vQ L X M0 N Q none r.2) {n : Nat} {a1 : Nat} {i2 : Int32} {i3 : Int32} {M : zM} : f_Jx4a65c_clear_da8c8_27 n a1 i2 i3 M = some r → V L X yJx4a65c_clear_da8c8 cJx4a65c_clear_da8c8 4 (none : Option FieldType) 1 M0 N Q M 27 [(1, .ref (zad L (a1))), (2, .int (i2)), (3, .int (i3))] [] := by
  induction n generalizing a1 i2 i3 M with
  | zero =>
    intro h
    rw [f_Jx4a65c_clear_da8c8_27] at h
    cases h
  | succ n ih0 =>
    intro h
    have ih : ∀ (a1 : Nat) (i2 : Int32) (i3 : Int32) (M : zM), f_Jx4a65c_clear_da8c8_27 n a1 i2 i3 M = some r → V L X yJx4a65c_clear_da8c8 cJx4a65c_clear_da8c8 4 (none : Option FieldType) 1 M0 N Q M 27 [(1, .ref (zad L (a1))), (2, .int (i2)), (3, .int (i3))] [] := fun a1 i2 i3 M h => ih0 h
    rw [f_Jx4a65c_clear_da8c8_27] at h
    refine V_iload_n dJx4a65c_clear_da8c8_27 rfl 2 rfl ?_
    refine V_iload_n dJx4a65c_clear_da8c8_28 rfl 1 rfl ?_
    refine V_icmp_ge (tgt := 42) dJx4a65c_clear_da8c8_29 (by decide) (fun c2 => ?_) (fun c2 => ?_)
    · replace h := (oi h).1 c2
      obtain rfl := Option.some.inj h
      exact V_vret rfl hq dJx4a65c_clear_da8c8_42
    · replace h := (oi h).2 c2
      refine V_aload_n dJx4a65c_clear_da8c8_32 rfl 0 rfl ?_
      refine V_iload_n dJx4a65c_clear_da8c8_33 rfl 2 rfl ?_
      refine V_null dJx4a65c_clear_da8c8_34 ?_
      replace h := ob h
      obtain ⟨M1, e_M1, h⟩ := h
      refine V_aastN (by decide) e_M1 dJx4a65c_clear_da8c8_35 ?_
      refine V_iinc (v := i3 + (1 : Int32)) (ls' := [(3, .int ((i3 + (1 : Int32)))), (1, .ref (zad L (a1))), (2, .int (i2))]) dJx4a65c_clear_da8c8_36 2 rfl (by rfl) (by decide) rfl ?_
      refine V_goto (tgt := 27) dJx4a65c_clear_da8c8_39 (by decide) ?_
      refine V_sub [1, 2, 0] rfl ?_
      exact ih _ _ _ _ h
def f_Jx4a65c_clear_da8c8_0 (a0 : Nat) (M : zM) : Option (Unit × zM) :=
  (gI 5 0 M a0).bind fun v1 =>
  (pI 5 0 M a0 ((v1 + ((1 : Int32))))).bind fun M2 =>
  (gR 5 1 M2 a0).bind fun v3 =>
  (gI 5 2 M2 a0).bind fun v4 =>
  (pI 5 2 M2 a0 ((0 : Int32))).bind fun M5 =>
  f_Jx4a65c_clear_da8c8_27 zN v3 v4 ((0 : Int32)) M5
set_option maxRecDepth 20000 in
set_option maxHeartbeats 4000000 in
theorem s_Jx4a65c_clear_da8c8_0 {L : zL} {X : zX} {M0 : zM} {N : Nat × Nat} {Q : State → Prop} {r : Unit × zM} (hq : vQ L X M0 N Q none r.2) {a0 : Nat} {M : zM} (h : f_Jx4a65c_clear_da8c8_0 a0 M = some r) : V L X yJx4a65c_clear_da8c8 cJx4a65c_clear_da8c8 4 (none : Option FieldType) 1 M0 N Q M 0 [(0, .ref (zad L (a0)))] [] := by
  unfold f_Jx4a65c_clear_da8c8_0 at h
  refine V_aload_n dJx4a65c_clear_da8c8_0 rfl 0 rfl ?_
  refine V_dup dJx4a65c_clear_da8c8_1 rfl ?_
  replace h := ob h
  obtain ⟨v1, e_v1, h⟩ := h
  refine V_getI zf_5_0 zl_Jx4a65c_63 e_v1 dJx4a65c_clear_da8c8_2 ?_
  refine V_pc (pc' := 5) rfl ?_
  refine V_iconst (v := 1) dJx4a65c_clear_da8c8_5 (by decide) ?_
  refine V_iadd dJx4a65c_clear_da8c8_6 ?_
  replace h := ob h
  obtain ⟨M2, e_M2, h⟩ := h
  refine V_putI zf_5_0 zl_Jx4a65c_63 (Or.inl rfl) rfl e_M2 dJx4a65c_clear_da8c8_7 ?_
  refine V_pc (pc' := 10) rfl ?_
  refine V_aload_n dJx4a65c_clear_da8c8_10 rfl 0 rfl ?_
  replace h := ob h
  obtain ⟨v3, e_v3, h⟩ := h
  refine V_getR zf_5_1 zl_Jx4a65c_9 e_v3 dJx4a65c_clear_da8c8_11 ?_
  refine V_pc (pc' := 14) rfl ?_
  refine V_astore_n (ls' := [(1, .ref (zad L (v3))), (0, .ref (zad L (a0)))]) dJx4a65c_clear_da8c8_14 rfl (by decide) rfl ?_
  refine V_aload_n dJx4a65c_clear_da8c8_15 rfl 1 rfl ?_
  replace h := ob h
  obtain ⟨v4, e_v4, h⟩ := h
  refine V_getI zf_5_2 zl_Jx4a65c_48 e_v4 dJx4a65c_clear_da8c8_16 ?_
  refine V_pc (pc' := 19) rfl ?_
  refine V_istore_n (ls' := [(2, .int (v4)), (1, .ref (zad L (v3))), (0, .ref (zad L (a0)))]) dJx4a65c_clear_da8c8_19 rfl (by decide) rfl ?_
  refine V_aload_n dJx4a65c_clear_da8c8_20 rfl 2 rfl ?_
  refine V_iconst (v := 0) dJx4a65c_clear_da8c8_21 (by decide) ?_
  refine V_dup_x1 dJx4a65c_clear_da8c8_22 rfl rfl ?_
  replace h := ob h
  obtain ⟨M5, e_M5, h⟩ := h
  refine V_putI zf_5_2 zl_Jx4a65c_48 (Or.inl rfl) rfl e_M5 dJx4a65c_clear_da8c8_23 ?_
  refine V_pc (pc' := 26) rfl ?_
  refine V_istore_n (ls' := [(3, .int ((0 : Int32))), (2, .int (v4)), (1, .ref (zad L (v3))), (0, .ref (zad L (a0)))]) dJx4a65c_clear_da8c8_26 rfl (by decide) rfl ?_
  refine V_sub [2, 1, 0] rfl ?_
  exact s_Jx4a65c_clear_da8c8_27 hq h
def f_Jx4a65c_clear_da8c8 (a0 : Nat) (M : zM) : Option (Unit × zM) := f_Jx4a65c_clear_da8c8_0 a0 M
theorem c_Jx4a65c_clear_da8c8 {L : zL} {l : Launch} {a0 : Nat} {M : zM} {r : Unit × zM} (h : f_Jx4a65c_clear_da8c8 a0 M = some r) : CP L l yJx4a65c_clear_da8c8 cJx4a65c_clear_da8c8 4 (none : Option FieldType) 1 M [.ref (zad L (a0))] none r.2 :=
  CP.of ⟨by decide +kernel, by decide +kernel⟩ (Nat.le_of_ble_eq_true rfl) fun X Q hq => s_Jx4a65c_clear_da8c8_0 hq h
/-! WindsparlourModel$Player.begin()V -/
theorem dX6_begin_0 : decode cX6_begin 0 = .ok (.aload_n 0, 1) := by decide +kernel
theorem dX6_begin_1 : decode cX6_begin 1 = .ok (.bipush 25, 2) := by decide +kernel
theorem dX6_begin_3 : decode cX6_begin 3 = .ok (.newarray .int, 2) := by decide +kernel
theorem dX6_begin_5 : decode cX6_begin 5 = .ok (.putfield 15, 3) := by decide +kernel
theorem dX6_begin_8 : decode cX6_begin 8 = .ok (.aload_n 0, 1) := by decide +kernel
theorem dX6_begin_9 : decode cX6_begin 9 = .ok (.getfield 22, 3) := by decide +kernel
theorem dX6_begin_12 : decode cX6_begin 12 = .ok (.invokevirtual 29, 3) := by decide +kernel
theorem dX6_begin_15 : decode cX6_begin 15 = .ok (.aload_n 0, 1) := by decide +kernel
theorem dX6_begin_16 : decode cX6_begin 16 = .ok (.getfield 26, 3) := by decide +kernel
theorem dX6_begin_19 : decode cX6_begin 19 = .ok (.invokevirtual 29, 3) := by decide +kernel
theorem dX6_begin_22 : decode cX6_begin 22 = .ok (.aload_n 0, 1) := by decide +kernel
theorem dX6_begin_23 : decode cX6_begin 23 = .ok (.lconst 0, 1) := by decide +kernel
theorem dX6_begin_24 : decode cX6_begin 24 = .ok (.putfield 32, 3) := by decide +kernel
theorem dX6_begin_27 : decode cX6_begin 27 = .ok (.aload_n 0, 1) := by decide +kernel
theorem dX6_begin_28 : decode cX6_begin 28 = .ok (.iconst 0, 1) := by decide +kernel
theorem dX6_begin_29 : decode cX6_begin 29 = .ok (.putfield 36, 3) := by decide +kernel
theorem dX6_begin_32 : decode cX6_begin 32 = .ok (.return_, 1) := by decide +kernel
def f_X6_begin_0 (a0 : Nat) (M : zM) : Option (Unit × zM) :=
  (aA 0 M ((25 : Int32))).bind fun r1 =>
  (pR 12 2 r1.2 a0 r1.1).bind fun M2 =>
  (gR 12 3 M2 a0).bind fun v3 =>
  if mK M2 v3 = 5 then
  (f_Jx4a65c_clear_da8c8 v3 M2).bind fun r4 =>
  (gR 12 4 r4.2 a0).bind fun v6 =>
  if mK r4.2 v6 = 5 then
  (f_Jx4a65c_clear_da8c8 v6 r4.2).bind fun r7 =>
  (pJ 12 5 r7.2 a0 ((0 : Int64))).bind fun M9 =>
  (pZ 12 6 M9 a0 ((0 : Int32))).bind fun M10 =>
  some ((), M10)
  else none
  else none
set_option maxRecDepth 20000 in
set_option maxHeartbeats 4000000 in
theorem s_X6_begin_0 {L : zL} {X : zX} {M0 : zM} {N : Nat × Nat} {Q : State → Prop} {r : Unit × zM} (hq : vQ L X M0 N Q none r.2) {a0 : Nat} {M : zM} (h : f_X6_begin_0 a0 M = some r) : V L X yX6_begin cX6_begin 1 (none : Option FieldType) 2 M0 N Q M 0 [(0, .ref (zad L (a0)))] [] := by
  unfold f_X6_begin_0 at h
  refine V_aload_n dX6_begin_0 rfl 0 rfl ?_
  refine V_bipush (v := 25) dX6_begin_1 (by decide) ?_
  replace h := ob h
  obtain ⟨r1, e_r1, h⟩ := h
  refine V_newa (t := 0) (by decide) rfl zna_0 e_r1 dX6_begin_3 ?_
  refine V_pc (pc' := 5) rfl ?_
  replace h := ob h
  obtain ⟨M2, e_M2, h⟩ := h
  refine V_putR zf_12_2 zl_X6_15 (Or.inl rfl) rfl e_M2 dX6_begin_5 ?_
  refine V_pc (pc' := 8) rfl ?_
  refine V_aload_n dX6_begin_8 rfl 0 rfl ?_
  replace h := ob h
  obtain ⟨v3, e_v3, h⟩ := h
  refine V_getR zf_12_3 zl_X6_22 e_v3 dX6_begin_9 ?_
  refine V_pc (pc' := 12) rfl ?_
  replace h := ox h
  obtain ⟨c5, h⟩ := h
  replace h := ob h
  obtain ⟨r4, e_r4, h⟩ := h
  refine V_callV_V (As := []) (rest := []) (c_Jx4a65c_clear_da8c8 e_r4) zc_Jx4a65c_clear_da8c8 rfl (by decide) rfl (by decide) (Or.inl c5) zm_X6_29 (Nat.le_of_ble_eq_true rfl) rfl dX6_begin_12 ?_
  refine V_pc (pc' := 15) rfl ?_
  refine V_aload_n dX6_begin_15 rfl 0 rfl ?_
  replace h := ob h
  obtain ⟨v6, e_v6, h⟩ := h
  refine V_getR zf_12_4 zl_X6_26 e_v6 dX6_begin_16 ?_
  refine V_pc (pc' := 19) rfl ?_
  replace h := ox h
  obtain ⟨c8, h⟩ := h
  replace h := ob h
  obtain ⟨r7, e_r7, h⟩ := h
  refine V_callV_V (As := []) (rest := []) (c_Jx4a65c_clear_da8c8 e_r7) zc_Jx4a65c_clear_da8c8 rfl (by decide) rfl (by decide) (Or.inl c8) zm_X6_29 (Nat.le_of_ble_eq_true rfl) rfl dX6_begin_19 ?_
  refine V_pc (pc' := 22) rfl ?_
  refine V_aload_n dX6_begin_22 rfl 0 rfl ?_
  refine V_lconst (v := 0) dX6_begin_23 (by decide) ?_
  replace h := ob h
  obtain ⟨M9, e_M9, h⟩ := h
  refine V_putJ zf_12_5 zl_X6_32 (Or.inl rfl) rfl e_M9 dX6_begin_24 ?_
  refine V_pc (pc' := 27) rfl ?_
  refine V_aload_n dX6_begin_27 rfl 0 rfl ?_
  refine V_iconst (v := 0) dX6_begin_28 (by decide) ?_
  replace h := ob h
  obtain ⟨M10, e_M10, h⟩ := h
  refine V_putZ zf_12_6 zl_X6_36 (Or.inl rfl) rfl e_M10 dX6_begin_29 ?_
  refine V_pc (pc' := 32) rfl ?_
  obtain rfl := Option.some.inj h
  exact V_vret rfl hq dX6_begin_32
def f_X6_begin (a0 : Nat) (M : zM) : Option (Unit × zM) := f_X6_begin_0 a0 M
theorem c_X6_begin {L : zL} {l : Launch} {a0 : Nat} {M : zM} {r : Unit × zM} (h : f_X6_begin a0 M = some r) : CP L l yX6_begin cX6_begin 1 (none : Option FieldType) 2 M [.ref (zad L (a0))] none r.2 :=
  CP.of ⟨by decide +kernel, by decide +kernel⟩ (Nat.le_of_ble_eq_true rfl) fun X Q hq => s_X6_begin_0 hq h
/-! WindsparlourModel$Player.tiles()I -/
theorem dX6_tiles_0 : decode cX6_tiles 0 = .ok (.iconst 0, 1) := by decide +kernel
theorem dX6_tiles_1 : decode cX6_tiles 1 = .ok (.istore_n 1, 1) := by decide +kernel
theorem dX6_tiles_2 : decode cX6_tiles 2 = .ok (.aload_n 0, 1) := by decide +kernel
theorem dX6_tiles_3 : decode cX6_tiles 3 = .ok (.getfield 15, 3) := by decide +kernel
theorem dX6_tiles_6 : decode cX6_tiles 6 = .ok (.astore_n 2, 1) := by decide +kernel
theorem dX6_tiles_7 : decode cX6_tiles 7 = .ok (.aload_n 2, 1) := by decide +kernel
theorem dX6_tiles_8 : decode cX6_tiles 8 = .ok (.arraylength, 1) := by decide +kernel
theorem dX6_tiles_9 : decode cX6_tiles 9 = .ok (.istore_n 3, 1) := by decide +kernel
theorem dX6_tiles_10 : decode cX6_tiles 10 = .ok (.iconst 0, 1) := by decide +kernel
theorem dX6_tiles_11 : decode cX6_tiles 11 = .ok (.istore 4, 2) := by decide +kernel
theorem dX6_tiles_13 : decode cX6_tiles 13 = .ok (.iload 4, 2) := by decide +kernel
theorem dX6_tiles_15 : decode cX6_tiles 15 = .ok (.iload_n 3, 1) := by decide +kernel
theorem dX6_tiles_16 : decode cX6_tiles 16 = .ok (.if_icmp .ge 20, 3) := by decide +kernel
theorem dX6_tiles_19 : decode cX6_tiles 19 = .ok (.aload_n 2, 1) := by decide +kernel
theorem dX6_tiles_20 : decode cX6_tiles 20 = .ok (.iload 4, 2) := by decide +kernel
theorem dX6_tiles_22 : decode cX6_tiles 22 = .ok (.iaload, 1) := by decide +kernel
theorem dX6_tiles_23 : decode cX6_tiles 23 = .ok (.istore 5, 2) := by decide +kernel
theorem dX6_tiles_25 : decode cX6_tiles 25 = .ok (.iload_n 1, 1) := by decide +kernel
theorem dX6_tiles_26 : decode cX6_tiles 26 = .ok (.iload 5, 2) := by decide +kernel
theorem dX6_tiles_28 : decode cX6_tiles 28 = .ok (.iadd, 1) := by decide +kernel
theorem dX6_tiles_29 : decode cX6_tiles 29 = .ok (.istore_n 1, 1) := by decide +kernel
theorem dX6_tiles_30 : decode cX6_tiles 30 = .ok (.iinc 4 1, 3) := by decide +kernel
theorem dX6_tiles_33 : decode cX6_tiles 33 = .ok (.goto (-20), 3) := by decide +kernel
theorem dX6_tiles_36 : decode cX6_tiles 36 = .ok (.iload_n 1, 1) := by decide +kernel
theorem dX6_tiles_37 : decode cX6_tiles 37 = .ok (.ireturn, 1) := by decide +kernel
def f_X6_tiles_13 (n : Nat) (i1 : Int32) (a2 : Nat) (i3 : Int32) (i4 : Int32) (M : zM) : Option (Int32 × zM) := match n with
  | 0 => none
  | n + 1 =>
    if i3 ≤ i4 then
    some (i1, M)
    else
    (lA 0 M a2 i4).bind fun v1 =>
    f_X6_tiles_13 n ((i1 + v1)) a2 i3 ((i4 + (1 : Int32))) M
set_option maxRecDepth 20000 in
set_option maxHeartbeats 4000000 in
theorem s_X6_tiles_13 {L : zL} {X : zX} {M0 : zM} {N : Nat × Nat} {Q : State → Prop} {r : Int32 × zM} (hq : vQ L X M0 N Q (some (.int r.1)) r.2) {n : Nat} {i1 : Int32} {a2 : Nat} {i3 : Int32} {i4 : Int32} {M : zM} : f_X6_tiles_13 n i1 a2 i3 i4 M = some r → V L X yX6_tiles cX6_tiles 6 (some FieldType.int) 1 M0 N Q M 13 [(1, .int (i1)), (2, .ref (zad L (a2))), (3, .int (i3)), (4, .int (i4))] [] := by
  induction n generalizing i1 a2 i3 i4 M with
  | zero =>
    intro h
    rw [f_X6_tiles_13] at h
    cases h
  | succ n ih0 =>
    intro h
    have ih : ∀ (i1 : Int32) (a2 : Nat) (i3 : Int32) (i4 : Int32) (M : zM), f_X6_tiles_13 n i1 a2 i3 i4 M = some r → V L X yX6_tiles cX6_tiles 6 (some FieldType.int) 1 M0 N Q M 13 [(1, .int (i1)), (2, .ref (zad L (a2))), (3, .int (i3)), (4, .int (i4))] [] := fun i1 a2 i3 i4 M h => ih0 h
    rw [f_X6_tiles_13] at h
    refine V_iload dX6_tiles_13 3 rfl ?_
    refine V_iload_n dX6_tiles_15 rfl 2 rfl ?_
    refine V_icmp_ge (tgt := 36) dX6_tiles_16 (by decide) (fun c2 => ?_) (fun c2 => ?_)
    · replace h := (oi h).1 c2
      refine V_iload_n dX6_tiles_36 rfl 0 rfl ?_
      obtain rfl := Option.some.inj h
      exact V_iret rfl hq dX6_tiles_37
    · replace h := (oi h).2 c2
      refine V_aload_n dX6_tiles_19 rfl 1 rfl ?_
      refine V_iload dX6_tiles_20 3 rfl ?_
      replace h := ob h
      obtain ⟨v1, e_v1, h⟩ := h
      refine V_iald e_v1 dX6_tiles_22 ?_
      refine V_pc (pc' := 23) rfl ?_
      refine V_istore (ls' := [(5, .int (v1)), (1, .int (i1)), (2, .ref (zad L (a2))), (3, .int (i3)), (4, .int (i4))]) dX6_tiles_23 (by decide) rfl ?_
      refine V_iload_n dX6_tiles_25 rfl 1 rfl ?_
      refine V_iload dX6_tiles_26 0 rfl ?_
      refine V_iadd dX6_tiles_28 ?_
      refine V_istore_n (ls' := [(1, .int ((i1 + v1))), (5, .int (v1)), (2, .ref (zad L (a2))), (3, .int (i3)), (4, .int (i4))]) dX6_tiles_29 rfl (by decide) rfl ?_
      refine V_iinc (v := i4 + (1 : Int32)) (ls' := [(4, .int ((i4 + (1 : Int32)))), (1, .int ((i1 + v1))), (5, .int (v1)), (2, .ref (zad L (a2))), (3, .int (i3))]) dX6_tiles_30 4 rfl (by rfl) (by decide) rfl ?_
      refine V_goto (tgt := 13) dX6_tiles_33 (by decide) ?_
      refine V_sub [1, 3, 4, 0] rfl ?_
      exact ih _ _ _ _ _ h
def f_X6_tiles_0 (a0 : Nat) (M : zM) : Option (Int32 × zM) :=
  (gR 12 2 M a0).bind fun v1 =>
  (gL M v1).bind fun v2 =>
  f_X6_tiles_13 zN ((0 : Int32)) v1 v2 ((0 : Int32)) M
set_option maxRecDepth 20000 in
set_option maxHeartbeats 4000000 in
theorem s_X6_tiles_0 {L : zL} {X : zX} {M0 : zM} {N : Nat × Nat} {Q : State → Prop} {r : Int32 × zM} (hq : vQ L X M0 N Q (some (.int r.1)) r.2) {a0 : Nat} {M : zM} (h : f_X6_tiles_0 a0 M = some r) : V L X yX6_tiles cX6_tiles 6 (some FieldType.int) 1 M0 N Q M 0 [(0, .ref (zad L (a0)))] [] := by
  unfold f_X6_tiles_0 at h
  refine V_iconst (v := 0) dX6_tiles_0 (by decide) ?_
  refine V_istore_n (ls' := [(1, .int ((0 : Int32))), (0, .ref (zad L (a0)))]) dX6_tiles_1 rfl (by decide) rfl ?_
  refine V_aload_n dX6_tiles_2 rfl 1 rfl ?_
  replace h := ob h
  obtain ⟨v1, e_v1, h⟩ := h
  refine V_getR zf_12_2 zl_X6_15 e_v1 dX6_tiles_3 ?_
  refine V_pc (pc' := 6) rfl ?_
  refine V_astore_n (ls' := [(2, .ref (zad L (v1))), (1, .int ((0 : Int32))), (0, .ref (zad L (a0)))]) dX6_tiles_6 rfl (by decide) rfl ?_
  refine V_aload_n dX6_tiles_7 rfl 0 rfl ?_
  replace h := ob h
  obtain ⟨v2, e_v2, h⟩ := h
  refine V_alen e_v2 dX6_tiles_8 ?_
  refine V_pc (pc' := 9) rfl ?_
  refine V_istore_n (ls' := [(3, .int (v2)), (2, .ref (zad L (v1))), (1, .int ((0 : Int32))), (0, .ref (zad L (a0)))]) dX6_tiles_9 rfl (by decide) rfl ?_
  refine V_iconst (v := 0) dX6_tiles_10 (by decide) ?_
  refine V_istore (ls' := [(4, .int ((0 : Int32))), (3, .int (v2)), (2, .ref (zad L (v1))), (1, .int ((0 : Int32))), (0, .ref (zad L (a0)))]) dX6_tiles_11 (by decide) rfl ?_
  refine V_sub [3, 2, 1, 0] rfl ?_
  exact s_X6_tiles_13 hq h
def f_X6_tiles (a0 : Nat) (M : zM) : Option (Int32 × zM) := f_X6_tiles_0 a0 M
theorem c_X6_tiles {L : zL} {l : Launch} {a0 : Nat} {M : zM} {r : Int32 × zM} (h : f_X6_tiles a0 M = some r) : CP L l yX6_tiles cX6_tiles 6 (some FieldType.int) 1 M [.ref (zad L (a0))] (some (.int r.1)) r.2 :=
  CP.of ⟨by decide +kernel, by decide +kernel⟩ (Nat.le_of_ble_eq_true rfl) fun X Q hq => s_X6_tiles_0 hq h
/-! java/util/ArrayList.size()I -/
theorem dJx4a65c_size_8abf5_0 : decode cJx4a65c_size_8abf5 0 = .ok (.aload_n 0, 1) := by decide +kernel
theorem dJx4a65c_size_8abf5_1 : decode cJx4a65c_size_8abf5 1 = .ok (.getfield 48, 3) := by decide +kernel
theorem dJx4a65c_size_8abf5_4 : decode cJx4a65c_size_8abf5 4 = .ok (.ireturn, 1) := by decide +kernel
def f_Jx4a65c_size_8abf5_0 (a0 : Nat) (M : zM) : Option (Int32 × zM) :=
  (gI 5 2 M a0).bind fun v1 =>
  some (v1, M)
set_option maxRecDepth 20000 in
set_option maxHeartbeats 4000000 in
theorem s_Jx4a65c_size_8abf5_0 {L : zL} {X : zX} {M0 : zM} {N : Nat × Nat} {Q : State → Prop} {r : Int32 × zM} (hq : vQ L X M0 N Q (some (.int r.1)) r.2) {a0 : Nat} {M : zM} (h : f_Jx4a65c_size_8abf5_0 a0 M = some r) : V L X yJx4a65c_size_8abf5 cJx4a65c_size_8abf5 1 (some FieldType.int) 1 M0 N Q M 0 [(0, .ref (zad L (a0)))] [] := by
  unfold f_Jx4a65c_size_8abf5_0 at h
  refine V_aload_n dJx4a65c_size_8abf5_0 rfl 0 rfl ?_
  replace h := ob h
  obtain ⟨v1, e_v1, h⟩ := h
  refine V_getI zf_5_2 zl_Jx4a65c_48 e_v1 dJx4a65c_size_8abf5_1 ?_
  refine V_pc (pc' := 4) rfl ?_
  obtain rfl := Option.some.inj h
  exact V_iret rfl hq dJx4a65c_size_8abf5_4
def f_Jx4a65c_size_8abf5 (a0 : Nat) (M : zM) : Option (Int32 × zM) := f_Jx4a65c_size_8abf5_0 a0 M
theorem c_Jx4a65c_size_8abf5 {L : zL} {l : Launch} {a0 : Nat} {M : zM} {r : Int32 × zM} (h : f_Jx4a65c_size_8abf5 a0 M = some r) : CP L l yJx4a65c_size_8abf5 cJx4a65c_size_8abf5 1 (some FieldType.int) 1 M [.ref (zad L (a0))] (some (.int r.1)) r.2 :=
  CP.of ⟨by decide +kernel, by decide +kernel⟩ (Nat.le_of_ble_eq_true rfl) fun X Q hq => s_Jx4a65c_size_8abf5_0 hq h
/-! WindsparlourModel$Player.hasTooMany()Z -/
theorem dX6_hasTooMany_0 : decode cX6_hasTooMany 0 = .ok (.aload_n 0, 1) := by decide +kernel
theorem dX6_hasTooMany_1 : decode cX6_hasTooMany 1 = .ok (.invokevirtual 40, 3) := by decide +kernel
theorem dX6_hasTooMany_4 : decode cX6_hasTooMany 4 = .ok (.iconst 3, 1) := by decide +kernel
theorem dX6_hasTooMany_5 : decode cX6_hasTooMany 5 = .ok (.aload_n 0, 1) := by decide +kernel
theorem dX6_hasTooMany_6 : decode cX6_hasTooMany 6 = .ok (.getfield 22, 3) := by decide +kernel
theorem dX6_hasTooMany_9 : decode cX6_hasTooMany 9 = .ok (.invokevirtual 44, 3) := by decide +kernel
theorem dX6_hasTooMany_12 : decode cX6_hasTooMany 12 = .ok (.imul, 1) := by decide +kernel
theorem dX6_hasTooMany_13 : decode cX6_hasTooMany 13 = .ok (.iadd, 1) := by decide +kernel
theorem dX6_hasTooMany_14 : decode cX6_hasTooMany 14 = .ok (.bipush 10, 2) := by decide +kernel
theorem dX6_hasTooMany_16 : decode cX6_hasTooMany 16 = .ok (.if_icmp .le 7, 3) := by decide +kernel
theorem dX6_hasTooMany_19 : decode cX6_hasTooMany 19 = .ok (.iconst 1, 1) := by decide +kernel
theorem dX6_hasTooMany_20 : decode cX6_hasTooMany 20 = .ok (.goto 4, 3) := by decide +kernel
theorem dX6_hasTooMany_23 : decode cX6_hasTooMany 23 = .ok (.iconst 0, 1) := by decide +kernel
theorem dX6_hasTooMany_24 : decode cX6_hasTooMany 24 = .ok (.ireturn, 1) := by decide +kernel
def f_X6_hasTooMany_0 (a0 : Nat) (M : zM) : Option (Int32 × zM) :=
  if mK M a0 = 12 then
  (f_X6_tiles a0 M).bind fun r1 =>
  (gR 12 3 r1.2 a0).bind fun v3 =>
  if mK r1.2 v3 = 5 then
  (f_Jx4a65c_size_8abf5 v3 r1.2).bind fun r4 =>
  if ((r1.1 + ((((3 : Int32)) * r4.1)))) ≤ ((10 : Int32)) then
  some ((0 : Int32), r4.2)
  else
  some ((1 : Int32), r4.2)
  else none
  else none
set_option maxRecDepth 20000 in
set_option maxHeartbeats 4000000 in
theorem s_X6_hasTooMany_0 {L : zL} {X : zX} {M0 : zM} {N : Nat × Nat} {Q : State → Prop} {r : Int32 × zM} (hq : vQ L X M0 N Q (some (.int r.1)) r.2) {a0 : Nat} {M : zM} (h : f_X6_hasTooMany_0 a0 M = some r) : V L X yX6_hasTooMany cX6_hasTooMany 1 (some FieldType.boolean) 2 M0 N Q M 0 [(0, .ref (zad L (a0)))] [] := by
  unfold f_X6_hasTooMany_0 at h
  refine V_aload_n dX6_hasTooMany_0 rfl 0 rfl ?_
  replace h := ox h
  obtain ⟨c2, h⟩ := h
  replace h := ob h
  obtain ⟨r1, e_r1, h⟩ := h
  refine V_callV_I (As := []) (rest := []) (c_X6_tiles e_r1) zc_X6_tiles rfl (by decide) rfl (by decide) (Or.inl c2) zm_X6_40 (Nat.le_of_ble_eq_true rfl) rfl dX6_hasTooMany_1 ?_
  refine V_pc (pc' := 4) rfl ?_
  refine V_iconst (v := 3) dX6_hasTooMany_4 (by decide) ?_
  refine V_aload_n dX6_hasTooMany_5 rfl 0 rfl ?_
  replace h := ob h
  obtain ⟨v3, e_v3, h⟩ := h
  refine V_getR zf_12_3 zl_X6_22 e_v3 dX6_hasTooMany_6 ?_
  refine V_pc (pc' := 9) rfl ?_
  replace h := ox h
  obtain ⟨c5, h⟩ := h
  replace h := ob h
  obtain ⟨r4, e_r4, h⟩ := h
  refine V_callV_I (As := []) (rest := [.int ((3 : Int32)), .int (r1.1)]) (c_Jx4a65c_size_8abf5 e_r4) zc_Jx4a65c_size_8abf5 rfl (by decide) rfl (by decide) (Or.inl c5) zm_X6_44 (Nat.le_of_ble_eq_true rfl) rfl dX6_hasTooMany_9 ?_
  refine V_pc (pc' := 12) rfl ?_
  refine V_imul dX6_hasTooMany_12 ?_
  refine V_iadd dX6_hasTooMany_13 ?_
  refine V_bipush (v := 10) dX6_hasTooMany_14 (by decide) ?_
  refine V_icmp_le (tgt := 23) dX6_hasTooMany_16 (by decide) (fun c6 => ?_) (fun c6 => ?_)
  · replace h := (oi h).1 c6
    refine V_iconst (v := 0) dX6_hasTooMany_23 (by decide) ?_
    obtain rfl := Option.some.inj h
    exact V_zret (ty := .boolean) rfl rfl hq dX6_hasTooMany_24
  · replace h := (oi h).2 c6
    refine V_iconst (v := 1) dX6_hasTooMany_19 (by decide) ?_
    refine V_goto (tgt := 24) dX6_hasTooMany_20 (by decide) ?_
    obtain rfl := Option.some.inj h
    exact V_zret (ty := .boolean) rfl rfl hq dX6_hasTooMany_24
def f_X6_hasTooMany (a0 : Nat) (M : zM) : Option (Int32 × zM) := f_X6_hasTooMany_0 a0 M
theorem c_X6_hasTooMany {L : zL} {l : Launch} {a0 : Nat} {M : zM} {r : Int32 × zM} (h : f_X6_hasTooMany a0 M = some r) : CP L l yX6_hasTooMany cX6_hasTooMany 1 (some FieldType.boolean) 2 M [.ref (zad L (a0))] (some (.int r.1)) r.2 :=
  CP.of ⟨by decide +kernel, by decide +kernel⟩ (Nat.le_of_ble_eq_true rfl) fun X Q hq => s_X6_hasTooMany_0 hq h
/-! java/util/ArrayList$Itr.hasNext()Z -/
theorem dJx35411_hasNext_aae02_0 : decode cJx35411_hasNext_aae02 0 = .ok (.aload_n 0, 1) := by decide +kernel
theorem dJx35411_hasNext_aae02_1 : decode cJx35411_hasNext_aae02 1 = .ok (.getfield 25, 3) := by decide +kernel
theorem dJx35411_hasNext_aae02_4 : decode cJx35411_hasNext_aae02 4 = .ok (.aload_n 0, 1) := by decide +kernel
theorem dJx35411_hasNext_aae02_5 : decode cJx35411_hasNext_aae02 5 = .ok (.getfield 1, 3) := by decide +kernel
theorem dJx35411_hasNext_aae02_8 : decode cJx35411_hasNext_aae02 8 = .ok (.getfield 28, 3) := by decide +kernel
theorem dJx35411_hasNext_aae02_11 : decode cJx35411_hasNext_aae02 11 = .ok (.if_icmp .eq 7, 3) := by decide +kernel
theorem dJx35411_hasNext_aae02_14 : decode cJx35411_hasNext_aae02 14 = .ok (.iconst 1, 1) := by decide +kernel
theorem dJx35411_hasNext_aae02_15 : decode cJx35411_hasNext_aae02 15 = .ok (.goto 4, 3) := by decide +kernel
theorem dJx35411_hasNext_aae02_18 : decode cJx35411_hasNext_aae02 18 = .ok (.iconst 0, 1) := by decide +kernel
theorem dJx35411_hasNext_aae02_19 : decode cJx35411_hasNext_aae02 19 = .ok (.ireturn, 1) := by decide +kernel
def f_Jx35411_hasNext_aae02_0 (a0 : Nat) (M : zM) : Option (Int32 × zM) :=
  (gI 4 0 M a0).bind fun v1 =>
  (gR 4 3 M a0).bind fun v2 =>
  (gI 5 2 M v2).bind fun v3 =>
  if v1 = v3 then
  some ((0 : Int32), M)
  else
  some ((1 : Int32), M)
set_option maxRecDepth 20000 in
set_option maxHeartbeats 4000000 in
theorem s_Jx35411_hasNext_aae02_0 {L : zL} {X : zX} {M0 : zM} {N : Nat × Nat} {Q : State → Prop} {r : Int32 × zM} (hq : vQ L X M0 N Q (some (.int r.1)) r.2) {a0 : Nat} {M : zM} (h : f_Jx35411_hasNext_aae02_0 a0 M = some r) : V L X yJx35411_hasNext_aae02 cJx35411_hasNext_aae02 1 (some FieldType.boolean) 1 M0 N Q M 0 [(0, .ref (zad L (a0)))] [] := by
  unfold f_Jx35411_hasNext_aae02_0 at h
  refine V_aload_n dJx35411_hasNext_aae02_0 rfl 0 rfl ?_
  replace h := ob h
  obtain ⟨v1, e_v1, h⟩ := h
  refine V_getI zf_4_0 zl_Jx35411_25 e_v1 dJx35411_hasNext_aae02_1 ?_
  refine V_pc (pc' := 4) rfl ?_
  refine V_aload_n dJx35411_hasNext_aae02_4 rfl 0 rfl ?_
  replace h := ob h
  obtain ⟨v2, e_v2, h⟩ := h
  refine V_getR zf_4_3 zl_Jx35411_1 e_v2 dJx35411_hasNext_aae02_5 ?_
  refine V_pc (pc' := 8) rfl ?_
  replace h := ob h
  obtain ⟨v3, e_v3, h⟩ := h
  refine V_getIN (ref := "") zf_5_2 zlN_Jx35411_28 e_v3 dJx35411_hasNext_aae02_8 ?_
  refine V_pc (pc' := 11) rfl ?_
  refine V_icmp_eq (tgt := 18) dJx35411_hasNext_aae02_11 (by decide) (fun c4 => ?_) (fun c4 => ?_)
  · replace h := (oi h).1 c4
    refine V_iconst (v := 0) dJx35411_hasNext_aae02_18 (by decide) ?_
    obtain rfl := Option.some.inj h
    exact V_zret (ty := .boolean) rfl rfl hq dJx35411_hasNext_aae02_19
  · replace h := (oi h).2 c4
    refine V_iconst (v := 1) dJx35411_hasNext_aae02_14 (by decide) ?_
    refine V_goto (tgt := 19) dJx35411_hasNext_aae02_15 (by decide) ?_
    obtain rfl := Option.some.inj h
    exact V_zret (ty := .boolean) rfl rfl hq dJx35411_hasNext_aae02_19
def f_Jx35411_hasNext_aae02 (a0 : Nat) (M : zM) : Option (Int32 × zM) := f_Jx35411_hasNext_aae02_0 a0 M
theorem c_Jx35411_hasNext_aae02 {L : zL} {l : Launch} {a0 : Nat} {M : zM} {r : Int32 × zM} (h : f_Jx35411_hasNext_aae02 a0 M = some r) : CP L l yJx35411_hasNext_aae02 cJx35411_hasNext_aae02 1 (some FieldType.boolean) 1 M [.ref (zad L (a0))] (some (.int r.1)) r.2 :=
  CP.of ⟨by decide +kernel, by decide +kernel⟩ (Nat.le_of_ble_eq_true rfl) fun X Q hq => s_Jx35411_hasNext_aae02_0 hq h
/-! java/util/ArrayList$Itr.checkForComodification()V -/
theorem dJx35411_checkForComodification_da8c8_0 : decode cJx35411_checkForComodification_da8c8 0 = .ok (.aload_n 0, 1) := by decide +kernel
theorem dJx35411_checkForComodification_da8c8_1 : decode cJx35411_checkForComodification_da8c8 1 = .ok (.getfield 1, 3) := by decide +kernel
theorem dJx35411_checkForComodification_da8c8_4 : decode cJx35411_checkForComodification_da8c8 4 = .ok (.getfield 17, 3) := by decide +kernel
theorem dJx35411_checkForComodification_da8c8_7 : decode cJx35411_checkForComodification_da8c8 7 = .ok (.aload_n 0, 1) := by decide +kernel
theorem dJx35411_checkForComodification_da8c8_8 : decode cJx35411_checkForComodification_da8c8 8 = .ok (.getfield 22, 3) := by decide +kernel
theorem dJx35411_checkForComodification_da8c8_11 : decode cJx35411_checkForComodification_da8c8 11 = .ok (.if_icmp .eq 11, 3) := by decide +kernel
theorem dJx35411_checkForComodification_da8c8_14 : decode cJx35411_checkForComodification_da8c8 14 = .ok (.new 41, 3) := by decide +kernel
theorem dJx35411_checkForComodification_da8c8_17 : decode cJx35411_checkForComodification_da8c8 17 = .ok (.dup, 1) := by decide +kernel
theorem dJx35411_checkForComodification_da8c8_18 : decode cJx35411_checkForComodification_da8c8 18 = .ok (.invokespecial 43, 3) := by decide +kernel
theorem dJx35411_checkForComodification_da8c8_21 : decode cJx35411_checkForComodification_da8c8 21 = .ok (.athrow, 1) := by decide +kernel
theorem dJx35411_checkForComodification_da8c8_22 : decode cJx35411_checkForComodification_da8c8 22 = .ok (.return_, 1) := by decide +kernel
def f_Jx35411_checkForComodification_da8c8_0 (a0 : Nat) (M : zM) : Option (Unit × zM) :=
  (gR 4 3 M a0).bind fun v1 =>
  (gI 5 0 M v1).bind fun v2 =>
  (gI 4 2 M a0).bind fun v3 =>
  if v2 = v3 then
  some ((), M)
  else
  none
set_option maxRecDepth 20000 in
set_option maxHeartbeats 4000000 in
theorem s_Jx35411_checkForComodification_da8c8_0 {L : zL} {X : zX} {M0 : zM} {N : Nat × Nat} {Q : State → Prop} {r : Unit × zM} (hq : vQ L X M0 N Q none r.2) {a0 : Nat} {M : zM} (h : f_Jx35411_checkForComodification_da8c8_0 a0 M = some r) : V L X yJx35411_checkForComodification_da8c8 cJx35411_checkForComodification_da8c8 1 (none : Option FieldType) 1 M0 N Q M 0 [(0, .ref (zad L (a0)))] [] := by
  unfold f_Jx35411_checkForComodification_da8c8_0 at h
  refine V_aload_n dJx35411_checkForComodification_da8c8_0 rfl 0 rfl ?_
  replace h := ob h
  obtain ⟨v1, e_v1, h⟩ := h
  refine V_getR zf_4_3 zl_Jx35411_1 e_v1 dJx35411_checkForComodification_da8c8_1 ?_
  refine V_pc (pc' := 4) rfl ?_
  replace h := ob h
  obtain ⟨v2, e_v2, h⟩ := h
  refine V_getI zf_5_0 zl_Jx35411_17 e_v2 dJx35411_checkForComodification_da8c8_4 ?_
  refine V_pc (pc' := 7) rfl ?_
  refine V_aload_n dJx35411_checkForComodification_da8c8_7 rfl 0 rfl ?_
  replace h := ob h
  obtain ⟨v3, e_v3, h⟩ := h
  refine V_getI zf_4_2 zl_Jx35411_22 e_v3 dJx35411_checkForComodification_da8c8_8 ?_
  refine V_pc (pc' := 11) rfl ?_
  refine V_icmp_eq (tgt := 22) dJx35411_checkForComodification_da8c8_11 (by decide) (fun c4 => ?_) (fun c4 => ?_)
  · replace h := (oi h).1 c4
    obtain rfl := Option.some.inj h
    exact V_vret rfl hq dJx35411_checkForComodification_da8c8_22
  · replace h := (oi h).2 c4
    cases h
def f_Jx35411_checkForComodification_da8c8 (a0 : Nat) (M : zM) : Option (Unit × zM) := f_Jx35411_checkForComodification_da8c8_0 a0 M
theorem c_Jx35411_checkForComodification_da8c8 {L : zL} {l : Launch} {a0 : Nat} {M : zM} {r : Unit × zM} (h : f_Jx35411_checkForComodification_da8c8 a0 M = some r) : CP L l yJx35411_checkForComodification_da8c8 cJx35411_checkForComodification_da8c8 1 (none : Option FieldType) 1 M [.ref (zad L (a0))] none r.2 :=
  CP.of ⟨by decide +kernel, by decide +kernel⟩ (Nat.le_of_ble_eq_true rfl) fun X Q hq => s_Jx35411_checkForComodification_da8c8_0 hq h
/-! java/util/ArrayList$Itr.next()Ljava/lang/Object; -/
theorem dJx35411_next_0502b_0 : decode cJx35411_next_0502b 0 = .ok (.aload_n 0, 1) := by decide +kernel
theorem dJx35411_next_0502b_1 : decode cJx35411_next_0502b 1 = .ok (.invokevirtual 31, 3) := by decide +kernel
theorem dJx35411_next_0502b_4 : decode cJx35411_next_0502b 4 = .ok (.aload_n 0, 1) := by decide +kernel
theorem dJx35411_next_0502b_5 : decode cJx35411_next_0502b 5 = .ok (.getfield 25, 3) := by decide +kernel
theorem dJx35411_next_0502b_8 : decode cJx35411_next_0502b 8 = .ok (.istore_n 1, 1) := by decide +kernel
theorem dJx35411_next_0502b_9 : decode cJx35411_next_0502b 9 = .ok (.iload_n 1, 1) := by decide +kernel
theorem dJx35411_next_0502b_10 : decode cJx35411_next_0502b 10 = .ok (.aload_n 0, 1) := by decide +kernel
theorem dJx35411_next_0502b_11 : decode cJx35411_next_0502b 11 = .ok (.getfield 1, 3) := by decide +kernel
theorem dJx35411_next_0502b_14 : decode cJx35411_next_0502b 14 = .ok (.getfield 28, 3) := by decide +kernel
theorem dJx35411_next_0502b_17 : decode cJx35411_next_0502b 17 = .ok (.if_icmp .lt 11, 3) := by decide +kernel
theorem dJx35411_next_0502b_20 : decode cJx35411_next_0502b 20 = .ok (.new 34, 3) := by decide +kernel
theorem dJx35411_next_0502b_23 : decode cJx35411_next_0502b 23 = .ok (.dup, 1) := by decide +kernel
theorem dJx35411_next_0502b_24 : decode cJx35411_next_0502b 24 = .ok (.invokespecial 36, 3) := by decide +kernel
theorem dJx35411_next_0502b_27 : decode cJx35411_next_0502b 27 = .ok (.athrow, 1) := by decide +kernel
theorem dJx35411_next_0502b_28 : decode cJx35411_next_0502b 28 = .ok (.aload_n 0, 1) := by decide +kernel
theorem dJx35411_next_0502b_29 : decode cJx35411_next_0502b 29 = .ok (.getfield 1, 3) := by decide +kernel
theorem dJx35411_next_0502b_32 : decode cJx35411_next_0502b 32 = .ok (.getfield 37, 3) := by decide +kernel
theorem dJx35411_next_0502b_35 : decode cJx35411_next_0502b 35 = .ok (.astore_n 2, 1) := by decide +kernel
theorem dJx35411_next_0502b_36 : decode cJx35411_next_0502b 36 = .ok (.iload_n 1, 1) := by decide +kernel
theorem dJx35411_next_0502b_37 : decode cJx35411_next_0502b 37 = .ok (.aload_n 2, 1) := by decide +kernel
theorem dJx35411_next_0502b_38 : decode cJx35411_next_0502b 38 = .ok (.arraylength, 1) := by decide +kernel
theorem dJx35411_next_0502b_39 : decode cJx35411_next_0502b 39 = .ok (.if_icmp .lt 11, 3) := by decide +kernel
theorem dJx35411_next_0502b_42 : decode cJx35411_next_0502b 42 = .ok (.new 41, 3) := by decide +kernel
theorem dJx35411_next_0502b_45 : decode cJx35411_next_0502b 45 = .ok (.dup, 1) := by decide +kernel
theorem dJx35411_next_0502b_46 : decode cJx35411_next_0502b 46 = .ok (.invokespecial 43, 3) := by decide +kernel
theorem dJx35411_next_0502b_49 : decode cJx35411_next_0502b 49 = .ok (.athrow, 1) := by decide +kernel
theorem dJx35411_next_0502b_50 : decode cJx35411_next_0502b 50 = .ok (.aload_n 0, 1) := by decide +kernel
theorem dJx35411_next_0502b_51 : decode cJx35411_next_0502b 51 = .ok (.iload_n 1, 1) := by decide +kernel
theorem dJx35411_next_0502b_52 : decode cJx35411_next_0502b 52 = .ok (.iconst 1, 1) := by decide +kernel
theorem dJx35411_next_0502b_53 : decode cJx35411_next_0502b 53 = .ok (.iadd, 1) := by decide +kernel
theorem dJx35411_next_0502b_54 : decode cJx35411_next_0502b 54 = .ok (.putfield 25, 3) := by decide +kernel
theorem dJx35411_next_0502b_57 : decode cJx35411_next_0502b 57 = .ok (.aload_n 2, 1) := by decide +kernel
theorem dJx35411_next_0502b_58 : decode cJx35411_next_0502b 58 = .ok (.aload_n 0, 1) := by decide +kernel
theorem dJx35411_next_0502b_59 : decode cJx35411_next_0502b 59 = .ok (.iload_n 1, 1) := by decide +kernel
theorem dJx35411_next_0502b_60 : decode cJx35411_next_0502b 60 = .ok (.dup_x1, 1) := by decide +kernel
theorem dJx35411_next_0502b_61 : decode cJx35411_next_0502b 61 = .ok (.putfield 13, 3) := by decide +kernel
theorem dJx35411_next_0502b_64 : decode cJx35411_next_0502b 64 = .ok (.aaload, 1) := by decide +kernel
theorem dJx35411_next_0502b_65 : decode cJx35411_next_0502b 65 = .ok (.areturn, 1) := by decide +kernel
def f_Jx35411_next_0502b_0 (a0 : Nat) (M : zM) : Option (Nat × zM) :=
  if mK M a0 = 4 then
  (f_Jx35411_checkForComodification_da8c8 a0 M).bind fun r1 =>
  (gI 4 0 r1.2 a0).bind fun v3 =>
  (gR 4 3 r1.2 a0).bind fun v4 =>
  (gI 5 2 r1.2 v4).bind fun v5 =>
  if v3 < v5 then
  (gR 4 3 r1.2 a0).bind fun v6 =>
  (gR 5 1 r1.2 v6).bind fun v7 =>
  (gL r1.2 v7).bind fun v8 =>
  if v3 < v8 then
  (pI 4 0 r1.2 a0 ((v3 + ((1 : Int32))))).bind fun M9 =>
  (pI 4 1 M9 a0 v3).bind fun M10 =>
  (lQ 0 M10 v7 v3).bind fun v11 =>
  some (v11, M10)
  else
  none
  else
  none
  else none
set_option maxRecDepth 20000 in
set_option maxHeartbeats 4000000 in
theorem s_Jx35411_next_0502b_0 {L : zL} {X : zX} {M0 : zM} {N : Nat × Nat} {Q : State → Prop} {r : Nat × zM} (hq : vQ L X M0 N Q (some (.ref (zad L r.1))) r.2) {a0 : Nat} {M : zM} (h : f_Jx35411_next_0502b_0 a0 M = some r) : V L X yJx35411_next_0502b cJx35411_next_0502b 3 (Option.some (FieldType.object "java/lang/Object")) 2 M0 N Q M 0 [(0, .ref (zad L (a0)))] [] := by
  unfold f_Jx35411_next_0502b_0 at h
  refine V_aload_n dJx35411_next_0502b_0 rfl 0 rfl ?_
  replace h := ox h
  obtain ⟨c2, h⟩ := h
  replace h := ob h
  obtain ⟨r1, e_r1, h⟩ := h
  refine V_callV_V (As := []) (rest := []) (c_Jx35411_checkForComodification_da8c8 e_r1) zc_Jx35411_checkForComodification_da8c8 rfl (by decide) rfl (by decide) (Or.inl c2) zm_Jx35411_31 (Nat.le_of_ble_eq_true rfl) rfl dJx35411_next_0502b_1 ?_
  refine V_pc (pc' := 4) rfl ?_
  refine V_aload_n dJx35411_next_0502b_4 rfl 0 rfl ?_
  replace h := ob h
  obtain ⟨v3, e_v3, h⟩ := h
  refine V_getI zf_4_0 zl_Jx35411_25 e_v3 dJx35411_next_0502b_5 ?_
  refine V_pc (pc' := 8) rfl ?_
  refine V_istore_n (ls' := [(1, .int (v3)), (0, .ref (zad L (a0)))]) dJx35411_next_0502b_8 rfl (by decide) rfl ?_
  refine V_iload_n dJx35411_next_0502b_9 rfl 0 rfl ?_
  refine V_aload_n dJx35411_next_0502b_10 rfl 1 rfl ?_
  replace h := ob h
  obtain ⟨v4, e_v4, h⟩ := h
  refine V_getR zf_4_3 zl_Jx35411_1 e_v4 dJx35411_next_0502b_11 ?_
  refine V_pc (pc' := 14) rfl ?_
  replace h := ob h
  obtain ⟨v5, e_v5, h⟩ := h
  refine V_getIN (ref := "") zf_5_2 zlN_Jx35411_28 e_v5 dJx35411_next_0502b_14 ?_
  refine V_pc (pc' := 17) rfl ?_
  refine V_icmp_lt (tgt := 28) dJx35411_next_0502b_17 (by decide) (fun c13 => ?_) (fun c13 => ?_)
  · replace h := (oi h).1 c13
    refine V_aload_n dJx35411_next_0502b_28 rfl 1 rfl ?_
    replace h := ob h
    obtain ⟨v6, e_v6, h⟩ := h
    refine V_getR zf_4_3 zl_Jx35411_1 e_v6 dJx35411_next_0502b_29 ?_
    refine V_pc (pc' := 32) rfl ?_
    replace h := ob h
    obtain ⟨v7, e_v7, h⟩ := h
    refine V_getR zf_5_1 zl_Jx35411_37 e_v7 dJx35411_next_0502b_32 ?_
    refine V_pc (pc' := 35) rfl ?_
    refine V_astore_n (ls' := [(2, .ref (zad L (v7))), (1, .int (v3)), (0, .ref (zad L (a0)))]) dJx35411_next_0502b_35 rfl (by decide) rfl ?_
    refine V_iload_n dJx35411_next_0502b_36 rfl 1 rfl ?_
    refine V_aload_n dJx35411_next_0502b_37 rfl 0 rfl ?_
    replace h := ob h
    obtain ⟨v8, e_v8, h⟩ := h
    refine V_alen e_v8 dJx35411_next_0502b_38 ?_
    refine V_pc (pc' := 39) rfl ?_
    refine V_icmp_lt (tgt := 50) dJx35411_next_0502b_39 (by decide) (fun c12 => ?_) (fun c12 => ?_)
    · replace h := (oi h).1 c12
      refine V_aload_n dJx35411_next_0502b_50 rfl 2 rfl ?_
      refine V_iload_n dJx35411_next_0502b_51 rfl 1 rfl ?_
      refine V_iconst (v := 1) dJx35411_next_0502b_52 (by decide) ?_
      refine V_iadd dJx35411_next_0502b_53 ?_
      replace h := ob h
      obtain ⟨M9, e_M9, h⟩ := h
      refine V_putI zf_4_0 zl_Jx35411_25 (Or.inl rfl) rfl e_M9 dJx35411_next_0502b_54 ?_
      refine V_pc (pc' := 57) rfl ?_
      refine V_aload_n dJx35411_next_0502b_57 rfl 0 rfl ?_
      refine V_aload_n dJx35411_next_0502b_58 rfl 2 rfl ?_
      refine V_iload_n dJx35411_next_0502b_59 rfl 1 rfl ?_
      refine V_dup_x1 dJx35411_next_0502b_60 rfl rfl ?_
      replace h := ob h
      obtain ⟨M10, e_M10, h⟩ := h
      refine V_putI zf_4_1 zl_Jx35411_13 (Or.inl rfl) rfl e_M10 dJx35411_next_0502b_61 ?_
      refine V_pc (pc' := 64) rfl ?_
      replace h := ob h
      obtain ⟨v11, e_v11, h⟩ := h
      refine V_aald (by decide) e_v11 dJx35411_next_0502b_64 ?_
      refine V_pc (pc' := 65) rfl ?_
      obtain rfl := Option.some.inj h
      exact V_aret rfl (by first | exact Or.inl ⟨_, rfl⟩ | exact Or.inr ⟨_, rfl⟩) hq dJx35411_next_0502b_65
    · replace h := (oi h).2 c12
      cases h
  · replace h := (oi h).2 c13
    cases h
def f_Jx35411_next_0502b (a0 : Nat) (M : zM) : Option (Nat × zM) := f_Jx35411_next_0502b_0 a0 M
theorem c_Jx35411_next_0502b {L : zL} {l : Launch} {a0 : Nat} {M : zM} {r : Nat × zM} (h : f_Jx35411_next_0502b a0 M = some r) : CP L l yJx35411_next_0502b cJx35411_next_0502b 3 (Option.some (FieldType.object "java/lang/Object")) 2 M [.ref (zad L (a0))] (some (.ref (zad L r.1))) r.2 :=
  CP.of ⟨by decide +kernel, by decide +kernel⟩ (Nat.le_of_ble_eq_true rfl) fun X Q hq => s_Jx35411_next_0502b_0 hq h
/-! java/util/ArrayList$Itr.<init>(Ljava/util/ArrayList;)V -/
theorem dJx35411_init_45d68_0 : decode cJx35411_init_45d68 0 = .ok (.aload_n 0, 1) := by decide +kernel
theorem dJx35411_init_45d68_1 : decode cJx35411_init_45d68 1 = .ok (.aload_n 1, 1) := by decide +kernel
theorem dJx35411_init_45d68_2 : decode cJx35411_init_45d68 2 = .ok (.putfield 1, 3) := by decide +kernel
theorem dJx35411_init_45d68_5 : decode cJx35411_init_45d68 5 = .ok (.aload_n 0, 1) := by decide +kernel
theorem dJx35411_init_45d68_6 : decode cJx35411_init_45d68 6 = .ok (.invokespecial 7, 3) := by decide +kernel
theorem dJx35411_init_45d68_9 : decode cJx35411_init_45d68 9 = .ok (.aload_n 0, 1) := by decide +kernel
theorem dJx35411_init_45d68_10 : decode cJx35411_init_45d68 10 = .ok (.iconst (-1), 1) := by decide +kernel
theorem dJx35411_init_45d68_11 : decode cJx35411_init_45d68 11 = .ok (.putfield 13, 3) := by decide +kernel
theorem dJx35411_init_45d68_14 : decode cJx35411_init_45d68 14 = .ok (.aload_n 0, 1) := by decide +kernel
theorem dJx35411_init_45d68_15 : decode cJx35411_init_45d68 15 = .ok (.aload_n 0, 1) := by decide +kernel
theorem dJx35411_init_45d68_16 : decode cJx35411_init_45d68 16 = .ok (.getfield 1, 3) := by decide +kernel
theorem dJx35411_init_45d68_19 : decode cJx35411_init_45d68 19 = .ok (.getfield 17, 3) := by decide +kernel
theorem dJx35411_init_45d68_22 : decode cJx35411_init_45d68 22 = .ok (.putfield 22, 3) := by decide +kernel
theorem dJx35411_init_45d68_25 : decode cJx35411_init_45d68 25 = .ok (.return_, 1) := by decide +kernel
def f_Jx35411_init_45d68_0 (a0 : Nat) (a1 : Nat) (M : zM) : Option (Unit × zM) :=
  (pR 4 3 M a0 a1).bind fun M1 =>
  (pI 4 1 M1 a0 ((-1 : Int32))).bind fun M2 =>
  (gR 4 3 M2 a0).bind fun v3 =>
  (gI 5 0 M2 v3).bind fun v4 =>
  (pI 4 2 M2 a0 v4).bind fun M5 =>
  some ((), M5)
set_option maxRecDepth 20000 in
set_option maxHeartbeats 4000000 in
theorem s_Jx35411_init_45d68_0 {L : zL} {X : zX} {M0 : zM} {N : Nat × Nat} {Q : State → Prop} {r : Unit × zM} (hq : vQ L X M0 N Q none r.2) {a0 : Nat} {a1 : Nat} {M : zM} (h : f_Jx35411_init_45d68_0 a0 a1 M = some r) : V L X yJx35411_init_45d68 cJx35411_init_45d68 2 (none : Option FieldType) 1 M0 N Q M 0 [(0, .ref (zad L (a0))), (1, .ref (zad L (a1)))] [] := by
  unfold f_Jx35411_init_45d68_0 at h
  refine V_aload_n dJx35411_init_45d68_0 rfl 0 rfl ?_
  refine V_aload_n dJx35411_init_45d68_1 rfl 1 rfl ?_
  replace h := ob h
  obtain ⟨M1, e_M1, h⟩ := h
  refine V_putR zf_4_3 zl_Jx35411_1 (Or.inr ⟨rfl, rfl, rfl⟩) rfl e_M1 dJx35411_init_45d68_2 ?_
  refine V_pc (pc' := 5) rfl ?_
  refine V_aload_n dJx35411_init_45d68_5 rfl 0 rfl ?_
  refine V_objInit zo_Jx35411_7 (by decide) (Nat.le_of_ble_eq_true rfl) dJx35411_init_45d68_6 ?_
  refine V_aload_n dJx35411_init_45d68_9 rfl 0 rfl ?_
  refine V_iconst (v := -1) dJx35411_init_45d68_10 (by decide) ?_
  replace h := ob h
  obtain ⟨M2, e_M2, h⟩ := h
  refine V_putI zf_4_1 zl_Jx35411_13 (Or.inl rfl) rfl e_M2 dJx35411_init_45d68_11 ?_
  refine V_pc (pc' := 14) rfl ?_
  refine V_aload_n dJx35411_init_45d68_14 rfl 0 rfl ?_
  refine V_aload_n dJx35411_init_45d68_15 rfl 0 rfl ?_
  replace h := ob h
  obtain ⟨v3, e_v3, h⟩ := h
  refine V_getR zf_4_3 zl_Jx35411_1 e_v3 dJx35411_init_45d68_16 ?_
  refine V_pc (pc' := 19) rfl ?_
  replace h := ob h
  obtain ⟨v4, e_v4, h⟩ := h
  refine V_getI zf_5_0 zl_Jx35411_17 e_v4 dJx35411_init_45d68_19 ?_
  refine V_pc (pc' := 22) rfl ?_
  replace h := ob h
  obtain ⟨M5, e_M5, h⟩ := h
  refine V_putI zf_4_2 zl_Jx35411_22 (Or.inl rfl) rfl e_M5 dJx35411_init_45d68_22 ?_
  refine V_pc (pc' := 25) rfl ?_
  obtain rfl := Option.some.inj h
  exact V_vret rfl hq dJx35411_init_45d68_25
def f_Jx35411_init_45d68 (a0 : Nat) (a1 : Nat) (M : zM) : Option (Unit × zM) := f_Jx35411_init_45d68_0 a0 a1 M
theorem c_Jx35411_init_45d68 {L : zL} {l : Launch} {a0 : Nat} {a1 : Nat} {M : zM} {r : Unit × zM} (h : f_Jx35411_init_45d68 a0 a1 M = some r) : CP L l yJx35411_init_45d68 cJx35411_init_45d68 2 (none : Option FieldType) 1 M [.ref (zad L (a0)), .ref (zad L (a1))] none r.2 :=
  CP.of ⟨by decide +kernel, by decide +kernel⟩ (Nat.le_of_ble_eq_true rfl) fun X Q hq => s_Jx35411_init_45d68_0 hq h
/-! java/util/ArrayList.iterator()Ljava/util/Iterator; -/
theorem dJx4a65c_iterator_32c93_0 : decode cJx4a65c_iterator_32c93 0 = .ok (.new 267, 3) := by decide +kernel
theorem dJx4a65c_iterator_32c93_3 : decode cJx4a65c_iterator_32c93 3 = .ok (.dup, 1) := by decide +kernel
theorem dJx4a65c_iterator_32c93_4 : decode cJx4a65c_iterator_32c93 4 = .ok (.aload_n 0, 1) := by decide +kernel
theorem dJx4a65c_iterator_32c93_5 : decode cJx4a65c_iterator_32c93 5 = .ok (.invokespecial 269, 3) := by decide +kernel
theorem dJx4a65c_iterator_32c93_8 : decode cJx4a65c_iterator_32c93 8 = .ok (.areturn, 1) := by decide +kernel
def f_Jx4a65c_iterator_32c93_0 (a0 : Nat) (M : zM) : Option (Nat × zM) :=
  (f_Jx35411_init_45d68 (mX M) a0 (nO M 4 4)).bind fun r1 =>
  some (mX M, r1.2)
set_option maxRecDepth 20000 in
set_option maxHeartbeats 4000000 in
theorem s_Jx4a65c_iterator_32c93_0 {L : zL} {X : zX} {M0 : zM} {N : Nat × Nat} {Q : State → Prop} {r : Nat × zM} (hq : vQ L X M0 N Q (some (.ref (zad L r.1))) r.2) {a0 : Nat} {M : zM} (h : f_Jx4a65c_iterator_32c93_0 a0 M = some r) : V L X yJx4a65c_iterator_32c93 cJx4a65c_iterator_32c93 1 (Option.some (FieldType.object "java/util/Iterator")) 2 M0 N Q M 0 [(0, .ref (zad L (a0)))] [] := by
  unfold f_Jx4a65c_iterator_32c93_0 at h
  refine V_new (by decide) rfl zin4 zty4 zdf4 zn_Jx4a65c_267 dJx4a65c_iterator_32c93_0 ?_
  refine V_dup dJx4a65c_iterator_32c93_3 rfl ?_
  refine V_aload_n dJx4a65c_iterator_32c93_4 rfl 0 rfl ?_
  replace h := ob h
  obtain ⟨r1, e_r1, h⟩ := h
  refine V_callI_V (As := [.ref (zad L (a0))]) (rest := [.ref (zad L (mX M))]) (c_Jx35411_init_45d68 e_r1) zc_Jx35411_init_45d68 rfl (by decide) zm_Jx4a65c_269 rfl (Nat.le_of_ble_eq_true rfl) rfl dJx4a65c_iterator_32c93_5 ?_
  refine V_pc (pc' := 8) rfl ?_
  obtain rfl := Option.some.inj h
  exact V_aret rfl (by first | exact Or.inl ⟨_, rfl⟩ | exact Or.inr ⟨_, rfl⟩) hq dJx4a65c_iterator_32c93_8
def f_Jx4a65c_iterator_32c93 (a0 : Nat) (M : zM) : Option (Nat × zM) := f_Jx4a65c_iterator_32c93_0 a0 M
theorem c_Jx4a65c_iterator_32c93 {L : zL} {l : Launch} {a0 : Nat} {M : zM} {r : Nat × zM} (h : f_Jx4a65c_iterator_32c93 a0 M = some r) : CP L l yJx4a65c_iterator_32c93 cJx4a65c_iterator_32c93 1 (Option.some (FieldType.object "java/util/Iterator")) 2 M [.ref (zad L (a0))] (some (.ref (zad L r.1))) r.2 :=
  CP.of ⟨by decide +kernel, by decide +kernel⟩ (Nat.le_of_ble_eq_true rfl) fun X Q hq => s_Jx4a65c_iterator_32c93_0 hq h
/-! WindsparlourModel$Player.open()I -/
theorem dX6_open_0 : decode cX6_open 0 = .ok (.iconst 0, 1) := by decide +kernel
theorem dX6_open_1 : decode cX6_open 1 = .ok (.istore_n 1, 1) := by decide +kernel
theorem dX6_open_2 : decode cX6_open 2 = .ok (.aload_n 0, 1) := by decide +kernel
theorem dX6_open_3 : decode cX6_open 3 = .ok (.getfield 22, 3) := by decide +kernel
theorem dX6_open_6 : decode cX6_open 6 = .ok (.invokevirtual 47, 3) := by decide +kernel
theorem dX6_open_9 : decode cX6_open 9 = .ok (.astore_n 2, 1) := by decide +kernel
theorem dX6_open_10 : decode cX6_open 10 = .ok (.aload_n 2, 1) := by decide +kernel
theorem dX6_open_11 : decode cX6_open 11 = .ok (.invokeinterface 51 1, 5) := by decide +kernel
theorem dX6_open_16 : decode cX6_open 16 = .ok (.ifCond .eq 31, 3) := by decide +kernel
theorem dX6_open_19 : decode cX6_open 19 = .ok (.aload_n 2, 1) := by decide +kernel
theorem dX6_open_20 : decode cX6_open 20 = .ok (.invokeinterface 57 1, 5) := by decide +kernel
theorem dX6_open_25 : decode cX6_open 25 = .ok (.checkcast 61, 3) := by decide +kernel
theorem dX6_open_28 : decode cX6_open 28 = .ok (.astore_n 3, 1) := by decide +kernel
theorem dX6_open_29 : decode cX6_open 29 = .ok (.iload_n 1, 1) := by decide +kernel
theorem dX6_open_30 : decode cX6_open 30 = .ok (.aload_n 3, 1) := by decide +kernel
theorem dX6_open_31 : decode cX6_open 31 = .ok (.invokevirtual 63, 3) := by decide +kernel
theorem dX6_open_34 : decode cX6_open 34 = .ok (.ifCond .eq 7, 3) := by decide +kernel
theorem dX6_open_37 : decode cX6_open 37 = .ok (.iconst 1, 1) := by decide +kernel
theorem dX6_open_38 : decode cX6_open 38 = .ok (.goto 4, 3) := by decide +kernel
theorem dX6_open_41 : decode cX6_open 41 = .ok (.iconst 0, 1) := by decide +kernel
theorem dX6_open_42 : decode cX6_open 42 = .ok (.iadd, 1) := by decide +kernel
theorem dX6_open_43 : decode cX6_open 43 = .ok (.istore_n 1, 1) := by decide +kernel
theorem dX6_open_44 : decode cX6_open 44 = .ok (.goto (-34), 3) := by decide +kernel
theorem dX6_open_47 : decode cX6_open 47 = .ok (.iload_n 1, 1) := by decide +kernel
theorem dX6_open_48 : decode cX6_open 48 = .ok (.ireturn, 1) := by decide +kernel
def f_X6_open_10 (n : Nat) (i1 : Int32) (a2 : Nat) (M : zM) : Option (Int32 × zM) := match n with
  | 0 => none
  | n + 1 =>
    if mK M a2 = 4 then
    (f_Jx35411_hasNext_aae02 a2 M).bind fun r1 =>
    if r1.1 = 0 then
    some (i1, r1.2)
    else
    if mK r1.2 a2 = 4 then
    (f_Jx35411_next_0502b a2 r1.2).bind fun r3 =>
    if mK r3.2 r3.1 = 11 ∨ mK r3.2 r3.1 = 311 then
    if mK r3.2 r3.1 = 11 then
    (f_X5_isOpen r3.1 r3.2).bind fun r6 =>
    if r6.1 = 0 then
    f_X6_open_10 n ((i1 + ((0 : Int32)))) a2 r6.2
    else
    f_X6_open_10 n ((i1 + ((1 : Int32)))) a2 r6.2
    else none
    else none
    else none
    else none
set_option maxRecDepth 20000 in
set_option maxHeartbeats 4000000 in
theorem s_X6_open_10 {L : zL} {X : zX} {M0 : zM} {N : Nat × Nat} {Q : State → Prop} {r : Int32 × zM} (hq : vQ L X M0 N Q (some (.int r.1)) r.2) {n : Nat} {i1 : Int32} {a2 : Nat} {M : zM} : f_X6_open_10 n i1 a2 M = some r → V L X yX6_open cX6_open 4 (some FieldType.int) 3 M0 N Q M 10 [(1, .int (i1)), (2, .ref (zad L (a2)))] [] := by
  induction n generalizing i1 a2 M with
  | zero =>
    intro h
    rw [f_X6_open_10] at h
    cases h
  | succ n ih0 =>
    intro h
    have ih : ∀ (i1 : Int32) (a2 : Nat) (M : zM), f_X6_open_10 n i1 a2 M = some r → V L X yX6_open cX6_open 4 (some FieldType.int) 3 M0 N Q M 10 [(1, .int (i1)), (2, .ref (zad L (a2)))] [] := fun i1 a2 M h => ih0 h
    rw [f_X6_open_10] at h
    refine V_aload_n dX6_open_10 rfl 1 rfl ?_
    replace h := ox h
    obtain ⟨c2, h⟩ := h
    replace h := ob h
    obtain ⟨r1, e_r1, h⟩ := h
    refine V_callF_I (As := []) (rest := []) (c_Jx35411_hasNext_aae02 e_r1) zc_Jx35411_hasNext_aae02 rfl (by decide) rfl (by decide) (Or.inl c2) zm_X6_51 (Nat.le_of_ble_eq_true rfl) rfl dX6_open_11 ?_
    refine V_pc (pc' := 16) rfl ?_
    refine V_if_eq (tgt := 47) dX6_open_16 (by decide) (fun c9 => ?_) (fun c9 => ?_)
    · replace h := (oi h).1 c9
      refine V_iload_n dX6_open_47 rfl 0 rfl ?_
      obtain rfl := Option.some.inj h
      exact V_iret rfl hq dX6_open_48
    · replace h := (oi h).2 c9
      refine V_aload_n dX6_open_19 rfl 1 rfl ?_
      replace h := ox h
      obtain ⟨c4, h⟩ := h
      replace h := ob h
      obtain ⟨r3, e_r3, h⟩ := h
      refine V_callF_A (As := []) (rest := []) (c_Jx35411_next_0502b e_r3) zc_Jx35411_next_0502b rfl (by decide) rfl (by decide) (Or.inl c4) zm_X6_57 (Nat.le_of_ble_eq_true rfl) rfl dX6_open_20 ?_
      refine V_pc (pc' := 25) rfl ?_
      replace h := ox h
      obtain ⟨c5, h⟩ := h
      refine V_cast (k := 11) rfl (by decide) c5 zk_X6_61 dX6_open_25 ?_
      refine V_astore_n (ls' := [(3, .ref (zad L (r3.1))), (1, .int (i1)), (2, .ref (zad L (a2)))]) dX6_open_28 rfl (by decide) rfl ?_
      refine V_iload_n dX6_open_29 rfl 1 rfl ?_
      refine V_aload_n dX6_open_30 rfl 0 rfl ?_
      replace h := ox h
      obtain ⟨c7, h⟩ := h
      replace h := ob h
      obtain ⟨r6, e_r6, h⟩ := h
      refine V_callV_I (As := []) (rest := [.int (i1)]) (c_X5_isOpen e_r6) zc_X5_isOpen rfl (by decide) rfl (by decide) (Or.inl c7) zm_X6_63 (Nat.le_of_ble_eq_true rfl) rfl dX6_open_31 ?_
      refine V_pc (pc' := 34) rfl ?_
      refine V_if_eq (tgt := 41) dX6_open_34 (by decide) (fun c8 => ?_) (fun c8 => ?_)
      · replace h := (oi h).1 c8
        refine V_iconst (v := 0) dX6_open_41 (by decide) ?_
        refine V_iadd dX6_open_42 ?_
        refine V_istore_n (ls' := [(1, .int ((i1 + ((0 : Int32))))), (3, .ref (zad L (r3.1))), (2, .ref (zad L (a2)))]) dX6_open_43 rfl (by decide) rfl ?_
        refine V_goto (tgt := 10) dX6_open_44 (by decide) ?_
        refine V_sub [0, 2] rfl ?_
        exact ih _ _ _ h
      · replace h := (oi h).2 c8
        refine V_iconst (v := 1) dX6_open_37 (by decide) ?_
        refine V_goto (tgt := 42) dX6_open_38 (by decide) ?_
        refine V_iadd dX6_open_42 ?_
        refine V_istore_n (ls' := [(1, .int ((i1 + ((1 : Int32))))), (3, .ref (zad L (r3.1))), (2, .ref (zad L (a2)))]) dX6_open_43 rfl (by decide) rfl ?_
        refine V_goto (tgt := 10) dX6_open_44 (by decide) ?_
        refine V_sub [0, 2] rfl ?_
        exact ih _ _ _ h
def f_X6_open_0 (a0 : Nat) (M : zM) : Option (Int32 × zM) :=
  (gR 12 3 M a0).bind fun v1 =>
  if mK M v1 = 5 then
  (f_Jx4a65c_iterator_32c93 v1 M).bind fun r2 =>
  f_X6_open_10 zN ((0 : Int32)) r2.1 r2.2
  else none
set_option maxRecDepth 20000 in
set_option maxHeartbeats 4000000 in
theorem s_X6_open_0 {L : zL} {X : zX} {M0 : zM} {N : Nat × Nat} {Q : State → Prop} {r : Int32 × zM} (hq : vQ L X M0 N Q (some (.int r.1)) r.2) {a0 : Nat} {M : zM} (h : f_X6_open_0 a0 M = some r) : V L X yX6_open cX6_open 4 (some FieldType.int) 3 M0 N Q M 0 [(0, .ref (zad L (a0)))] [] := by
  unfold f_X6_open_0 at h
  refine V_iconst (v := 0) dX6_open_0 (by decide) ?_
  refine V_istore_n (ls' := [(1, .int ((0 : Int32))), (0, .ref (zad L (a0)))]) dX6_open_1 rfl (by decide) rfl ?_
  refine V_aload_n dX6_open_2 rfl 1 rfl ?_
  replace h := ob h
  obtain ⟨v1, e_v1, h⟩ := h
  refine V_getR zf_12_3 zl_X6_22 e_v1 dX6_open_3 ?_
  refine V_pc (pc' := 6) rfl ?_
  replace h := ox h
  obtain ⟨c3, h⟩ := h
  replace h := ob h
  obtain ⟨r2, e_r2, h⟩ := h
  refine V_callV_A (As := []) (rest := []) (c_Jx4a65c_iterator_32c93 e_r2) zc_Jx4a65c_iterator_32c93 rfl (by decide) rfl (by decide) (Or.inl c3) zm_X6_47 (Nat.le_of_ble_eq_true rfl) rfl dX6_open_6 ?_
  refine V_pc (pc' := 9) rfl ?_
  refine V_astore_n (ls' := [(2, .ref (zad L (r2.1))), (1, .int ((0 : Int32))), (0, .ref (zad L (a0)))]) dX6_open_9 rfl (by decide) rfl ?_
  refine V_sub [1, 0] rfl ?_
  exact s_X6_open_10 hq h
def f_X6_open (a0 : Nat) (M : zM) : Option (Int32 × zM) := f_X6_open_0 a0 M
theorem c_X6_open {L : zL} {l : Launch} {a0 : Nat} {M : zM} {r : Int32 × zM} (h : f_X6_open a0 M = some r) : CP L l yX6_open cX6_open 4 (some FieldType.int) 3 M [.ref (zad L (a0))] (some (.int r.1)) r.2 :=
  CP.of ⟨by decide +kernel, by decide +kernel⟩ (Nat.le_of_ble_eq_true rfl) fun X Q hq => s_X6_open_0 hq h
/-! WindsparlourModel.isRun(II)Z -/
theorem dX7_isRun_0 : decode cX7_isRun 0 = .ok (.iload_n 0, 1) := by decide +kernel
theorem dX7_isRun_1 : decode cX7_isRun 1 = .ok (.ifCond .lt 24, 3) := by decide +kernel
theorem dX7_isRun_4 : decode cX7_isRun 4 = .ok (.iload_n 0, 1) := by decide +kernel
theorem dX7_isRun_5 : decode cX7_isRun 5 = .ok (.bipush 18, 2) := by decide +kernel
theorem dX7_isRun_7 : decode cX7_isRun 7 = .ok (.if_icmp .ge 18, 3) := by decide +kernel
theorem dX7_isRun_10 : decode cX7_isRun 10 = .ok (.iload_n 0, 1) := by decide +kernel
theorem dX7_isRun_11 : decode cX7_isRun 11 = .ok (.bipush 9, 2) := by decide +kernel
theorem dX7_isRun_13 : decode cX7_isRun 13 = .ok (.irem, 1) := by decide +kernel
theorem dX7_isRun_14 : decode cX7_isRun 14 = .ok (.iload_n 1, 1) := by decide +kernel
theorem dX7_isRun_15 : decode cX7_isRun 15 = .ok (.iadd, 1) := by decide +kernel
theorem dX7_isRun_16 : decode cX7_isRun 16 = .ok (.bipush 9, 2) := by decide +kernel
theorem dX7_isRun_18 : decode cX7_isRun 18 = .ok (.if_icmp .gt 7, 3) := by decide +kernel
theorem dX7_isRun_21 : decode cX7_isRun 21 = .ok (.iconst 1, 1) := by decide +kernel
theorem dX7_isRun_22 : decode cX7_isRun 22 = .ok (.goto 4, 3) := by decide +kernel
theorem dX7_isRun_25 : decode cX7_isRun 25 = .ok (.iconst 0, 1) := by decide +kernel
theorem dX7_isRun_26 : decode cX7_isRun 26 = .ok (.ireturn, 1) := by decide +kernel
def f_X7_isRun_0 (i0 : Int32) (i1 : Int32) (M : zM) : Option (Int32 × zM) :=
  if i0 < 0 then
  some ((0 : Int32), M)
  else
  if ((18 : Int32)) ≤ i0 then
  some ((0 : Int32), M)
  else
  if ((9 : Int32)) < ((((zmd i0 ((9 : Int32)))) + i1)) then
  some ((0 : Int32), M)
  else
  some ((1 : Int32), M)
set_option maxRecDepth 20000 in
set_option maxHeartbeats 4000000 in
theorem s_X7_isRun_0 {L : zL} {X : zX} {M0 : zM} {N : Nat × Nat} {Q : State → Prop} {r : Int32 × zM} (hq : vQ L X M0 N Q (some (.int r.1)) r.2) {i0 : Int32} {i1 : Int32} {M : zM} (h : f_X7_isRun_0 i0 i1 M = some r) : V L X yX7_isRun cX7_isRun 2 (some FieldType.boolean) 1 M0 N Q M 0 [(0, .int (i0)), (1, .int (i1))] [] := by
  unfold f_X7_isRun_0 at h
  refine V_iload_n dX7_isRun_0 rfl 0 rfl ?_
  refine V_if_lt (tgt := 25) dX7_isRun_1 (by decide) (fun c3 => ?_) (fun c3 => ?_)
  · replace h := (oi h).1 c3
    refine V_iconst (v := 0) dX7_isRun_25 (by decide) ?_
    obtain rfl := Option.some.inj h
    exact V_zret (ty := .boolean) rfl rfl hq dX7_isRun_26
  · replace h := (oi h).2 c3
    refine V_iload_n dX7_isRun_4 rfl 0 rfl ?_
    refine V_bipush (v := 18) dX7_isRun_5 (by decide) ?_
    refine V_icmp_ge (tgt := 25) dX7_isRun_7 (by decide) (fun c2 => ?_) (fun c2 => ?_)
    · replace h := (oi h).1 c2
      refine V_iconst (v := 0) dX7_isRun_25 (by decide) ?_
      obtain rfl := Option.some.inj h
      exact V_zret (ty := .boolean) rfl rfl hq dX7_isRun_26
    · replace h := (oi h).2 c2
      refine V_iload_n dX7_isRun_10 rfl 0 rfl ?_
      refine V_bipush (v := 9) dX7_isRun_11 (by decide) ?_
      refine V_irem dX7_isRun_13 (by decide) ?_
      refine V_iload_n dX7_isRun_14 rfl 1 rfl ?_
      refine V_iadd dX7_isRun_15 ?_
      refine V_bipush (v := 9) dX7_isRun_16 (by decide) ?_
      refine V_icmp_gt (tgt := 25) dX7_isRun_18 (by decide) (fun c1 => ?_) (fun c1 => ?_)
      · replace h := (oi h).1 c1
        refine V_iconst (v := 0) dX7_isRun_25 (by decide) ?_
        obtain rfl := Option.some.inj h
        exact V_zret (ty := .boolean) rfl rfl hq dX7_isRun_26
      · replace h := (oi h).2 c1
        refine V_iconst (v := 1) dX7_isRun_21 (by decide) ?_
        refine V_goto (tgt := 26) dX7_isRun_22 (by decide) ?_
        obtain rfl := Option.some.inj h
        exact V_zret (ty := .boolean) rfl rfl hq dX7_isRun_26
def f_X7_isRun (i0 : Int32) (i1 : Int32) (M : zM) : Option (Int32 × zM) := f_X7_isRun_0 i0 i1 M
theorem c_X7_isRun {L : zL} {l : Launch} {i0 : Int32} {i1 : Int32} {M : zM} {r : Int32 × zM} (h : f_X7_isRun i0 i1 M = some r) : CP L l yX7_isRun cX7_isRun 2 (some FieldType.boolean) 1 M [.int (i0), .int (i1)] (some (.int r.1)) r.2 :=
  CP.of ⟨by decide +kernel, by decide +kernel⟩ (Nat.le_of_ble_eq_true rfl) fun X Q hq => s_X7_isRun_0 hq h
/-! WindsparlourModel.with([IIIIIII)I -/
theorem dX7_with_0 : decode cX7_with 0 = .ok (.aload_n 0, 1) := by decide +kernel
theorem dX7_with_1 : decode cX7_with 1 = .ok (.iload_n 1, 1) := by decide +kernel
theorem dX7_with_2 : decode cX7_with 2 = .ok (.dup2, 1) := by decide +kernel
theorem dX7_with_3 : decode cX7_with 3 = .ok (.iaload, 1) := by decide +kernel
theorem dX7_with_4 : decode cX7_with 4 = .ok (.iconst 1, 1) := by decide +kernel
theorem dX7_with_5 : decode cX7_with 5 = .ok (.isub, 1) := by decide +kernel
theorem dX7_with_6 : decode cX7_with 6 = .ok (.iastore, 1) := by decide +kernel
theorem dX7_with_7 : decode cX7_with 7 = .ok (.aload_n 0, 1) := by decide +kernel
theorem dX7_with_8 : decode cX7_with 8 = .ok (.iload_n 2, 1) := by decide +kernel
theorem dX7_with_9 : decode cX7_with 9 = .ok (.dup2, 1) := by decide +kernel
theorem dX7_with_10 : decode cX7_with 10 = .ok (.iaload, 1) := by decide +kernel
theorem dX7_with_11 : decode cX7_with 11 = .ok (.iconst 1, 1) := by decide +kernel
theorem dX7_with_12 : decode cX7_with 12 = .ok (.isub, 1) := by decide +kernel
theorem dX7_with_13 : decode cX7_with 13 = .ok (.iastore, 1) := by decide +kernel
theorem dX7_with_14 : decode cX7_with 14 = .ok (.iload_n 3, 1) := by decide +kernel
theorem dX7_with_15 : decode cX7_with 15 = .ok (.iconst (-1), 1) := by decide +kernel
theorem dX7_with_16 : decode cX7_with 16 = .ok (.if_icmp .eq 10, 3) := by decide +kernel
theorem dX7_with_19 : decode cX7_with 19 = .ok (.aload_n 0, 1) := by decide +kernel
theorem dX7_with_20 : decode cX7_with 20 = .ok (.iload_n 3, 1) := by decide +kernel
theorem dX7_with_21 : decode cX7_with 21 = .ok (.dup2, 1) := by decide +kernel
theorem dX7_with_22 : decode cX7_with 22 = .ok (.iaload, 1) := by decide +kernel
theorem dX7_with_23 : decode cX7_with 23 = .ok (.iconst 1, 1) := by decide +kernel
theorem dX7_with_24 : decode cX7_with 24 = .ok (.isub, 1) := by decide +kernel
theorem dX7_with_25 : decode cX7_with 25 = .ok (.iastore, 1) := by decide +kernel
theorem dX7_with_26 : decode cX7_with 26 = .ok (.aload_n 0, 1) := by decide +kernel
theorem dX7_with_27 : decode cX7_with 27 = .ok (.iload_n 1, 1) := by decide +kernel
theorem dX7_with_28 : decode cX7_with 28 = .ok (.iaload, 1) := by decide +kernel
theorem dX7_with_29 : decode cX7_with 29 = .ok (.ifCond .lt 24, 3) := by decide +kernel
theorem dX7_with_32 : decode cX7_with 32 = .ok (.aload_n 0, 1) := by decide +kernel
theorem dX7_with_33 : decode cX7_with 33 = .ok (.iload_n 2, 1) := by decide +kernel
theorem dX7_with_34 : decode cX7_with 34 = .ok (.iaload, 1) := by decide +kernel
theorem dX7_with_35 : decode cX7_with 35 = .ok (.ifCond .lt 18, 3) := by decide +kernel
theorem dX7_with_38 : decode cX7_with 38 = .ok (.iload_n 3, 1) := by decide +kernel
theorem dX7_with_39 : decode cX7_with 39 = .ok (.iconst (-1), 1) := by decide +kernel
theorem dX7_with_40 : decode cX7_with 40 = .ok (.if_icmp .eq 9, 3) := by decide +kernel
theorem dX7_with_43 : decode cX7_with 43 = .ok (.aload_n 0, 1) := by decide +kernel
theorem dX7_with_44 : decode cX7_with 44 = .ok (.iload_n 3, 1) := by decide +kernel
theorem dX7_with_45 : decode cX7_with 45 = .ok (.iaload, 1) := by decide +kernel
theorem dX7_with_46 : decode cX7_with 46 = .ok (.ifCond .lt 7, 3) := by decide +kernel
theorem dX7_with_49 : decode cX7_with 49 = .ok (.iconst 1, 1) := by decide +kernel
theorem dX7_with_50 : decode cX7_with 50 = .ok (.goto 4, 3) := by decide +kernel
theorem dX7_with_53 : decode cX7_with 53 = .ok (.iconst 0, 1) := by decide +kernel
theorem dX7_with_54 : decode cX7_with 54 = .ok (.istore 7, 2) := by decide +kernel
theorem dX7_with_56 : decode cX7_with 56 = .ok (.iload 7, 2) := by decide +kernel
theorem dX7_with_58 : decode cX7_with 58 = .ok (.ifCond .eq 17, 3) := by decide +kernel
theorem dX7_with_61 : decode cX7_with 61 = .ok (.aload_n 0, 1) := by decide +kernel
theorem dX7_with_62 : decode cX7_with 62 = .ok (.iload_n 1, 1) := by decide +kernel
theorem dX7_with_63 : decode cX7_with 63 = .ok (.iload 4, 2) := by decide +kernel
theorem dX7_with_65 : decode cX7_with 65 = .ok (.iload 5, 2) := by decide +kernel
theorem dX7_with_67 : decode cX7_with 67 = .ok (.iload 6, 2) := by decide +kernel
theorem dX7_with_69 : decode cX7_with 69 = .ok (.invokestatic 21, 3) := by decide +kernel
theorem dX7_with_72 : decode cX7_with 72 = .ok (.goto 5, 3) := by decide +kernel
theorem dX7_with_75 : decode cX7_with 75 = .ok (.bipush 6, 2) := by decide +kernel
theorem dX7_with_77 : decode cX7_with 77 = .ok (.istore 8, 2) := by decide +kernel
theorem dX7_with_79 : decode cX7_with 79 = .ok (.aload_n 0, 1) := by decide +kernel
theorem dX7_with_80 : decode cX7_with 80 = .ok (.iload_n 1, 1) := by decide +kernel
theorem dX7_with_81 : decode cX7_with 81 = .ok (.dup2, 1) := by decide +kernel
theorem dX7_with_82 : decode cX7_with 82 = .ok (.iaload, 1) := by decide +kernel
theorem dX7_with_83 : decode cX7_with 83 = .ok (.iconst 1, 1) := by decide +kernel
theorem dX7_with_84 : decode cX7_with 84 = .ok (.iadd, 1) := by decide +kernel
theorem dX7_with_85 : decode cX7_with 85 = .ok (.iastore, 1) := by decide +kernel
theorem dX7_with_86 : decode cX7_with 86 = .ok (.aload_n 0, 1) := by decide +kernel
theorem dX7_with_87 : decode cX7_with 87 = .ok (.iload_n 2, 1) := by decide +kernel
theorem dX7_with_88 : decode cX7_with 88 = .ok (.dup2, 1) := by decide +kernel
theorem dX7_with_89 : decode cX7_with 89 = .ok (.iaload, 1) := by decide +kernel
theorem dX7_with_90 : decode cX7_with 90 = .ok (.iconst 1, 1) := by decide +kernel
theorem dX7_with_91 : decode cX7_with 91 = .ok (.iadd, 1) := by decide +kernel
theorem dX7_with_92 : decode cX7_with 92 = .ok (.iastore, 1) := by decide +kernel
theorem dX7_with_93 : decode cX7_with 93 = .ok (.iload_n 3, 1) := by decide +kernel
theorem dX7_with_94 : decode cX7_with 94 = .ok (.iconst (-1), 1) := by decide +kernel
theorem dX7_with_95 : decode cX7_with 95 = .ok (.if_icmp .eq 10, 3) := by decide +kernel
theorem dX7_with_98 : decode cX7_with 98 = .ok (.aload_n 0, 1) := by decide +kernel
theorem dX7_with_99 : decode cX7_with 99 = .ok (.iload_n 3, 1) := by decide +kernel
theorem dX7_with_100 : decode cX7_with 100 = .ok (.dup2, 1) := by decide +kernel
theorem dX7_with_101 : decode cX7_with 101 = .ok (.iaload, 1) := by decide +kernel
theorem dX7_with_102 : decode cX7_with 102 = .ok (.iconst 1, 1) := by decide +kernel
theorem dX7_with_103 : decode cX7_with 103 = .ok (.iadd, 1) := by decide +kernel
theorem dX7_with_104 : decode cX7_with 104 = .ok (.iastore, 1) := by decide +kernel
theorem dX7_with_105 : decode cX7_with 105 = .ok (.iload 8, 2) := by decide +kernel
theorem dX7_with_107 : decode cX7_with 107 = .ok (.ireturn, 1) := by decide +kernel
def f_X7_with_77 (RC_X7_far : Nat → Int32 → Int32 → Int32 → Int32 → zM → Option (Int32 × zM)) (a0 : Nat) (i1 : Int32) (i2 : Int32) (i3 : Int32) (i_0 : Int32) (M : zM) : Option (Int32 × zM) :=
  (lA 0 M a0 i1).bind fun v1 =>
  (tA M a0 i1 ((v1 + ((1 : Int32))))).bind fun M2 =>
  (lA 0 M2 a0 i2).bind fun v3 =>
  (tA M2 a0 i2 ((v3 + ((1 : Int32))))).bind fun M4 =>
  if i3 = ((-1 : Int32)) then
  some (i_0, M4)
  else
  (lA 0 M4 a0 i3).bind fun v5 =>
  (tA M4 a0 i3 ((v5 + ((1 : Int32))))).bind fun M6 =>
  some (i_0, M6)
set_option maxRecDepth 20000 in
set_option maxHeartbeats 4000000 in
theorem s_X7_with_77 {L : zL} {X : zX} {M0 : zM} {N : Nat × Nat} {Q : State → Prop} {r : Int32 × zM} {dd : Nat} {RC_X7_far : Nat → Int32 → Int32 → Int32 → Int32 → zM → Option (Int32 × zM)} {d_X7_far : Nat} (hRC_X7_far : ∀ (l : Launch) (a0 : Nat) (i1 : Int32) (i2 : Int32) (i3 : Int32) (i4 : Int32) (M : zM) (r : Int32 × zM), RC_X7_far a0 i1 i2 i3 i4 M = some r → CP L l yX7_far cX7_far 7 (some FieldType.int) d_X7_far M [.ref (zad L (a0)), .int (i1), .int (i2), .int (i3), .int (i4)] (some (.int r.1)) r.2) (hd : d_X7_far + 1 ≤ dd ∧ 1 ≤ dd) (hq : vQ L X M0 N Q (some (.int r.1)) r.2) {a0 : Nat} {i1 : Int32} {i2 : Int32} {i3 : Int32} {i_0 : Int32} {M : zM} (h : f_X7_with_77 RC_X7_far a0 i1 i2 i3 i_0 M = some r) : V L X yX7_with cX7_with 9 (some FieldType.int) dd M0 N Q M 77 [(0, .ref (zad L (a0))), (1, .int (i1)), (2, .int (i2)), (3, .int (i3))] [.int (i_0)] := by
  unfold f_X7_with_77 at h
  refine V_istore (ls' := [(8, .int (i_0)), (0, .ref (zad L (a0))), (1, .int (i1)), (2, .int (i2)), (3, .int (i3))]) dX7_with_77 (by decide) rfl ?_
  refine V_aload_n dX7_with_79 rfl 1 rfl ?_
  refine V_iload_n dX7_with_80 rfl 2 rfl ?_
  refine V_dup2 dX7_with_81 rfl rfl ?_
  replace h := ob h
  obtain ⟨v1, e_v1, h⟩ := h
  refine V_iald e_v1 dX7_with_82 ?_
  refine V_pc (pc' := 83) rfl ?_
  refine V_iconst (v := 1) dX7_with_83 (by decide) ?_
  refine V_iadd dX7_with_84 ?_
  replace h := ob h
  obtain ⟨M2, e_M2, h⟩ := h
  refine V_iast e_M2 dX7_with_85 ?_
  refine V_aload_n dX7_with_86 rfl 1 rfl ?_
  refine V_iload_n dX7_with_87 rfl 3 rfl ?_
  refine V_dup2 dX7_with_88 rfl rfl ?_
  replace h := ob h
  obtain ⟨v3, e_v3, h⟩ := h
  refine V_iald e_v3 dX7_with_89 ?_
  refine V_pc (pc' := 90) rfl ?_
  refine V_iconst (v := 1) dX7_with_90 (by decide) ?_
  refine V_iadd dX7_with_91 ?_
  replace h := ob h
  obtain ⟨M4, e_M4, h⟩ := h
  refine V_iast e_M4 dX7_with_92 ?_
  refine V_iload_n dX7_with_93 rfl 4 rfl ?_
  refine V_iconst (v := -1) dX7_with_94 (by decide) ?_
  refine V_icmp_eq (tgt := 105) dX7_with_95 (by decide) (fun c7 => ?_) (fun c7 => ?_)
  · replace h := (oi h).1 c7
    refine V_iload dX7_with_105 0 rfl ?_
    obtain rfl := Option.some.inj h
    exact V_iret rfl hq dX7_with_107
  · replace h := (oi h).2 c7
    refine V_aload_n dX7_with_98 rfl 1 rfl ?_
    refine V_iload_n dX7_with_99 rfl 4 rfl ?_
    refine V_dup2 dX7_with_100 rfl rfl ?_
    replace h := ob h
    obtain ⟨v5, e_v5, h⟩ := h
    refine V_iald e_v5 dX7_with_101 ?_
    refine V_pc (pc' := 102) rfl ?_
    refine V_iconst (v := 1) dX7_with_102 (by decide) ?_
    refine V_iadd dX7_with_103 ?_
    replace h := ob h
    obtain ⟨M6, e_M6, h⟩ := h
    refine V_iast e_M6 dX7_with_104 ?_
    refine V_iload dX7_with_105 0 rfl ?_
    obtain rfl := Option.some.inj h
    exact V_iret rfl hq dX7_with_107
def f_X7_with_54 (RC_X7_far : Nat → Int32 → Int32 → Int32 → Int32 → zM → Option (Int32 × zM)) (a0 : Nat) (i1 : Int32) (i2 : Int32) (i3 : Int32) (i4 : Int32) (i5 : Int32) (i6 : Int32) (i_0 : Int32) (M : zM) : Option (Int32 × zM) :=
  if i_0 = 0 then
  f_X7_with_77 RC_X7_far a0 i1 i2 i3 ((6 : Int32)) M
  else
  (RC_X7_far a0 i1 i4 i5 i6 M).bind fun r1 =>
  f_X7_with_77 RC_X7_far a0 i1 i2 i3 r1.1 r1.2
set_option maxRecDepth 20000 in
set_option maxHeartbeats 4000000 in
theorem s_X7_with_54 {L : zL} {X : zX} {M0 : zM} {N : Nat × Nat} {Q : State → Prop} {r : Int32 × zM} {dd : Nat} {RC_X7_far : Nat → Int32 → Int32 → Int32 → Int32 → zM → Option (Int32 × zM)} {d_X7_far : Nat} (hRC_X7_far : ∀ (l : Launch) (a0 : Nat) (i1 : Int32) (i2 : Int32) (i3 : Int32) (i4 : Int32) (M : zM) (r : Int32 × zM), RC_X7_far a0 i1 i2 i3 i4 M = some r → CP L l yX7_far cX7_far 7 (some FieldType.int) d_X7_far M [.ref (zad L (a0)), .int (i1), .int (i2), .int (i3), .int (i4)] (some (.int r.1)) r.2) (hd : d_X7_far + 1 ≤ dd ∧ 1 ≤ dd) (hq : vQ L X M0 N Q (some (.int r.1)) r.2) {a0 : Nat} {i1 : Int32} {i2 : Int32} {i3 : Int32} {i4 : Int32} {i5 : Int32} {i6 : Int32} {i_0 : Int32} {M : zM} (h : f_X7_with_54 RC_X7_far a0 i1 i2 i3 i4 i5 i6 i_0 M = some r) : V L X yX7_with cX7_with 9 (some FieldType.int) dd M0 N Q M 54 [(0, .ref (zad L (a0))), (1, .int (i1)), (2, .int (i2)), (3, .int (i3)), (4, .int (i4)), (5, .int (i5)), (6, .int (i6))] [.int (i_0)] := by
  unfold f_X7_with_54 at h
  refine V_istore (ls' := [(7, .int (i_0)), (0, .ref (zad L (a0))), (1, .int (i1)), (2, .int (i2)), (3, .int (i3)), (4, .int (i4)), (5, .int (i5)), (6, .int (i6))]) dX7_with_54 (by decide) rfl ?_
  refine V_iload dX7_with_56 0 rfl ?_
  refine V_if_eq (tgt := 75) dX7_with_58 (by decide) (fun c2 => ?_) (fun c2 => ?_)
  · replace h := (oi h).1 c2
    refine V_bipush (v := 6) dX7_with_75 (by decide) ?_
    refine V_sub [1, 2, 3, 4] rfl ?_
    exact s_X7_with_77 hRC_X7_far hd hq h
  · replace h := (oi h).2 c2
    refine V_aload_n dX7_with_61 rfl 1 rfl ?_
    refine V_iload_n dX7_with_62 rfl 2 rfl ?_
    refine V_iload dX7_with_63 5 rfl ?_
    refine V_iload dX7_with_65 6 rfl ?_
    refine V_iload dX7_with_67 7 rfl ?_
    replace h := ob h
    obtain ⟨r1, e_r1, h⟩ := h
    refine V_callS_I (As := [.ref (zad L (a0)), .int (i1), .int (i4), .int (i5), .int (i6)]) (rest := []) (hRC_X7_far X.2.1 _ _ _ _ _ _ _ e_r1) zc_X7_far rfl (by omega) zm_X7_21 (Nat.le_of_ble_eq_true rfl) rfl dX7_with_69 ?_
    refine V_pc (pc' := 72) rfl ?_
    refine V_goto (tgt := 77) dX7_with_72 (by decide) ?_
    refine V_sub [1, 2, 3, 4] rfl ?_
    exact s_X7_with_77 hRC_X7_far hd hq h
def f_X7_with_53 (RC_X7_far : Nat → Int32 → Int32 → Int32 → Int32 → zM → Option (Int32 × zM)) (a0 : Nat) (i1 : Int32) (i2 : Int32) (i3 : Int32) (i4 : Int32) (i5 : Int32) (i6 : Int32) (M : zM) : Option (Int32 × zM) :=
  f_X7_with_54 RC_X7_far a0 i1 i2 i3 i4 i5 i6 ((0 : Int32)) M
set_option maxRecDepth 20000 in
set_option maxHeartbeats 4000000 in
theorem s_X7_with_53 {L : zL} {X : zX} {M0 : zM} {N : Nat × Nat} {Q : State → Prop} {r : Int32 × zM} {dd : Nat} {RC_X7_far : Nat → Int32 → Int32 → Int32 → Int32 → zM → Option (Int32 × zM)} {d_X7_far : Nat} (hRC_X7_far : ∀ (l : Launch) (a0 : Nat) (i1 : Int32) (i2 : Int32) (i3 : Int32) (i4 : Int32) (M : zM) (r : Int32 × zM), RC_X7_far a0 i1 i2 i3 i4 M = some r → CP L l yX7_far cX7_far 7 (some FieldType.int) d_X7_far M [.ref (zad L (a0)), .int (i1), .int (i2), .int (i3), .int (i4)] (some (.int r.1)) r.2) (hd : d_X7_far + 1 ≤ dd ∧ 1 ≤ dd) (hq : vQ L X M0 N Q (some (.int r.1)) r.2) {a0 : Nat} {i1 : Int32} {i2 : Int32} {i3 : Int32} {i4 : Int32} {i5 : Int32} {i6 : Int32} {M : zM} (h : f_X7_with_53 RC_X7_far a0 i1 i2 i3 i4 i5 i6 M = some r) : V L X yX7_with cX7_with 9 (some FieldType.int) dd M0 N Q M 53 [(0, .ref (zad L (a0))), (1, .int (i1)), (2, .int (i2)), (3, .int (i3)), (4, .int (i4)), (5, .int (i5)), (6, .int (i6))] [] := by
  unfold f_X7_with_53 at h
  refine V_iconst (v := 0) dX7_with_53 (by decide) ?_
  exact s_X7_with_54 hRC_X7_far hd hq h
def f_X7_with_49 (RC_X7_far : Nat → Int32 → Int32 → Int32 → Int32 → zM → Option (Int32 × zM)) (a0 : Nat) (i1 : Int32) (i2 : Int32) (i3 : Int32) (i4 : Int32) (i5 : Int32) (i6 : Int32) (M : zM) : Option (Int32 × zM) :=
  f_X7_with_54 RC_X7_far a0 i1 i2 i3 i4 i5 i6 ((1 : Int32)) M
set_option maxRecDepth 20000 in
set_option maxHeartbeats 4000000 in
theorem s_X7_with_49 {L : zL} {X : zX} {M0 : zM} {N : Nat × Nat} {Q : State → Prop} {r : Int32 × zM} {dd : Nat} {RC_X7_far : Nat → Int32 → Int32 → Int32 → Int32 → zM → Option (Int32 × zM)} {d_X7_far : Nat} (hRC_X7_far : ∀ (l : Launch) (a0 : Nat) (i1 : Int32) (i2 : Int32) (i3 : Int32) (i4 : Int32) (M : zM) (r : Int32 × zM), RC_X7_far a0 i1 i2 i3 i4 M = some r → CP L l yX7_far cX7_far 7 (some FieldType.int) d_X7_far M [.ref (zad L (a0)), .int (i1), .int (i2), .int (i3), .int (i4)] (some (.int r.1)) r.2) (hd : d_X7_far + 1 ≤ dd ∧ 1 ≤ dd) (hq : vQ L X M0 N Q (some (.int r.1)) r.2) {a0 : Nat} {i1 : Int32} {i2 : Int32} {i3 : Int32} {i4 : Int32} {i5 : Int32} {i6 : Int32} {M : zM} (h : f_X7_with_49 RC_X7_far a0 i1 i2 i3 i4 i5 i6 M = some r) : V L X yX7_with cX7_with 9 (some FieldType.int) dd M0 N Q M 49 [(0, .ref (zad L (a0))), (1, .int (i1)), (2, .int (i2)), (3, .int (i3)), (4, .int (i4)), (5, .int (i5)), (6, .int (i6))] [] := by
  unfold f_X7_with_49 at h
  refine V_iconst (v := 1) dX7_with_49 (by decide) ?_
  refine V_goto (tgt := 54) dX7_with_50 (by decide) ?_
  exact s_X7_with_54 hRC_X7_far hd hq h
def f_X7_with_26 (RC_X7_far : Nat → Int32 → Int32 → Int32 → Int32 → zM → Option (Int32 × zM)) (a0 : Nat) (i1 : Int32) (i2 : Int32) (i3 : Int32) (i4 : Int32) (i5 : Int32) (i6 : Int32) (M : zM) : Option (Int32 × zM) :=
  (lA 0 M a0 i1).bind fun v1 =>
  if v1 < 0 then
  f_X7_with_53 RC_X7_far a0 i1 i2 i3 i4 i5 i6 M
  else
  (lA 0 M a0 i2).bind fun v2 =>
  if v2 < 0 then
  f_X7_with_53 RC_X7_far a0 i1 i2 i3 i4 i5 i6 M
  else
  if i3 = ((-1 : Int32)) then
  f_X7_with_49 RC_X7_far a0 i1 i2 i3 i4 i5 i6 M
  else
  (lA 0 M a0 i3).bind fun v3 =>
  if v3 < 0 then
  f_X7_with_53 RC_X7_far a0 i1 i2 i3 i4 i5 i6 M
  else
  f_X7_with_49 RC_X7_far a0 i1 i2 i3 i4 i5 i6 M
set_option maxRecDepth 20000 in
set_option maxHeartbeats 4000000 in
theorem s_X7_with_26 {L : zL} {X : zX} {M0 : zM} {N : Nat × Nat} {Q : State → Prop} {r : Int32 × zM} {dd : Nat} {RC_X7_far : Nat → Int32 → Int32 → Int32 → Int32 → zM → Option (Int32 × zM)} {d_X7_far : Nat} (hRC_X7_far : ∀ (l : Launch) (a0 : Nat) (i1 : Int32) (i2 : Int32) (i3 : Int32) (i4 : Int32) (M : zM) (r : Int32 × zM), RC_X7_far a0 i1 i2 i3 i4 M = some r → CP L l yX7_far cX7_far 7 (some FieldType.int) d_X7_far M [.ref (zad L (a0)), .int (i1), .int (i2), .int (i3), .int (i4)] (some (.int r.1)) r.2) (hd : d_X7_far + 1 ≤ dd ∧ 1 ≤ dd) (hq : vQ L X M0 N Q (some (.int r.1)) r.2) {a0 : Nat} {i1 : Int32} {i2 : Int32} {i3 : Int32} {i4 : Int32} {i5 : Int32} {i6 : Int32} {M : zM} (h : f_X7_with_26 RC_X7_far a0 i1 i2 i3 i4 i5 i6 M = some r) : V L X yX7_with cX7_with 9 (some FieldType.int) dd M0 N Q M 26 [(0, .ref (zad L (a0))), (1, .int (i1)), (2, .int (i2)), (3, .int (i3)), (4, .int (i4)), (5, .int (i5)), (6, .int (i6))] [] := by
  unfold f_X7_with_26 at h
  refine V_aload_n dX7_with_26 rfl 0 rfl ?_
  refine V_iload_n dX7_with_27 rfl 1 rfl ?_
  replace h := ob h
  obtain ⟨v1, e_v1, h⟩ := h
  refine V_iald e_v1 dX7_with_28 ?_
  refine V_pc (pc' := 29) rfl ?_
  refine V_if_lt (tgt := 53) dX7_with_29 (by decide) (fun c7 => ?_) (fun c7 => ?_)
  · replace h := (oi h).1 c7
    exact s_X7_with_53 hRC_X7_far hd hq h
  · replace h := (oi h).2 c7
    refine V_aload_n dX7_with_32 rfl 0 rfl ?_
    refine V_iload_n dX7_with_33 rfl 2 rfl ?_
    replace h := ob h
    obtain ⟨v2, e_v2, h⟩ := h
    refine V_iald e_v2 dX7_with_34 ?_
    refine V_pc (pc' := 35) rfl ?_
    refine V_if_lt (tgt := 53) dX7_with_35 (by decide) (fun c6 => ?_) (fun c6 => ?_)
    · replace h := (oi h).1 c6
      exact s_X7_with_53 hRC_X7_far hd hq h
    · replace h := (oi h).2 c6
      refine V_iload_n dX7_with_38 rfl 3 rfl ?_
      refine V_iconst (v := -1) dX7_with_39 (by decide) ?_
      refine V_icmp_eq (tgt := 49) dX7_with_40 (by decide) (fun c5 => ?_) (fun c5 => ?_)
      · replace h := (oi h).1 c5
        exact s_X7_with_49 hRC_X7_far hd hq h
      · replace h := (oi h).2 c5
        refine V_aload_n dX7_with_43 rfl 0 rfl ?_
        refine V_iload_n dX7_with_44 rfl 3 rfl ?_
        replace h := ob h
        obtain ⟨v3, e_v3, h⟩ := h
        refine V_iald e_v3 dX7_with_45 ?_
        refine V_pc (pc' := 46) rfl ?_
        refine V_if_lt (tgt := 53) dX7_with_46 (by decide) (fun c4 => ?_) (fun c4 => ?_)
        · replace h := (oi h).1 c4
          exact s_X7_with_53 hRC_X7_far hd hq h
        · replace h := (oi h).2 c4
          exact s_X7_with_49 hRC_X7_far hd hq h
def f_X7_with_0 (RC_X7_far : Nat → Int32 → Int32 → Int32 → Int32 → zM → Option (Int32 × zM)) (a0 : Nat) (i1 : Int32) (i2 : Int32) (i3 : Int32) (i4 : Int32) (i5 : Int32) (i6 : Int32) (M : zM) : Option (Int32 × zM) :=
  (lA 0 M a0 i1).bind fun v1 =>
  (tA M a0 i1 ((v1 - ((1 : Int32))))).bind fun M2 =>
  (lA 0 M2 a0 i2).bind fun v3 =>
  (tA M2 a0 i2 ((v3 - ((1 : Int32))))).bind fun M4 =>
  if i3 = ((-1 : Int32)) then
  f_X7_with_26 RC_X7_far a0 i1 i2 i3 i4 i5 i6 M4
  else
  (lA 0 M4 a0 i3).bind fun v5 =>
  (tA M4 a0 i3 ((v5 - ((1 : Int32))))).bind fun M6 =>
  f_X7_with_26 RC_X7_far a0 i1 i2 i3 i4 i5 i6 M6
set_option maxRecDepth 20000 in
set_option maxHeartbeats 4000000 in
theorem s_X7_with_0 {L : zL} {X : zX} {M0 : zM} {N : Nat × Nat} {Q : State → Prop} {r : Int32 × zM} {dd : Nat} {RC_X7_far : Nat → Int32 → Int32 → Int32 → Int32 → zM → Option (Int32 × zM)} {d_X7_far : Nat} (hRC_X7_far : ∀ (l : Launch) (a0 : Nat) (i1 : Int32) (i2 : Int32) (i3 : Int32) (i4 : Int32) (M : zM) (r : Int32 × zM), RC_X7_far a0 i1 i2 i3 i4 M = some r → CP L l yX7_far cX7_far 7 (some FieldType.int) d_X7_far M [.ref (zad L (a0)), .int (i1), .int (i2), .int (i3), .int (i4)] (some (.int r.1)) r.2) (hd : d_X7_far + 1 ≤ dd ∧ 1 ≤ dd) (hq : vQ L X M0 N Q (some (.int r.1)) r.2) {a0 : Nat} {i1 : Int32} {i2 : Int32} {i3 : Int32} {i4 : Int32} {i5 : Int32} {i6 : Int32} {M : zM} (h : f_X7_with_0 RC_X7_far a0 i1 i2 i3 i4 i5 i6 M = some r) : V L X yX7_with cX7_with 9 (some FieldType.int) dd M0 N Q M 0 [(0, .ref (zad L (a0))), (1, .int (i1)), (2, .int (i2)), (3, .int (i3)), (4, .int (i4)), (5, .int (i5)), (6, .int (i6))] [] := by
  unfold f_X7_with_0 at h
  refine V_aload_n dX7_with_0 rfl 0 rfl ?_
  refine V_iload_n dX7_with_1 rfl 1 rfl ?_
  refine V_dup2 dX7_with_2 rfl rfl ?_
  replace h := ob h
  obtain ⟨v1, e_v1, h⟩ := h
  refine V_iald e_v1 dX7_with_3 ?_
  refine V_pc (pc' := 4) rfl ?_
  refine V_iconst (v := 1) dX7_with_4 (by decide) ?_
  refine V_isub dX7_with_5 ?_
  replace h := ob h
  obtain ⟨M2, e_M2, h⟩ := h
  refine V_iast e_M2 dX7_with_6 ?_
  refine V_aload_n dX7_with_7 rfl 0 rfl ?_
  refine V_iload_n dX7_with_8 rfl 2 rfl ?_
  refine V_dup2 dX7_with_9 rfl rfl ?_
  replace h := ob h
  obtain ⟨v3, e_v3, h⟩ := h
  refine V_iald e_v3 dX7_with_10 ?_
  refine V_pc (pc' := 11) rfl ?_
  refine V_iconst (v := 1) dX7_with_11 (by decide) ?_
  refine V_isub dX7_with_12 ?_
  replace h := ob h
  obtain ⟨M4, e_M4, h⟩ := h
  refine V_iast e_M4 dX7_with_13 ?_
  refine V_iload_n dX7_with_14 rfl 3 rfl ?_
  refine V_iconst (v := -1) dX7_with_15 (by decide) ?_
  refine V_icmp_eq (tgt := 26) dX7_with_16 (by decide) (fun c7 => ?_) (fun c7 => ?_)
  · replace h := (oi h).1 c7
    exact s_X7_with_26 hRC_X7_far hd hq h
  · replace h := (oi h).2 c7
    refine V_aload_n dX7_with_19 rfl 0 rfl ?_
    refine V_iload_n dX7_with_20 rfl 3 rfl ?_
    refine V_dup2 dX7_with_21 rfl rfl ?_
    replace h := ob h
    obtain ⟨v5, e_v5, h⟩ := h
    refine V_iald e_v5 dX7_with_22 ?_
    refine V_pc (pc' := 23) rfl ?_
    refine V_iconst (v := 1) dX7_with_23 (by decide) ?_
    refine V_isub dX7_with_24 ?_
    replace h := ob h
    obtain ⟨M6, e_M6, h⟩ := h
    refine V_iast e_M6 dX7_with_25 ?_
    exact s_X7_with_26 hRC_X7_far hd hq h
def f_X7_with (RC_X7_far : Nat → Int32 → Int32 → Int32 → Int32 → zM → Option (Int32 × zM)) (a0 : Nat) (i1 : Int32) (i2 : Int32) (i3 : Int32) (i4 : Int32) (i5 : Int32) (i6 : Int32) (M : zM) : Option (Int32 × zM) := f_X7_with_0 RC_X7_far a0 i1 i2 i3 i4 i5 i6 M
theorem c_X7_with {L : zL} {l : Launch} {dd : Nat} {RC_X7_far : Nat → Int32 → Int32 → Int32 → Int32 → zM → Option (Int32 × zM)} {d_X7_far : Nat} (hRC_X7_far : ∀ (l : Launch) (a0 : Nat) (i1 : Int32) (i2 : Int32) (i3 : Int32) (i4 : Int32) (M : zM) (r : Int32 × zM), RC_X7_far a0 i1 i2 i3 i4 M = some r → CP L l yX7_far cX7_far 7 (some FieldType.int) d_X7_far M [.ref (zad L (a0)), .int (i1), .int (i2), .int (i3), .int (i4)] (some (.int r.1)) r.2) (hd : d_X7_far + 1 ≤ dd ∧ 1 ≤ dd) {a0 : Nat} {i1 : Int32} {i2 : Int32} {i3 : Int32} {i4 : Int32} {i5 : Int32} {i6 : Int32} {M : zM} {r : Int32 × zM} (h : f_X7_with RC_X7_far a0 i1 i2 i3 i4 i5 i6 M = some r) : CP L l yX7_with cX7_with 9 (some FieldType.int) dd M [.ref (zad L (a0)), .int (i1), .int (i2), .int (i3), .int (i4), .int (i5), .int (i6)] (some (.int r.1)) r.2 :=
  CP.of ⟨by decide +kernel, by decide +kernel⟩ (Nat.le_of_ble_eq_true rfl) fun X Q hq => s_X7_with_0 hRC_X7_far hd hq h
/-! WindsparlourModel.far([IIIII)I -/
theorem dX7_far_0 : decode cX7_far 0 = .ok (.iload_n 1, 1) := by decide +kernel
theorem dX7_far_1 : decode cX7_far 1 = .ok (.istore 5, 2) := by decide +kernel
theorem dX7_far_3 : decode cX7_far 3 = .ok (.iload 5, 2) := by decide +kernel
theorem dX7_far_5 : decode cX7_far 5 = .ok (.bipush 25, 2) := by decide +kernel
theorem dX7_far_7 : decode cX7_far 7 = .ok (.if_icmp .ge 16, 3) := by decide +kernel
theorem dX7_far_10 : decode cX7_far 10 = .ok (.aload_n 0, 1) := by decide +kernel
theorem dX7_far_11 : decode cX7_far 11 = .ok (.iload 5, 2) := by decide +kernel
theorem dX7_far_13 : decode cX7_far 13 = .ok (.iaload, 1) := by decide +kernel
theorem dX7_far_14 : decode cX7_far 14 = .ok (.ifCond .ne 9, 3) := by decide +kernel
theorem dX7_far_17 : decode cX7_far 17 = .ok (.iinc 5 1, 3) := by decide +kernel
theorem dX7_far_20 : decode cX7_far 20 = .ok (.goto (-17), 3) := by decide +kernel
theorem dX7_far_23 : decode cX7_far 23 = .ok (.bipush 6, 2) := by decide +kernel
theorem dX7_far_25 : decode cX7_far 25 = .ok (.iconst 2, 1) := by decide +kernel
theorem dX7_far_26 : decode cX7_far 26 = .ok (.iload_n 2, 1) := by decide +kernel
theorem dX7_far_27 : decode cX7_far 27 = .ok (.imul, 1) := by decide +kernel
theorem dX7_far_28 : decode cX7_far 28 = .ok (.isub, 1) := by decide +kernel
theorem dX7_far_29 : decode cX7_far 29 = .ok (.iload_n 3, 1) := by decide +kernel
theorem dX7_far_30 : decode cX7_far 30 = .ok (.isub, 1) := by decide +kernel
theorem dX7_far_31 : decode cX7_far 31 = .ok (.iload 4, 2) := by decide +kernel
theorem dX7_far_33 : decode cX7_far 33 = .ok (.isub, 1) := by decide +kernel
theorem dX7_far_34 : decode cX7_far 34 = .ok (.istore 6, 2) := by decide +kernel
theorem dX7_far_36 : decode cX7_far 36 = .ok (.iload 5, 2) := by decide +kernel
theorem dX7_far_38 : decode cX7_far 38 = .ok (.bipush 25, 2) := by decide +kernel
theorem dX7_far_40 : decode cX7_far 40 = .ok (.if_icmp .eq 16, 3) := by decide +kernel
theorem dX7_far_43 : decode cX7_far 43 = .ok (.iload_n 2, 1) := by decide +kernel
theorem dX7_far_44 : decode cX7_far 44 = .ok (.iload_n 3, 1) := by decide +kernel
theorem dX7_far_45 : decode cX7_far 45 = .ok (.iadd, 1) := by decide +kernel
theorem dX7_far_46 : decode cX7_far 46 = .ok (.iconst 3, 1) := by decide +kernel
theorem dX7_far_47 : decode cX7_far 47 = .ok (.if_icmp .ne 12, 3) := by decide +kernel
theorem dX7_far_50 : decode cX7_far 50 = .ok (.iload 4, 2) := by decide +kernel
theorem dX7_far_52 : decode cX7_far 52 = .ok (.iconst 1, 1) := by decide +kernel
theorem dX7_far_53 : decode cX7_far 53 = .ok (.if_icmp .ne 6, 3) := by decide +kernel
theorem dX7_far_56 : decode cX7_far 56 = .ok (.iload 6, 2) := by decide +kernel
theorem dX7_far_58 : decode cX7_far 58 = .ok (.ireturn, 1) := by decide +kernel
theorem dX7_far_59 : decode cX7_far 59 = .ok (.iload_n 2, 1) := by decide +kernel
theorem dX7_far_60 : decode cX7_far 60 = .ok (.iconst 3, 1) := by decide +kernel
theorem dX7_far_61 : decode cX7_far 61 = .ok (.if_icmp .ge 71, 3) := by decide +kernel
theorem dX7_far_64 : decode cX7_far 64 = .ok (.iload_n 3, 1) := by decide +kernel
theorem dX7_far_65 : decode cX7_far 65 = .ok (.iconst 3, 1) := by decide +kernel
theorem dX7_far_66 : decode cX7_far 66 = .ok (.iload_n 2, 1) := by decide +kernel
theorem dX7_far_67 : decode cX7_far 67 = .ok (.isub, 1) := by decide +kernel
theorem dX7_far_68 : decode cX7_far 68 = .ok (.iconst 1, 1) := by decide +kernel
theorem dX7_far_69 : decode cX7_far 69 = .ok (.isub, 1) := by decide +kernel
theorem dX7_far_70 : decode cX7_far 70 = .ok (.if_icmp .gt 62, 3) := by decide +kernel
theorem dX7_far_73 : decode cX7_far 73 = .ok (.iload 6, 2) := by decide +kernel
theorem dX7_far_75 : decode cX7_far 75 = .ok (.aload_n 0, 1) := by decide +kernel
theorem dX7_far_76 : decode cX7_far 76 = .ok (.iload 5, 2) := by decide +kernel
theorem dX7_far_78 : decode cX7_far 78 = .ok (.iload 5, 2) := by decide +kernel
theorem dX7_far_80 : decode cX7_far 80 = .ok (.iload 5, 2) := by decide +kernel
theorem dX7_far_82 : decode cX7_far 82 = .ok (.iload_n 2, 1) := by decide +kernel
theorem dX7_far_83 : decode cX7_far 83 = .ok (.iconst 1, 1) := by decide +kernel
theorem dX7_far_84 : decode cX7_far 84 = .ok (.iadd, 1) := by decide +kernel
theorem dX7_far_85 : decode cX7_far 85 = .ok (.iload_n 3, 1) := by decide +kernel
theorem dX7_far_86 : decode cX7_far 86 = .ok (.iload 4, 2) := by decide +kernel
theorem dX7_far_88 : decode cX7_far 88 = .ok (.invokestatic 7, 3) := by decide +kernel
theorem dX7_far_91 : decode cX7_far 91 = .ok (.invokestatic 11, 3) := by decide +kernel
theorem dX7_far_94 : decode cX7_far 94 = .ok (.istore 6, 2) := by decide +kernel
theorem dX7_far_96 : decode cX7_far 96 = .ok (.iload 5, 2) := by decide +kernel
theorem dX7_far_98 : decode cX7_far 98 = .ok (.iconst 3, 1) := by decide +kernel
theorem dX7_far_99 : decode cX7_far 99 = .ok (.invokestatic 17, 3) := by decide +kernel
theorem dX7_far_102 : decode cX7_far 102 = .ok (.ifCond .eq 30, 3) := by decide +kernel
theorem dX7_far_105 : decode cX7_far 105 = .ok (.iload 6, 2) := by decide +kernel
theorem dX7_far_107 : decode cX7_far 107 = .ok (.aload_n 0, 1) := by decide +kernel
theorem dX7_far_108 : decode cX7_far 108 = .ok (.iload 5, 2) := by decide +kernel
theorem dX7_far_110 : decode cX7_far 110 = .ok (.iload 5, 2) := by decide +kernel
theorem dX7_far_112 : decode cX7_far 112 = .ok (.iconst 1, 1) := by decide +kernel
theorem dX7_far_113 : decode cX7_far 113 = .ok (.iadd, 1) := by decide +kernel
theorem dX7_far_114 : decode cX7_far 114 = .ok (.iload 5, 2) := by decide +kernel
theorem dX7_far_116 : decode cX7_far 116 = .ok (.iconst 2, 1) := by decide +kernel
theorem dX7_far_117 : decode cX7_far 117 = .ok (.iadd, 1) := by decide +kernel
theorem dX7_far_118 : decode cX7_far 118 = .ok (.iload_n 2, 1) := by decide +kernel
theorem dX7_far_119 : decode cX7_far 119 = .ok (.iconst 1, 1) := by decide +kernel
theorem dX7_far_120 : decode cX7_far 120 = .ok (.iadd, 1) := by decide +kernel
theorem dX7_far_121 : decode cX7_far 121 = .ok (.iload_n 3, 1) := by decide +kernel
theorem dX7_far_122 : decode cX7_far 122 = .ok (.iload 4, 2) := by decide +kernel
theorem dX7_far_124 : decode cX7_far 124 = .ok (.invokestatic 7, 3) := by decide +kernel
theorem dX7_far_127 : decode cX7_far 127 = .ok (.invokestatic 11, 3) := by decide +kernel
theorem dX7_far_130 : decode cX7_far 130 = .ok (.istore 6, 2) := by decide +kernel
theorem dX7_far_132 : decode cX7_far 132 = .ok (.iload_n 3, 1) := by decide +kernel
theorem dX7_far_133 : decode cX7_far 133 = .ok (.iconst 3, 1) := by decide +kernel
theorem dX7_far_134 : decode cX7_far 134 = .ok (.iload_n 2, 1) := by decide +kernel
theorem dX7_far_135 : decode cX7_far 135 = .ok (.isub, 1) := by decide +kernel
theorem dX7_far_136 : decode cX7_far 136 = .ok (.if_icmp .ge 91, 3) := by decide +kernel
theorem dX7_far_139 : decode cX7_far 139 = .ok (.iload 6, 2) := by decide +kernel
theorem dX7_far_141 : decode cX7_far 141 = .ok (.aload_n 0, 1) := by decide +kernel
theorem dX7_far_142 : decode cX7_far 142 = .ok (.iload 5, 2) := by decide +kernel
theorem dX7_far_144 : decode cX7_far 144 = .ok (.iload 5, 2) := by decide +kernel
theorem dX7_far_146 : decode cX7_far 146 = .ok (.iconst (-1), 1) := by decide +kernel
theorem dX7_far_147 : decode cX7_far 147 = .ok (.iload_n 2, 1) := by decide +kernel
theorem dX7_far_148 : decode cX7_far 148 = .ok (.iload_n 3, 1) := by decide +kernel
theorem dX7_far_149 : decode cX7_far 149 = .ok (.iconst 1, 1) := by decide +kernel
theorem dX7_far_150 : decode cX7_far 150 = .ok (.iadd, 1) := by decide +kernel
theorem dX7_far_151 : decode cX7_far 151 = .ok (.iload 4, 2) := by decide +kernel
theorem dX7_far_153 : decode cX7_far 153 = .ok (.invokestatic 7, 3) := by decide +kernel
theorem dX7_far_156 : decode cX7_far 156 = .ok (.invokestatic 11, 3) := by decide +kernel
theorem dX7_far_159 : decode cX7_far 159 = .ok (.istore 6, 2) := by decide +kernel
theorem dX7_far_161 : decode cX7_far 161 = .ok (.iload 5, 2) := by decide +kernel
theorem dX7_far_163 : decode cX7_far 163 = .ok (.iconst 2, 1) := by decide +kernel
theorem dX7_far_164 : decode cX7_far 164 = .ok (.invokestatic 17, 3) := by decide +kernel
theorem dX7_far_167 : decode cX7_far 167 = .ok (.ifCond .eq 27, 3) := by decide +kernel
theorem dX7_far_170 : decode cX7_far 170 = .ok (.iload 6, 2) := by decide +kernel
theorem dX7_far_172 : decode cX7_far 172 = .ok (.aload_n 0, 1) := by decide +kernel
theorem dX7_far_173 : decode cX7_far 173 = .ok (.iload 5, 2) := by decide +kernel
theorem dX7_far_175 : decode cX7_far 175 = .ok (.iload 5, 2) := by decide +kernel
theorem dX7_far_177 : decode cX7_far 177 = .ok (.iconst 1, 1) := by decide +kernel
theorem dX7_far_178 : decode cX7_far 178 = .ok (.iadd, 1) := by decide +kernel
theorem dX7_far_179 : decode cX7_far 179 = .ok (.iconst (-1), 1) := by decide +kernel
theorem dX7_far_180 : decode cX7_far 180 = .ok (.iload_n 2, 1) := by decide +kernel
theorem dX7_far_181 : decode cX7_far 181 = .ok (.iload_n 3, 1) := by decide +kernel
theorem dX7_far_182 : decode cX7_far 182 = .ok (.iconst 1, 1) := by decide +kernel
theorem dX7_far_183 : decode cX7_far 183 = .ok (.iadd, 1) := by decide +kernel
theorem dX7_far_184 : decode cX7_far 184 = .ok (.iload 4, 2) := by decide +kernel
theorem dX7_far_186 : decode cX7_far 186 = .ok (.invokestatic 7, 3) := by decide +kernel
theorem dX7_far_189 : decode cX7_far 189 = .ok (.invokestatic 11, 3) := by decide +kernel
theorem dX7_far_192 : decode cX7_far 192 = .ok (.istore 6, 2) := by decide +kernel
theorem dX7_far_194 : decode cX7_far 194 = .ok (.iload 5, 2) := by decide +kernel
theorem dX7_far_196 : decode cX7_far 196 = .ok (.iconst 3, 1) := by decide +kernel
theorem dX7_far_197 : decode cX7_far 197 = .ok (.invokestatic 17, 3) := by decide +kernel
theorem dX7_far_200 : decode cX7_far 200 = .ok (.ifCond .eq 27, 3) := by decide +kernel
theorem dX7_far_203 : decode cX7_far 203 = .ok (.iload 6, 2) := by decide +kernel
theorem dX7_far_205 : decode cX7_far 205 = .ok (.aload_n 0, 1) := by decide +kernel
theorem dX7_far_206 : decode cX7_far 206 = .ok (.iload 5, 2) := by decide +kernel
theorem dX7_far_208 : decode cX7_far 208 = .ok (.iload 5, 2) := by decide +kernel
theorem dX7_far_210 : decode cX7_far 210 = .ok (.iconst 2, 1) := by decide +kernel
theorem dX7_far_211 : decode cX7_far 211 = .ok (.iadd, 1) := by decide +kernel
theorem dX7_far_212 : decode cX7_far 212 = .ok (.iconst (-1), 1) := by decide +kernel
theorem dX7_far_213 : decode cX7_far 213 = .ok (.iload_n 2, 1) := by decide +kernel
theorem dX7_far_214 : decode cX7_far 214 = .ok (.iload_n 3, 1) := by decide +kernel
theorem dX7_far_215 : decode cX7_far 215 = .ok (.iconst 1, 1) := by decide +kernel
theorem dX7_far_216 : decode cX7_far 216 = .ok (.iadd, 1) := by decide +kernel
theorem dX7_far_217 : decode cX7_far 217 = .ok (.iload 4, 2) := by decide +kernel
theorem dX7_far_219 : decode cX7_far 219 = .ok (.invokestatic 7, 3) := by decide +kernel
theorem dX7_far_222 : decode cX7_far 222 = .ok (.invokestatic 11, 3) := by decide +kernel
theorem dX7_far_225 : decode cX7_far 225 = .ok (.istore 6, 2) := by decide +kernel
theorem dX7_far_227 : decode cX7_far 227 = .ok (.iload 4, 2) := by decide +kernel
theorem dX7_far_229 : decode cX7_far 229 = .ok (.ifCond .ne 22, 3) := by decide +kernel
theorem dX7_far_232 : decode cX7_far 232 = .ok (.iload 6, 2) := by decide +kernel
theorem dX7_far_234 : decode cX7_far 234 = .ok (.aload_n 0, 1) := by decide +kernel
theorem dX7_far_235 : decode cX7_far 235 = .ok (.iload 5, 2) := by decide +kernel
theorem dX7_far_237 : decode cX7_far 237 = .ok (.iload 5, 2) := by decide +kernel
theorem dX7_far_239 : decode cX7_far 239 = .ok (.iconst (-1), 1) := by decide +kernel
theorem dX7_far_240 : decode cX7_far 240 = .ok (.iload_n 2, 1) := by decide +kernel
theorem dX7_far_241 : decode cX7_far 241 = .ok (.iload_n 3, 1) := by decide +kernel
theorem dX7_far_242 : decode cX7_far 242 = .ok (.iconst 1, 1) := by decide +kernel
theorem dX7_far_243 : decode cX7_far 243 = .ok (.invokestatic 7, 3) := by decide +kernel
theorem dX7_far_246 : decode cX7_far 246 = .ok (.invokestatic 11, 3) := by decide +kernel
theorem dX7_far_249 : decode cX7_far 249 = .ok (.istore 6, 2) := by decide +kernel
theorem dX7_far_251 : decode cX7_far 251 = .ok (.aload_n 0, 1) := by decide +kernel
theorem dX7_far_252 : decode cX7_far 252 = .ok (.iload 5, 2) := by decide +kernel
theorem dX7_far_254 : decode cX7_far 254 = .ok (.dup2, 1) := by decide +kernel
theorem dX7_far_255 : decode cX7_far 255 = .ok (.iaload, 1) := by decide +kernel
theorem dX7_far_256 : decode cX7_far 256 = .ok (.iconst 1, 1) := by decide +kernel
theorem dX7_far_257 : decode cX7_far 257 = .ok (.isub, 1) := by decide +kernel
theorem dX7_far_258 : decode cX7_far 258 = .ok (.iastore, 1) := by decide +kernel
theorem dX7_far_259 : decode cX7_far 259 = .ok (.iload 6, 2) := by decide +kernel
theorem dX7_far_261 : decode cX7_far 261 = .ok (.aload_n 0, 1) := by decide +kernel
theorem dX7_far_262 : decode cX7_far 262 = .ok (.iload 5, 2) := by decide +kernel
theorem dX7_far_264 : decode cX7_far 264 = .ok (.iload_n 2, 1) := by decide +kernel
theorem dX7_far_265 : decode cX7_far 265 = .ok (.iload_n 3, 1) := by decide +kernel
theorem dX7_far_266 : decode cX7_far 266 = .ok (.iload 4, 2) := by decide +kernel
theorem dX7_far_268 : decode cX7_far 268 = .ok (.invokestatic 21, 3) := by decide +kernel
theorem dX7_far_271 : decode cX7_far 271 = .ok (.invokestatic 11, 3) := by decide +kernel
theorem dX7_far_274 : decode cX7_far 274 = .ok (.istore 6, 2) := by decide +kernel
theorem dX7_far_276 : decode cX7_far 276 = .ok (.aload_n 0, 1) := by decide +kernel
theorem dX7_far_277 : decode cX7_far 277 = .ok (.iload 5, 2) := by decide +kernel
theorem dX7_far_279 : decode cX7_far 279 = .ok (.dup2, 1) := by decide +kernel
theorem dX7_far_280 : decode cX7_far 280 = .ok (.iaload, 1) := by decide +kernel
theorem dX7_far_281 : decode cX7_far 281 = .ok (.iconst 1, 1) := by decide +kernel
theorem dX7_far_282 : decode cX7_far 282 = .ok (.iadd, 1) := by decide +kernel
theorem dX7_far_283 : decode cX7_far 283 = .ok (.iastore, 1) := by decide +kernel
theorem dX7_far_284 : decode cX7_far 284 = .ok (.iload 6, 2) := by decide +kernel
theorem dX7_far_286 : decode cX7_far 286 = .ok (.ireturn, 1) := by decide +kernel
def f_X7_far_251 (RC_X7_far : Nat → Int32 → Int32 → Int32 → Int32 → zM → Option (Int32 × zM)) (a0 : Nat) (i2 : Int32) (i3 : Int32) (i4 : Int32) (i5 : Int32) (i6 : Int32) (M : zM) : Option (Int32 × zM) :=
  (lA 0 M a0 i5).bind fun v1 =>
  (tA M a0 i5 ((v1 - ((1 : Int32))))).bind fun M2 =>
  (RC_X7_far a0 i5 i2 i3 i4 M2).bind fun r3 =>
  (f_J9_min_7cf53 i6 r3.1 r3.2).bind fun r4 =>
  (lA 0 r4.2 a0 i5).bind fun v5 =>
  (tA r4.2 a0 i5 ((v5 + ((1 : Int32))))).bind fun M6 =>
  some (r4.1, M6)
set_option maxRecDepth 20000 in
set_option maxHeartbeats 4000000 in
theorem s_X7_far_251 {L : zL} {X : zX} {M0 : zM} {N : Nat × Nat} {Q : State → Prop} {r : Int32 × zM} {dd : Nat} {RC_X7_far : Nat → Int32 → Int32 → Int32 → Int32 → zM → Option (Int32 × zM)} {d_X7_far : Nat} (hRC_X7_far : ∀ (l : Launch) (a0 : Nat) (i1 : Int32) (i2 : Int32) (i3 : Int32) (i4 : Int32) (M : zM) (r : Int32 × zM), RC_X7_far a0 i1 i2 i3 i4 M = some r → CP L l yX7_far cX7_far 7 (some FieldType.int) d_X7_far M [.ref (zad L (a0)), .int (i1), .int (i2), .int (i3), .int (i4)] (some (.int r.1)) r.2) (hd : d_X7_far + 2 ≤ dd ∧ 2 ≤ dd) (hq : vQ L X M0 N Q (some (.int r.1)) r.2) {a0 : Nat} {i2 : Int32} {i3 : Int32} {i4 : Int32} {i5 : Int32} {i6 : Int32} {M : zM} (h : f_X7_far_251 RC_X7_far a0 i2 i3 i4 i5 i6 M = some r) : V L X yX7_far cX7_far 7 (some FieldType.int) dd M0 N Q M 251 [(0, .ref (zad L (a0))), (2, .int (i2)), (3, .int (i3)), (4, .int (i4)), (5, .int (i5)), (6, .int (i6))] [] := by
  unfold f_X7_far_251 at h
  refine V_aload_n dX7_far_251 rfl 0 rfl ?_
  refine V_iload dX7_far_252 4 rfl ?_
  refine V_dup2 dX7_far_254 rfl rfl ?_
  replace h := ob h
  obtain ⟨v1, e_v1, h⟩ := h
  refine V_iald e_v1 dX7_far_255 ?_
  refine V_pc (pc' := 256) rfl ?_
  refine V_iconst (v := 1) dX7_far_256 (by decide) ?_
  refine V_isub dX7_far_257 ?_
  replace h := ob h
  obtain ⟨M2, e_M2, h⟩ := h
  refine V_iast e_M2 dX7_far_258 ?_
  refine V_iload dX7_far_259 5 rfl ?_
  refine V_aload_n dX7_far_261 rfl 0 rfl ?_
  refine V_iload dX7_far_262 4 rfl ?_
  refine V_iload_n dX7_far_264 rfl 1 rfl ?_
  refine V_iload_n dX7_far_265 rfl 2 rfl ?_
  refine V_iload dX7_far_266 3 rfl ?_
  replace h := ob h
  obtain ⟨r3, e_r3, h⟩ := h
  refine V_callS_I (As := [.ref (zad L (a0)), .int (i5), .int (i2), .int (i3), .int (i4)]) (rest := [.int (i6)]) (hRC_X7_far X.2.1 _ _ _ _ _ _ _ e_r3) zc_X7_far rfl (by omega) zm_X7_21 (Nat.le_of_ble_eq_true rfl) rfl dX7_far_268 ?_
  refine V_pc (pc' := 271) rfl ?_
  replace h := ob h
  obtain ⟨r4, e_r4, h⟩ := h
  refine V_callS_I (As := [.int (i6), .int (r3.1)]) (rest := []) (c_J9_min_7cf53 e_r4) zc_J9_min_7cf53 rfl (by omega) zm_X7_11 (Nat.le_of_ble_eq_true rfl) rfl dX7_far_271 ?_
  refine V_pc (pc' := 274) rfl ?_
  refine V_istore (ls' := [(6, .int (r4.1)), (0, .ref (zad L (a0))), (2, .int (i2)), (3, .int (i3)), (4, .int (i4)), (5, .int (i5))]) dX7_far_274 (by decide) rfl ?_
  refine V_aload_n dX7_far_276 rfl 1 rfl ?_
  refine V_iload dX7_far_277 5 rfl ?_
  refine V_dup2 dX7_far_279 rfl rfl ?_
  replace h := ob h
  obtain ⟨v5, e_v5, h⟩ := h
  refine V_iald e_v5 dX7_far_280 ?_
  refine V_pc (pc' := 281) rfl ?_
  refine V_iconst (v := 1) dX7_far_281 (by decide) ?_
  refine V_iadd dX7_far_282 ?_
  replace h := ob h
  obtain ⟨M6, e_M6, h⟩ := h
  refine V_iast e_M6 dX7_far_283 ?_
  refine V_iload dX7_far_284 0 rfl ?_
  obtain rfl := Option.some.inj h
  exact V_iret rfl hq dX7_far_286
def f_X7_far_227 (RC_X7_far : Nat → Int32 → Int32 → Int32 → Int32 → zM → Option (Int32 × zM)) (a0 : Nat) (i2 : Int32) (i3 : Int32) (i4 : Int32) (i5 : Int32) (i6 : Int32) (M : zM) : Option (Int32 × zM) :=
  if i4 = 0 then
  (f_X7_with RC_X7_far a0 i5 i5 ((-1 : Int32)) i2 i3 ((1 : Int32)) M).bind fun r1 =>
  (f_J9_min_7cf53 i6 r1.1 r1.2).bind fun r2 =>
  f_X7_far_251 RC_X7_far a0 i2 i3 i4 i5 r2.1 r2.2
  else
  f_X7_far_251 RC_X7_far a0 i2 i3 i4 i5 i6 M
set_option maxRecDepth 20000 in
set_option maxHeartbeats 4000000 in
theorem s_X7_far_227 {L : zL} {X : zX} {M0 : zM} {N : Nat × Nat} {Q : State → Prop} {r : Int32 × zM} {dd : Nat} {RC_X7_far : Nat → Int32 → Int32 → Int32 → Int32 → zM → Option (Int32 × zM)} {d_X7_far : Nat} (hRC_X7_far : ∀ (l : Launch) (a0 : Nat) (i1 : Int32) (i2 : Int32) (i3 : Int32) (i4 : Int32) (M : zM) (r : Int32 × zM), RC_X7_far a0 i1 i2 i3 i4 M = some r → CP L l yX7_far cX7_far 7 (some FieldType.int) d_X7_far M [.ref (zad L (a0)), .int (i1), .int (i2), .int (i3), .int (i4)] (some (.int r.1)) r.2) (hd : d_X7_far + 2 ≤ dd ∧ 2 ≤ dd) (hq : vQ L X M0 N Q (some (.int r.1)) r.2) {a0 : Nat} {i2 : Int32} {i3 : Int32} {i4 : Int32} {i5 : Int32} {i6 : Int32} {M : zM} (h : f_X7_far_227 RC_X7_far a0 i2 i3 i4 i5 i6 M = some r) : V L X yX7_far cX7_far 7 (some FieldType.int) dd M0 N Q M 227 [(0, .ref (zad L (a0))), (2, .int (i2)), (3, .int (i3)), (4, .int (i4)), (5, .int (i5)), (6, .int (i6))] [] := by
  unfold f_X7_far_227 at h
  refine V_iload dX7_far_227 3 rfl ?_
  refine V_if_ne (tgt := 251) dX7_far_229 (by decide) (fun c3 => ?_) (fun c3 => ?_)
  · replace h := (oi h).2 c3
    exact s_X7_far_251 hRC_X7_far hd hq h
  · replace h := (oi h).1 c3
    refine V_iload dX7_far_232 5 rfl ?_
    refine V_aload_n dX7_far_234 rfl 0 rfl ?_
    refine V_iload dX7_far_235 4 rfl ?_
    refine V_iload dX7_far_237 4 rfl ?_
    refine V_iconst (v := -1) dX7_far_239 (by decide) ?_
    refine V_iload_n dX7_far_240 rfl 1 rfl ?_
    refine V_iload_n dX7_far_241 rfl 2 rfl ?_
    refine V_iconst (v := 1) dX7_far_242 (by decide) ?_
    replace h := ob h
    obtain ⟨r1, e_r1, h⟩ := h
    refine V_callS_I (As := [.ref (zad L (a0)), .int (i5), .int (i5), .int ((-1 : Int32)), .int (i2), .int (i3), .int ((1 : Int32))]) (rest := [.int (i6)]) (c_X7_with (dd := d_X7_far + 1) hRC_X7_far ⟨by omega, by omega⟩ e_r1) zc_X7_with rfl (by omega) zm_X7_7 (Nat.le_of_ble_eq_true rfl) rfl dX7_far_243 ?_
    refine V_pc (pc' := 246) rfl ?_
    replace h := ob h
    obtain ⟨r2, e_r2, h⟩ := h
    refine V_callS_I (As := [.int (i6), .int (r1.1)]) (rest := []) (c_J9_min_7cf53 e_r2) zc_J9_min_7cf53 rfl (by omega) zm_X7_11 (Nat.le_of_ble_eq_true rfl) rfl dX7_far_246 ?_
    refine V_pc (pc' := 249) rfl ?_
    refine V_istore (ls' := [(6, .int (r2.1)), (0, .ref (zad L (a0))), (2, .int (i2)), (3, .int (i3)), (4, .int (i4)), (5, .int (i5))]) dX7_far_249 (by decide) rfl ?_
    refine V_sub [1, 2, 3, 4, 5, 0] rfl ?_
    exact s_X7_far_251 hRC_X7_far hd hq h
def f_X7_far_194 (RC_X7_far : Nat → Int32 → Int32 → Int32 → Int32 → zM → Option (Int32 × zM)) (a0 : Nat) (i2 : Int32) (i3 : Int32) (i4 : Int32) (i5 : Int32) (i6 : Int32) (M : zM) : Option (Int32 × zM) :=
  (f_X7_isRun i5 ((3 : Int32)) M).bind fun r1 =>
  if r1.1 = 0 then
  f_X7_far_227 RC_X7_far a0 i2 i3 i4 i5 i6 r1.2
  else
  (f_X7_with RC_X7_far a0 i5 ((i5 + ((2 : Int32)))) ((-1 : Int32)) i2 ((i3 + ((1 : Int32)))) i4 r1.2).bind fun r2 =>
  (f_J9_min_7cf53 i6 r2.1 r2.2).bind fun r3 =>
  f_X7_far_227 RC_X7_far a0 i2 i3 i4 i5 r3.1 r3.2
set_option maxRecDepth 20000 in
set_option maxHeartbeats 4000000 in
theorem s_X7_far_194 {L : zL} {X : zX} {M0 : zM} {N : Nat × Nat} {Q : State → Prop} {r : Int32 × zM} {dd : Nat} {RC_X7_far : Nat → Int32 → Int32 → Int32 → Int32 → zM → Option (Int32 × zM)} {d_X7_far : Nat} (hRC_X7_far : ∀ (l : Launch) (a0 : Nat) (i1 : Int32) (i2 : Int32) (i3 : Int32) (i4 : Int32) (M : zM) (r : Int32 × zM), RC_X7_far a0 i1 i2 i3 i4 M = some r → CP L l yX7_far cX7_far 7 (some FieldType.int) d_X7_far M [.ref (zad L (a0)), .int (i1), .int (i2), .int (i3), .int (i4)] (some (.int r.1)) r.2) (hd : d_X7_far + 2 ≤ dd ∧ 2 ≤ dd) (hq : vQ L X M0 N Q (some (.int r.1)) r.2) {a0 : Nat} {i2 : Int32} {i3 : Int32} {i4 : Int32} {i5 : Int32} {i6 : Int32} {M : zM} (h : f_X7_far_194 RC_X7_far a0 i2 i3 i4 i5 i6 M = some r) : V L X yX7_far cX7_far 7 (some FieldType.int) dd M0 N Q M 194 [(0, .ref (zad L (a0))), (2, .int (i2)), (3, .int (i3)), (4, .int (i4)), (5, .int (i5)), (6, .int (i6))] [] := by
  unfold f_X7_far_194 at h
  refine V_iload dX7_far_194 4 rfl ?_
  refine V_iconst (v := 3) dX7_far_196 (by decide) ?_
  replace h := ob h
  obtain ⟨r1, e_r1, h⟩ := h
  refine V_callS_I (As := [.int (i5), .int ((3 : Int32))]) (rest := []) (c_X7_isRun e_r1) zc_X7_isRun rfl (by omega) zm_X7_17 (Nat.le_of_ble_eq_true rfl) rfl dX7_far_197 ?_
  refine V_pc (pc' := 200) rfl ?_
  refine V_if_eq (tgt := 227) dX7_far_200 (by decide) (fun c4 => ?_) (fun c4 => ?_)
  · replace h := (oi h).1 c4
    exact s_X7_far_227 hRC_X7_far hd hq h
  · replace h := (oi h).2 c4
    refine V_iload dX7_far_203 5 rfl ?_
    refine V_aload_n dX7_far_205 rfl 0 rfl ?_
    refine V_iload dX7_far_206 4 rfl ?_
    refine V_iload dX7_far_208 4 rfl ?_
    refine V_iconst (v := 2) dX7_far_210 (by decide) ?_
    refine V_iadd dX7_far_211 ?_
    refine V_iconst (v := -1) dX7_far_212 (by decide) ?_
    refine V_iload_n dX7_far_213 rfl 1 rfl ?_
    refine V_iload_n dX7_far_214 rfl 2 rfl ?_
    refine V_iconst (v := 1) dX7_far_215 (by decide) ?_
    refine V_iadd dX7_far_216 ?_
    refine V_iload dX7_far_217 3 rfl ?_
    replace h := ob h
    obtain ⟨r2, e_r2, h⟩ := h
    refine V_callS_I (As := [.ref (zad L (a0)), .int (i5), .int ((i5 + ((2 : Int32)))), .int ((-1 : Int32)), .int (i2), .int ((i3 + ((1 : Int32)))), .int (i4)]) (rest := [.int (i6)]) (c_X7_with (dd := d_X7_far + 1) hRC_X7_far ⟨by omega, by omega⟩ e_r2) zc_X7_with rfl (by omega) zm_X7_7 (Nat.le_of_ble_eq_true rfl) rfl dX7_far_219 ?_
    refine V_pc (pc' := 222) rfl ?_
    replace h := ob h
    obtain ⟨r3, e_r3, h⟩ := h
    refine V_callS_I (As := [.int (i6), .int (r2.1)]) (rest := []) (c_J9_min_7cf53 e_r3) zc_J9_min_7cf53 rfl (by omega) zm_X7_11 (Nat.le_of_ble_eq_true rfl) rfl dX7_far_222 ?_
    refine V_pc (pc' := 225) rfl ?_
    refine V_istore (ls' := [(6, .int (r3.1)), (0, .ref (zad L (a0))), (2, .int (i2)), (3, .int (i3)), (4, .int (i4)), (5, .int (i5))]) dX7_far_225 (by decide) rfl ?_
    refine V_sub [1, 2, 3, 4, 5, 0] rfl ?_
    exact s_X7_far_227 hRC_X7_far hd hq h
def f_X7_far_132 (RC_X7_far : Nat → Int32 → Int32 → Int32 → Int32 → zM → Option (Int32 × zM)) (a0 : Nat) (i2 : Int32) (i3 : Int32) (i4 : Int32) (i5 : Int32) (i6 : Int32) (M : zM) : Option (Int32 × zM) :=
  if ((((3 : Int32)) - i2)) ≤ i3 then
  f_X7_far_227 RC_X7_far a0 i2 i3 i4 i5 i6 M
  else
  (f_X7_with RC_X7_far a0 i5 i5 ((-1 : Int32)) i2 ((i3 + ((1 : Int32)))) i4 M).bind fun r1 =>
  (f_J9_min_7cf53 i6 r1.1 r1.2).bind fun r2 =>
  (f_X7_isRun i5 ((2 : Int32)) r2.2).bind fun r3 =>
  if r3.1 = 0 then
  f_X7_far_194 RC_X7_far a0 i2 i3 i4 i5 r2.1 r3.2
  else
  (f_X7_with RC_X7_far a0 i5 ((i5 + ((1 : Int32)))) ((-1 : Int32)) i2 ((i3 + ((1 : Int32)))) i4 r3.2).bind fun r4 =>
  (f_J9_min_7cf53 r2.1 r4.1 r4.2).bind fun r5 =>
  f_X7_far_194 RC_X7_far a0 i2 i3 i4 i5 r5.1 r5.2
set_option maxRecDepth 20000 in
set_option maxHeartbeats 4000000 in
theorem s_X7_far_132 {L : zL} {X : zX} {M0 : zM} {N : Nat × Nat} {Q : State → Prop} {r : Int32 × zM} {dd : Nat} {RC_X7_far : Nat → Int32 → Int32 → Int32 → Int32 → zM → Option (Int32 × zM)} {d_X7_far : Nat} (hRC_X7_far : ∀ (l : Launch) (a0 : Nat) (i1 : Int32) (i2 : Int32) (i3 : Int32) (i4 : Int32) (M : zM) (r : Int32 × zM), RC_X7_far a0 i1 i2 i3 i4 M = some r → CP L l yX7_far cX7_far 7 (some FieldType.int) d_X7_far M [.ref (zad L (a0)), .int (i1), .int (i2), .int (i3), .int (i4)] (some (.int r.1)) r.2) (hd : d_X7_far + 2 ≤ dd ∧ 2 ≤ dd) (hq : vQ L X M0 N Q (some (.int r.1)) r.2) {a0 : Nat} {i2 : Int32} {i3 : Int32} {i4 : Int32} {i5 : Int32} {i6 : Int32} {M : zM} (h : f_X7_far_132 RC_X7_far a0 i2 i3 i4 i5 i6 M = some r) : V L X yX7_far cX7_far 7 (some FieldType.int) dd M0 N Q M 132 [(0, .ref (zad L (a0))), (2, .int (i2)), (3, .int (i3)), (4, .int (i4)), (5, .int (i5)), (6, .int (i6))] [] := by
  unfold f_X7_far_132 at h
  refine V_iload_n dX7_far_132 rfl 2 rfl ?_
  refine V_iconst (v := 3) dX7_far_133 (by decide) ?_
  refine V_iload_n dX7_far_134 rfl 1 rfl ?_
  refine V_isub dX7_far_135 ?_
  refine V_icmp_ge (tgt := 227) dX7_far_136 (by decide) (fun c7 => ?_) (fun c7 => ?_)
  · replace h := (oi h).1 c7
    exact s_X7_far_227 hRC_X7_far hd hq h
  · replace h := (oi h).2 c7
    refine V_iload dX7_far_139 5 rfl ?_
    refine V_aload_n dX7_far_141 rfl 0 rfl ?_
    refine V_iload dX7_far_142 4 rfl ?_
    refine V_iload dX7_far_144 4 rfl ?_
    refine V_iconst (v := -1) dX7_far_146 (by decide) ?_
    refine V_iload_n dX7_far_147 rfl 1 rfl ?_
    refine V_iload_n dX7_far_148 rfl 2 rfl ?_
    refine V_iconst (v := 1) dX7_far_149 (by decide) ?_
    refine V_iadd dX7_far_150 ?_
    refine V_iload dX7_far_151 3 rfl ?_
    replace h := ob h
    obtain ⟨r1, e_r1, h⟩ := h
    refine V_callS_I (As := [.ref (zad L (a0)), .int (i5), .int (i5), .int ((-1 : Int32)), .int (i2), .int ((i3 + ((1 : Int32)))), .int (i4)]) (rest := [.int (i6)]) (c_X7_with (dd := d_X7_far + 1) hRC_X7_far ⟨by omega, by omega⟩ e_r1) zc_X7_with rfl (by omega) zm_X7_7 (Nat.le_of_ble_eq_true rfl) rfl dX7_far_153 ?_
    refine V_pc (pc' := 156) rfl ?_
    replace h := ob h
    obtain ⟨r2, e_r2, h⟩ := h
    refine V_callS_I (As := [.int (i6), .int (r1.1)]) (rest := []) (c_J9_min_7cf53 e_r2) zc_J9_min_7cf53 rfl (by omega) zm_X7_11 (Nat.le_of_ble_eq_true rfl) rfl dX7_far_156 ?_
    refine V_pc (pc' := 159) rfl ?_
    refine V_istore (ls' := [(6, .int (r2.1)), (0, .ref (zad L (a0))), (2, .int (i2)), (3, .int (i3)), (4, .int (i4)), (5, .int (i5))]) dX7_far_159 (by decide) rfl ?_
    refine V_iload dX7_far_161 5 rfl ?_
    refine V_iconst (v := 2) dX7_far_163 (by decide) ?_
    replace h := ob h
    obtain ⟨r3, e_r3, h⟩ := h
    refine V_callS_I (As := [.int (i5), .int ((2 : Int32))]) (rest := []) (c_X7_isRun e_r3) zc_X7_isRun rfl (by omega) zm_X7_17 (Nat.le_of_ble_eq_true rfl) rfl dX7_far_164 ?_
    refine V_pc (pc' := 167) rfl ?_
    refine V_if_eq (tgt := 194) dX7_far_167 (by decide) (fun c6 => ?_) (fun c6 => ?_)
    · replace h := (oi h).1 c6
      refine V_sub [1, 2, 3, 4, 5, 0] rfl ?_
      exact s_X7_far_194 hRC_X7_far hd hq h
    · replace h := (oi h).2 c6
      refine V_iload dX7_far_170 0 rfl ?_
      refine V_aload_n dX7_far_172 rfl 1 rfl ?_
      refine V_iload dX7_far_173 5 rfl ?_
      refine V_iload dX7_far_175 5 rfl ?_
      refine V_iconst (v := 1) dX7_far_177 (by decide) ?_
      refine V_iadd dX7_far_178 ?_
      refine V_iconst (v := -1) dX7_far_179 (by decide) ?_
      refine V_iload_n dX7_far_180 rfl 2 rfl ?_
      refine V_iload_n dX7_far_181 rfl 3 rfl ?_
      refine V_iconst (v := 1) dX7_far_182 (by decide) ?_
      refine V_iadd dX7_far_183 ?_
      refine V_iload dX7_far_184 4 rfl ?_
      replace h := ob h
      obtain ⟨r4, e_r4, h⟩ := h
      refine V_callS_I (As := [.ref (zad L (a0)), .int (i5), .int ((i5 + ((1 : Int32)))), .int ((-1 : Int32)), .int (i2), .int ((i3 + ((1 : Int32)))), .int (i4)]) (rest := [.int (r2.1)]) (c_X7_with (dd := d_X7_far + 1) hRC_X7_far ⟨by omega, by omega⟩ e_r4) zc_X7_with rfl (by omega) zm_X7_7 (Nat.le_of_ble_eq_true rfl) rfl dX7_far_186 ?_
      refine V_pc (pc' := 189) rfl ?_
      replace h := ob h
      obtain ⟨r5, e_r5, h⟩ := h
      refine V_callS_I (As := [.int (r2.1), .int (r4.1)]) (rest := []) (c_J9_min_7cf53 e_r5) zc_J9_min_7cf53 rfl (by omega) zm_X7_11 (Nat.le_of_ble_eq_true rfl) rfl dX7_far_189 ?_
      refine V_pc (pc' := 192) rfl ?_
      refine V_istore (ls' := [(6, .int (r5.1)), (0, .ref (zad L (a0))), (2, .int (i2)), (3, .int (i3)), (4, .int (i4)), (5, .int (i5))]) dX7_far_192 (by decide) rfl ?_
      refine V_sub [1, 2, 3, 4, 5, 0] rfl ?_
      exact s_X7_far_194 hRC_X7_far hd hq h
def f_X7_far_59 (RC_X7_far : Nat → Int32 → Int32 → Int32 → Int32 → zM → Option (Int32 × zM)) (a0 : Nat) (i2 : Int32) (i3 : Int32) (i4 : Int32) (i5 : Int32) (i6 : Int32) (M : zM) : Option (Int32 × zM) :=
  if ((3 : Int32)) ≤ i2 then
  f_X7_far_132 RC_X7_far a0 i2 i3 i4 i5 i6 M
  else
  if ((((((3 : Int32)) - i2)) - ((1 : Int32)))) < i3 then
  f_X7_far_132 RC_X7_far a0 i2 i3 i4 i5 i6 M
  else
  (f_X7_with RC_X7_far a0 i5 i5 i5 ((i2 + ((1 : Int32)))) i3 i4 M).bind fun r1 =>
  (f_J9_min_7cf53 i6 r1.1 r1.2).bind fun r2 =>
  (f_X7_isRun i5 ((3 : Int32)) r2.2).bind fun r3 =>
  if r3.1 = 0 then
  f_X7_far_132 RC_X7_far a0 i2 i3 i4 i5 r2.1 r3.2
  else
  (f_X7_with RC_X7_far a0 i5 ((i5 + ((1 : Int32)))) ((i5 + ((2 : Int32)))) ((i2 + ((1 : Int32)))) i3 i4 r3.2).bind fun r4 =>
  (f_J9_min_7cf53 r2.1 r4.1 r4.2).bind fun r5 =>
  f_X7_far_132 RC_X7_far a0 i2 i3 i4 i5 r5.1 r5.2
set_option maxRecDepth 20000 in
set_option maxHeartbeats 4000000 in
theorem s_X7_far_59 {L : zL} {X : zX} {M0 : zM} {N : Nat × Nat} {Q : State → Prop} {r : Int32 × zM} {dd : Nat} {RC_X7_far : Nat → Int32 → Int32 → Int32 → Int32 → zM → Option (Int32 × zM)} {d_X7_far : Nat} (hRC_X7_far : ∀ (l : Launch) (a0 : Nat) (i1 : Int32) (i2 : Int32) (i3 : Int32) (i4 : Int32) (M : zM) (r : Int32 × zM), RC_X7_far a0 i1 i2 i3 i4 M = some r → CP L l yX7_far cX7_far 7 (some FieldType.int) d_X7_far M [.ref (zad L (a0)), .int (i1), .int (i2), .int (i3), .int (i4)] (some (.int r.1)) r.2) (hd : d_X7_far + 2 ≤ dd ∧ 2 ≤ dd) (hq : vQ L X M0 N Q (some (.int r.1)) r.2) {a0 : Nat} {i2 : Int32} {i3 : Int32} {i4 : Int32} {i5 : Int32} {i6 : Int32} {M : zM} (h : f_X7_far_59 RC_X7_far a0 i2 i3 i4 i5 i6 M = some r) : V L X yX7_far cX7_far 7 (some FieldType.int) dd M0 N Q M 59 [(0, .ref (zad L (a0))), (2, .int (i2)), (3, .int (i3)), (4, .int (i4)), (5, .int (i5)), (6, .int (i6))] [] := by
  unfold f_X7_far_59 at h
  refine V_iload_n dX7_far_59 rfl 1 rfl ?_
  refine V_iconst (v := 3) dX7_far_60 (by decide) ?_
  refine V_icmp_ge (tgt := 132) dX7_far_61 (by decide) (fun c8 => ?_) (fun c8 => ?_)
  · replace h := (oi h).1 c8
    exact s_X7_far_132 hRC_X7_far hd hq h
  · replace h := (oi h).2 c8
    refine V_iload_n dX7_far_64 rfl 2 rfl ?_
    refine V_iconst (v := 3) dX7_far_65 (by decide) ?_
    refine V_iload_n dX7_far_66 rfl 1 rfl ?_
    refine V_isub dX7_far_67 ?_
    refine V_iconst (v := 1) dX7_far_68 (by decide) ?_
    refine V_isub dX7_far_69 ?_
    refine V_icmp_gt (tgt := 132) dX7_far_70 (by decide) (fun c7 => ?_) (fun c7 => ?_)
    · replace h := (oi h).1 c7
      exact s_X7_far_132 hRC_X7_far hd hq h
    · replace h := (oi h).2 c7
      refine V_iload dX7_far_73 5 rfl ?_
      refine V_aload_n dX7_far_75 rfl 0 rfl ?_
      refine V_iload dX7_far_76 4 rfl ?_
      refine V_iload dX7_far_78 4 rfl ?_
      refine V_iload dX7_far_80 4 rfl ?_
      refine V_iload_n dX7_far_82 rfl 1 rfl ?_
      refine V_iconst (v := 1) dX7_far_83 (by decide) ?_
      refine V_iadd dX7_far_84 ?_
      refine V_iload_n dX7_far_85 rfl 2 rfl ?_
      refine V_iload dX7_far_86 3 rfl ?_
      replace h := ob h
      obtain ⟨r1, e_r1, h⟩ := h
      refine V_callS_I (As := [.ref (zad L (a0)), .int (i5), .int (i5), .int (i5), .int ((i2 + ((1 : Int32)))), .int (i3), .int (i4)]) (rest := [.int (i6)]) (c_X7_with (dd := d_X7_far + 1) hRC_X7_far ⟨by omega, by omega⟩ e_r1) zc_X7_with rfl (by omega) zm_X7_7 (Nat.le_of_ble_eq_true rfl) rfl dX7_far_88 ?_
      refine V_pc (pc' := 91) rfl ?_
      replace h := ob h
      obtain ⟨r2, e_r2, h⟩ := h
      refine V_callS_I (As := [.int (i6), .int (r1.1)]) (rest := []) (c_J9_min_7cf53 e_r2) zc_J9_min_7cf53 rfl (by omega) zm_X7_11 (Nat.le_of_ble_eq_true rfl) rfl dX7_far_91 ?_
      refine V_pc (pc' := 94) rfl ?_
      refine V_istore (ls' := [(6, .int (r2.1)), (0, .ref (zad L (a0))), (2, .int (i2)), (3, .int (i3)), (4, .int (i4)), (5, .int (i5))]) dX7_far_94 (by decide) rfl ?_
      refine V_iload dX7_far_96 5 rfl ?_
      refine V_iconst (v := 3) dX7_far_98 (by decide) ?_
      replace h := ob h
      obtain ⟨r3, e_r3, h⟩ := h
      refine V_callS_I (As := [.int (i5), .int ((3 : Int32))]) (rest := []) (c_X7_isRun e_r3) zc_X7_isRun rfl (by omega) zm_X7_17 (Nat.le_of_ble_eq_true rfl) rfl dX7_far_99 ?_
      refine V_pc (pc' := 102) rfl ?_
      refine V_if_eq (tgt := 132) dX7_far_102 (by decide) (fun c6 => ?_) (fun c6 => ?_)
      · replace h := (oi h).1 c6
        refine V_sub [1, 2, 3, 4, 5, 0] rfl ?_
        exact s_X7_far_132 hRC_X7_far hd hq h
      · replace h := (oi h).2 c6
        refine V_iload dX7_far_105 0 rfl ?_
        refine V_aload_n dX7_far_107 rfl 1 rfl ?_
        refine V_iload dX7_far_108 5 rfl ?_
        refine V_iload dX7_far_110 5 rfl ?_
        refine V_iconst (v := 1) dX7_far_112 (by decide) ?_
        refine V_iadd dX7_far_113 ?_
        refine V_iload dX7_far_114 5 rfl ?_
        refine V_iconst (v := 2) dX7_far_116 (by decide) ?_
        refine V_iadd dX7_far_117 ?_
        refine V_iload_n dX7_far_118 rfl 2 rfl ?_
        refine V_iconst (v := 1) dX7_far_119 (by decide) ?_
        refine V_iadd dX7_far_120 ?_
        refine V_iload_n dX7_far_121 rfl 3 rfl ?_
        refine V_iload dX7_far_122 4 rfl ?_
        replace h := ob h
        obtain ⟨r4, e_r4, h⟩ := h
        refine V_callS_I (As := [.ref (zad L (a0)), .int (i5), .int ((i5 + ((1 : Int32)))), .int ((i5 + ((2 : Int32)))), .int ((i2 + ((1 : Int32)))), .int (i3), .int (i4)]) (rest := [.int (r2.1)]) (c_X7_with (dd := d_X7_far + 1) hRC_X7_far ⟨by omega, by omega⟩ e_r4) zc_X7_with rfl (by omega) zm_X7_7 (Nat.le_of_ble_eq_true rfl) rfl dX7_far_124 ?_
        refine V_pc (pc' := 127) rfl ?_
        replace h := ob h
        obtain ⟨r5, e_r5, h⟩ := h
        refine V_callS_I (As := [.int (r2.1), .int (r4.1)]) (rest := []) (c_J9_min_7cf53 e_r5) zc_J9_min_7cf53 rfl (by omega) zm_X7_11 (Nat.le_of_ble_eq_true rfl) rfl dX7_far_127 ?_
        refine V_pc (pc' := 130) rfl ?_
        refine V_istore (ls' := [(6, .int (r5.1)), (0, .ref (zad L (a0))), (2, .int (i2)), (3, .int (i3)), (4, .int (i4)), (5, .int (i5))]) dX7_far_130 (by decide) rfl ?_
        refine V_sub [1, 2, 3, 4, 5, 0] rfl ?_
        exact s_X7_far_132 hRC_X7_far hd hq h
def f_X7_far_23 (RC_X7_far : Nat → Int32 → Int32 → Int32 → Int32 → zM → Option (Int32 × zM)) (a0 : Nat) (i2 : Int32) (i3 : Int32) (i4 : Int32) (i5 : Int32) (M : zM) : Option (Int32 × zM) :=
  if i5 = ((25 : Int32)) then
  some ((((((((6 : Int32)) - ((((2 : Int32)) * i2)))) - i3)) - i4), M)
  else
  if ((i2 + i3)) = ((3 : Int32)) then
  if i4 = ((1 : Int32)) then
  some ((((((((6 : Int32)) - ((((2 : Int32)) * i2)))) - i3)) - i4), M)
  else
  f_X7_far_59 RC_X7_far a0 i2 i3 i4 i5 ((((((((6 : Int32)) - ((((2 : Int32)) * i2)))) - i3)) - i4)) M
  else
  f_X7_far_59 RC_X7_far a0 i2 i3 i4 i5 ((((((((6 : Int32)) - ((((2 : Int32)) * i2)))) - i3)) - i4)) M
set_option maxRecDepth 20000 in
set_option maxHeartbeats 4000000 in
theorem s_X7_far_23 {L : zL} {X : zX} {M0 : zM} {N : Nat × Nat} {Q : State → Prop} {r : Int32 × zM} {dd : Nat} {RC_X7_far : Nat → Int32 → Int32 → Int32 → Int32 → zM → Option (Int32 × zM)} {d_X7_far : Nat} (hRC_X7_far : ∀ (l : Launch) (a0 : Nat) (i1 : Int32) (i2 : Int32) (i3 : Int32) (i4 : Int32) (M : zM) (r : Int32 × zM), RC_X7_far a0 i1 i2 i3 i4 M = some r → CP L l yX7_far cX7_far 7 (some FieldType.int) d_X7_far M [.ref (zad L (a0)), .int (i1), .int (i2), .int (i3), .int (i4)] (some (.int r.1)) r.2) (hd : d_X7_far + 2 ≤ dd ∧ 2 ≤ dd) (hq : vQ L X M0 N Q (some (.int r.1)) r.2) {a0 : Nat} {i2 : Int32} {i3 : Int32} {i4 : Int32} {i5 : Int32} {M : zM} (h : f_X7_far_23 RC_X7_far a0 i2 i3 i4 i5 M = some r) : V L X yX7_far cX7_far 7 (some FieldType.int) dd M0 N Q M 23 [(0, .ref (zad L (a0))), (2, .int (i2)), (3, .int (i3)), (4, .int (i4)), (5, .int (i5))] [] := by
  unfold f_X7_far_23 at h
  refine V_bipush (v := 6) dX7_far_23 (by decide) ?_
  refine V_iconst (v := 2) dX7_far_25 (by decide) ?_
  refine V_iload_n dX7_far_26 rfl 1 rfl ?_
  refine V_imul dX7_far_27 ?_
  refine V_isub dX7_far_28 ?_
  refine V_iload_n dX7_far_29 rfl 2 rfl ?_
  refine V_isub dX7_far_30 ?_
  refine V_iload dX7_far_31 3 rfl ?_
  refine V_isub dX7_far_33 ?_
  refine V_istore (ls' := [(6, .int ((((((((6 : Int32)) - ((((2 : Int32)) * i2)))) - i3)) - i4))), (0, .ref (zad L (a0))), (2, .int (i2)), (3, .int (i3)), (4, .int (i4)), (5, .int (i5))]) dX7_far_34 (by decide) rfl ?_
  refine V_iload dX7_far_36 5 rfl ?_
  refine V_bipush (v := 25) dX7_far_38 (by decide) ?_
  refine V_icmp_eq (tgt := 56) dX7_far_40 (by decide) (fun c3 => ?_) (fun c3 => ?_)
  · replace h := (oi h).1 c3
    refine V_iload dX7_far_56 0 rfl ?_
    obtain rfl := Option.some.inj h
    exact V_iret rfl hq dX7_far_58
  · replace h := (oi h).2 c3
    refine V_iload_n dX7_far_43 rfl 2 rfl ?_
    refine V_iload_n dX7_far_44 rfl 3 rfl ?_
    refine V_iadd dX7_far_45 ?_
    refine V_iconst (v := 3) dX7_far_46 (by decide) ?_
    refine V_icmp_ne (tgt := 59) dX7_far_47 (by decide) (fun c2 => ?_) (fun c2 => ?_)
    · replace h := (oi h).2 c2
      refine V_sub [1, 2, 3, 4, 5, 0] rfl ?_
      exact s_X7_far_59 hRC_X7_far hd hq h
    · replace h := (oi h).1 c2
      refine V_iload dX7_far_50 4 rfl ?_
      refine V_iconst (v := 1) dX7_far_52 (by decide) ?_
      refine V_icmp_ne (tgt := 59) dX7_far_53 (by decide) (fun c1 => ?_) (fun c1 => ?_)
      · replace h := (oi h).2 c1
        refine V_sub [1, 2, 3, 4, 5, 0] rfl ?_
        exact s_X7_far_59 hRC_X7_far hd hq h
      · replace h := (oi h).1 c1
        refine V_iload dX7_far_56 0 rfl ?_
        obtain rfl := Option.some.inj h
        exact V_iret rfl hq dX7_far_58
def f_X7_far_3 (RC_X7_far : Nat → Int32 → Int32 → Int32 → Int32 → zM → Option (Int32 × zM)) (n : Nat) (a0 : Nat) (i2 : Int32) (i3 : Int32) (i4 : Int32) (i5 : Int32) (M : zM) : Option (Int32 × zM) := match n with
  | 0 => none
  | n + 1 =>
    if ((25 : Int32)) ≤ i5 then
    f_X7_far_23 RC_X7_far a0 i2 i3 i4 i5 M
    else
    (lA 0 M a0 i5).bind fun v1 =>
    if v1 = 0 then
    f_X7_far_3 RC_X7_far n a0 i2 i3 i4 ((i5 + (1 : Int32))) M
    else
    f_X7_far_23 RC_X7_far a0 i2 i3 i4 i5 M
set_option maxRecDepth 20000 in
set_option maxHeartbeats 4000000 in
theorem s_X7_far_3 {L : zL} {X : zX} {M0 : zM} {N : Nat × Nat} {Q : State → Prop} {r : Int32 × zM} {dd : Nat} {RC_X7_far : Nat → Int32 → Int32 → Int32 → Int32 → zM → Option (Int32 × zM)} {d_X7_far : Nat} (hRC_X7_far : ∀ (l : Launch) (a0 : Nat) (i1 : Int32) (i2 : Int32) (i3 : Int32) (i4 : Int32) (M : zM) (r : Int32 × zM), RC_X7_far a0 i1 i2 i3 i4 M = some r → CP L l yX7_far cX7_far 7 (some FieldType.int) d_X7_far M [.ref (zad L (a0)), .int (i1), .int (i2), .int (i3), .int (i4)] (some (.int r.1)) r.2) (hd : d_X7_far + 2 ≤ dd ∧ 2 ≤ dd) (hq : vQ L X M0 N Q (some (.int r.1)) r.2) {n : Nat} {a0 : Nat} {i2 : Int32} {i3 : Int32} {i4 : Int32} {i5 : Int32} {M : zM} : f_X7_far_3 RC_X7_far n a0 i2 i3 i4 i5 M = some r → V L X yX7_far cX7_far 7 (some FieldType.int) dd M0 N Q M 3 [(0, .ref (zad L (a0))), (2, .int (i2)), (3, .int (i3)), (4, .int (i4)), (5, .int (i5))] [] := by
  induction n generalizing a0 i2 i3 i4 i5 M with
  | zero =>
    intro h
    rw [f_X7_far_3] at h
    cases h
  | succ n ih0 =>
    intro h
    have ih : ∀ (a0 : Nat) (i2 : Int32) (i3 : Int32) (i4 : Int32) (i5 : Int32) (M : zM), f_X7_far_3 RC_X7_far n a0 i2 i3 i4 i5 M = some r → V L X yX7_far cX7_far 7 (some FieldType.int) dd M0 N Q M 3 [(0, .ref (zad L (a0))), (2, .int (i2)), (3, .int (i3)), (4, .int (i4)), (5, .int (i5))] [] := fun a0 i2 i3 i4 i5 M h => ih0 h
    rw [f_X7_far_3] at h
    refine V_iload dX7_far_3 4 rfl ?_
    refine V_bipush (v := 25) dX7_far_5 (by decide) ?_
    refine V_icmp_ge (tgt := 23) dX7_far_7 (by decide) (fun c3 => ?_) (fun c3 => ?_)
    · replace h := (oi h).1 c3
      exact s_X7_far_23 hRC_X7_far hd hq h
    · replace h := (oi h).2 c3
      refine V_aload_n dX7_far_10 rfl 0 rfl ?_
      refine V_iload dX7_far_11 4 rfl ?_
      replace h := ob h
      obtain ⟨v1, e_v1, h⟩ := h
      refine V_iald e_v1 dX7_far_13 ?_
      refine V_pc (pc' := 14) rfl ?_
      refine V_if_ne (tgt := 23) dX7_far_14 (by decide) (fun c2 => ?_) (fun c2 => ?_)
      · replace h := (oi h).2 c2
        exact s_X7_far_23 hRC_X7_far hd hq h
      · replace h := (oi h).1 c2
        refine V_iinc (v := i5 + (1 : Int32)) (ls' := [(5, .int ((i5 + (1 : Int32)))), (0, .ref (zad L (a0))), (2, .int (i2)), (3, .int (i3)), (4, .int (i4))]) dX7_far_17 4 rfl (by rfl) (by decide) rfl ?_
        refine V_goto (tgt := 3) dX7_far_20 (by decide) ?_
        refine V_sub [1, 2, 3, 4, 0] rfl ?_
        exact ih _ _ _ _ _ _ h
def f_X7_far_0 (RC_X7_far : Nat → Int32 → Int32 → Int32 → Int32 → zM → Option (Int32 × zM)) (a0 : Nat) (i1 : Int32) (i2 : Int32) (i3 : Int32) (i4 : Int32) (M : zM) : Option (Int32 × zM) :=
  f_X7_far_3 RC_X7_far zN a0 i2 i3 i4 i1 M
set_option maxRecDepth 20000 in
set_option maxHeartbeats 4000000 in
theorem s_X7_far_0 {L : zL} {X : zX} {M0 : zM} {N : Nat × Nat} {Q : State → Prop} {r : Int32 × zM} {dd : Nat} {RC_X7_far : Nat → Int32 → Int32 → Int32 → Int32 → zM → Option (Int32 × zM)} {d_X7_far : Nat} (hRC_X7_far : ∀ (l : Launch) (a0 : Nat) (i1 : Int32) (i2 : Int32) (i3 : Int32) (i4 : Int32) (M : zM) (r : Int32 × zM), RC_X7_far a0 i1 i2 i3 i4 M = some r → CP L l yX7_far cX7_far 7 (some FieldType.int) d_X7_far M [.ref (zad L (a0)), .int (i1), .int (i2), .int (i3), .int (i4)] (some (.int r.1)) r.2) (hd : d_X7_far + 2 ≤ dd ∧ 2 ≤ dd) (hq : vQ L X M0 N Q (some (.int r.1)) r.2) {a0 : Nat} {i1 : Int32} {i2 : Int32} {i3 : Int32} {i4 : Int32} {M : zM} (h : f_X7_far_0 RC_X7_far a0 i1 i2 i3 i4 M = some r) : V L X yX7_far cX7_far 7 (some FieldType.int) dd M0 N Q M 0 [(0, .ref (zad L (a0))), (1, .int (i1)), (2, .int (i2)), (3, .int (i3)), (4, .int (i4))] [] := by
  unfold f_X7_far_0 at h
  refine V_iload_n dX7_far_0 rfl 1 rfl ?_
  refine V_istore (ls' := [(5, .int (i1)), (0, .ref (zad L (a0))), (1, .int (i1)), (2, .int (i2)), (3, .int (i3)), (4, .int (i4))]) dX7_far_1 (by decide) rfl ?_
  refine V_sub [1, 3, 4, 5, 0] rfl ?_
  exact s_X7_far_3 hRC_X7_far hd hq h
def f_X7_far (n : Nat) (a0 : Nat) (i1 : Int32) (i2 : Int32) (i3 : Int32) (i4 : Int32) (M : zM) : Option (Int32 × zM) := match n with
  | 0 => none
  | n + 1 => f_X7_far_0 (f_X7_far n) a0 i1 i2 i3 i4 M
theorem cr_X7_far {L : zL} {l : Launch} {n : Nat} {a0 : Nat} {i1 : Int32} {i2 : Int32} {i3 : Int32} {i4 : Int32} {M : zM} {r : Int32 × zM} : f_X7_far n a0 i1 i2 i3 i4 M = some r → CP L l yX7_far cX7_far 7 (some FieldType.int) (2 * n + 2) M [.ref (zad L (a0)), .int (i1), .int (i2), .int (i3), .int (i4)] (some (.int r.1)) r.2 := by
  induction n generalizing l a0 i1 i2 i3 i4 M r with
  | zero =>
    intro h
    rw [f_X7_far] at h
    cases h
  | succ n ih =>
    intro h
    rw [f_X7_far] at h
    exact CP.of ⟨by decide +kernel, by decide +kernel⟩ (Nat.le_of_ble_eq_true rfl) fun X Q hq => s_X7_far_0 (d_X7_far := 2 * n + 2) (fun l a0 i1 i2 i3 i4 M r e => ih e) ⟨by omega, by omega⟩ hq h
theorem c_X7_far {L : zL} {l : Launch} {a0 : Nat} {i1 : Int32} {i2 : Int32} {i3 : Int32} {i4 : Int32} {M : zM} {r : Int32 × zM} (h : f_X7_far zR a0 i1 i2 i3 i4 M = some r) : CP L l yX7_far cX7_far 7 (some FieldType.int) 130 M [.ref (zad L (a0)), .int (i1), .int (i2), .int (i3), .int (i4)] (some (.int r.1)) r.2 := by
  have q := cr_X7_far (L := L) (l := l) (n := zR) h
  have e : 2 * zR + 2 = 130 := by decide
  rw [e] at q
  exact q
/-! WindsparlourModel$Player.far()I -/
theorem dX6_far_0 : decode cX6_far 0 = .ok (.aload_n 0, 1) := by decide +kernel
theorem dX6_far_1 : decode cX6_far 1 = .ok (.getfield 15, 3) := by decide +kernel
theorem dX6_far_4 : decode cX6_far 4 = .ok (.iconst 0, 1) := by decide +kernel
theorem dX6_far_5 : decode cX6_far 5 = .ok (.aload_n 0, 1) := by decide +kernel
theorem dX6_far_6 : decode cX6_far 6 = .ok (.getfield 22, 3) := by decide +kernel
theorem dX6_far_9 : decode cX6_far 9 = .ok (.invokevirtual 44, 3) := by decide +kernel
theorem dX6_far_12 : decode cX6_far 12 = .ok (.iconst 0, 1) := by decide +kernel
theorem dX6_far_13 : decode cX6_far 13 = .ok (.iconst 0, 1) := by decide +kernel
theorem dX6_far_14 : decode cX6_far 14 = .ok (.invokestatic 66, 3) := by decide +kernel
theorem dX6_far_17 : decode cX6_far 17 = .ok (.ireturn, 1) := by decide +kernel
def f_X6_far_0 (a0 : Nat) (M : zM) : Option (Int32 × zM) :=
  (gR 12 2 M a0).bind fun v1 =>
  (gR 12 3 M a0).bind fun v2 =>
  if mK M v2 = 5 then
  (f_Jx4a65c_size_8abf5 v2 M).bind fun r3 =>
  (f_X7_far zR v1 ((0 : Int32)) r3.1 ((0 : Int32)) ((0 : Int32)) r3.2).bind fun r5 =>
  some (r5.1, r5.2)
  else none
set_option maxRecDepth 20000 in
set_option maxHeartbeats 4000000 in
theorem s_X6_far_0 {L : zL} {X : zX} {M0 : zM} {N : Nat × Nat} {Q : State → Prop} {r : Int32 × zM} (hq : vQ L X M0 N Q (some (.int r.1)) r.2) {a0 : Nat} {M : zM} (h : f_X6_far_0 a0 M = some r) : V L X yX6_far cX6_far 1 (some FieldType.int) 131 M0 N Q M 0 [(0, .ref (zad L (a0)))] [] := by
  unfold f_X6_far_0 at h
  refine V_aload_n dX6_far_0 rfl 0 rfl ?_
  replace h := ob h
  obtain ⟨v1, e_v1, h⟩ := h
  refine V_getR zf_12_2 zl_X6_15 e_v1 dX6_far_1 ?_
  refine V_pc (pc' := 4) rfl ?_
  refine V_iconst (v := 0) dX6_far_4 (by decide) ?_
  refine V_aload_n dX6_far_5 rfl 0 rfl ?_
  replace h := ob h
  obtain ⟨v2, e_v2, h⟩ := h
  refine V_getR zf_12_3 zl_X6_22 e_v2 dX6_far_6 ?_
  refine V_pc (pc' := 9) rfl ?_
  replace h := ox h
  obtain ⟨c4, h⟩ := h
  replace h := ob h
  obtain ⟨r3, e_r3, h⟩ := h
  refine V_callV_I (As := []) (rest := [.int ((0 : Int32)), .ref (zad L (v1))]) (c_Jx4a65c_size_8abf5 e_r3) zc_Jx4a65c_size_8abf5 rfl (by decide) rfl (by decide) (Or.inl c4) zm_X6_44 (Nat.le_of_ble_eq_true rfl) rfl dX6_far_9 ?_
  refine V_pc (pc' := 12) rfl ?_
  refine V_iconst (v := 0) dX6_far_12 (by decide) ?_
  refine V_iconst (v := 0) dX6_far_13 (by decide) ?_
  replace h := ob h
  obtain ⟨r5, e_r5, h⟩ := h
  refine V_callSN_I (As := [.ref (zad L (v1)), .int ((0 : Int32)), .int (r3.1), .int ((0 : Int32)), .int ((0 : Int32))]) (rest := []) (c_X7_far e_r5) zc_X7_far rfl (by decide) zm_X6_66 (Nat.le_of_ble_eq_true rfl) rfl dX6_far_14 ?_
  refine V_pc (pc' := 17) rfl ?_
  obtain rfl := Option.some.inj h
  exact V_iret rfl hq dX6_far_17
def f_X6_far (a0 : Nat) (M : zM) : Option (Int32 × zM) := f_X6_far_0 a0 M
theorem c_X6_far {L : zL} {l : Launch} {a0 : Nat} {M : zM} {r : Int32 × zM} (h : f_X6_far a0 M = some r) : CP L l yX6_far cX6_far 1 (some FieldType.int) 131 M [.ref (zad L (a0))] (some (.int r.1)) r.2 :=
  CP.of ⟨by decide +kernel, by decide +kernel⟩ (Nat.le_of_ble_eq_true rfl) fun X Q hq => s_X6_far_0 hq h
/-! WindsparlourModel$Player.farWith(II)I -/
theorem dX6_farWith_0 : decode cX6_farWith 0 = .ok (.aload_n 0, 1) := by decide +kernel
theorem dX6_farWith_1 : decode cX6_farWith 1 = .ok (.getfield 15, 3) := by decide +kernel
theorem dX6_farWith_4 : decode cX6_farWith 4 = .ok (.iload_n 1, 1) := by decide +kernel
theorem dX6_farWith_5 : decode cX6_farWith 5 = .ok (.dup2, 1) := by decide +kernel
theorem dX6_farWith_6 : decode cX6_farWith 6 = .ok (.iaload, 1) := by decide +kernel
theorem dX6_farWith_7 : decode cX6_farWith 7 = .ok (.iload_n 2, 1) := by decide +kernel
theorem dX6_farWith_8 : decode cX6_farWith 8 = .ok (.iadd, 1) := by decide +kernel
theorem dX6_farWith_9 : decode cX6_farWith 9 = .ok (.iastore, 1) := by decide +kernel
theorem dX6_farWith_10 : decode cX6_farWith 10 = .ok (.aload_n 0, 1) := by decide +kernel
theorem dX6_farWith_11 : decode cX6_farWith 11 = .ok (.invokevirtual 70, 3) := by decide +kernel
theorem dX6_farWith_14 : decode cX6_farWith 14 = .ok (.istore_n 3, 1) := by decide +kernel
theorem dX6_farWith_15 : decode cX6_farWith 15 = .ok (.aload_n 0, 1) := by decide +kernel
theorem dX6_farWith_16 : decode cX6_farWith 16 = .ok (.getfield 15, 3) := by decide +kernel
theorem dX6_farWith_19 : decode cX6_farWith 19 = .ok (.iload_n 1, 1) := by decide +kernel
theorem dX6_farWith_20 : decode cX6_farWith 20 = .ok (.dup2, 1) := by decide +kernel
theorem dX6_farWith_21 : decode cX6_farWith 21 = .ok (.iaload, 1) := by decide +kernel
theorem dX6_farWith_22 : decode cX6_farWith 22 = .ok (.iload_n 2, 1) := by decide +kernel
theorem dX6_farWith_23 : decode cX6_farWith 23 = .ok (.isub, 1) := by decide +kernel
theorem dX6_farWith_24 : decode cX6_farWith 24 = .ok (.iastore, 1) := by decide +kernel
theorem dX6_farWith_25 : decode cX6_farWith 25 = .ok (.iload_n 3, 1) := by decide +kernel
theorem dX6_farWith_26 : decode cX6_farWith 26 = .ok (.ireturn, 1) := by decide +kernel
def f_X6_farWith_0 (a0 : Nat) (i1 : Int32) (i2 : Int32) (M : zM) : Option (Int32 × zM) :=
  (gR 12 2 M a0).bind fun v1 =>
  (lA 0 M v1 i1).bind fun v2 =>
  (tA M v1 i1 ((v2 + i2))).bind fun M3 =>
  if mK M3 a0 = 12 then
  (f_X6_far a0 M3).bind fun r4 =>
  (gR 12 2 r4.2 a0).bind fun v6 =>
  (lA 0 r4.2 v6 i1).bind fun v7 =>
  (tA r4.2 v6 i1 ((v7 - i2))).bind fun M8 =>
  some (r4.1, M8)
  else none
set_option maxRecDepth 20000 in
set_option maxHeartbeats 4000000 in
theorem s_X6_farWith_0 {L : zL} {X : zX} {M0 : zM} {N : Nat × Nat} {Q : State → Prop} {r : Int32 × zM} (hq : vQ L X M0 N Q (some (.int r.1)) r.2) {a0 : Nat} {i1 : Int32} {i2 : Int32} {M : zM} (h : f_X6_farWith_0 a0 i1 i2 M = some r) : V L X yX6_farWith cX6_farWith 4 (some FieldType.int) 132 M0 N Q M 0 [(0, .ref (zad L (a0))), (1, .int (i1)), (2, .int (i2))] [] := by
  unfold f_X6_farWith_0 at h
  refine V_aload_n dX6_farWith_0 rfl 0 rfl ?_
  replace h := ob h
  obtain ⟨v1, e_v1, h⟩ := h
  refine V_getR zf_12_2 zl_X6_15 e_v1 dX6_farWith_1 ?_
  refine V_pc (pc' := 4) rfl ?_
  refine V_iload_n dX6_farWith_4 rfl 1 rfl ?_
  refine V_dup2 dX6_farWith_5 rfl rfl ?_
  replace h := ob h
  obtain ⟨v2, e_v2, h⟩ := h
  refine V_iald e_v2 dX6_farWith_6 ?_
  refine V_pc (pc' := 7) rfl ?_
  refine V_iload_n dX6_farWith_7 rfl 2 rfl ?_
  refine V_iadd dX6_farWith_8 ?_
  replace h := ob h
  obtain ⟨M3, e_M3, h⟩ := h
  refine V_iast e_M3 dX6_farWith_9 ?_
  refine V_aload_n dX6_farWith_10 rfl 0 rfl ?_
  replace h := ox h
  obtain ⟨c5, h⟩ := h
  replace h := ob h
  obtain ⟨r4, e_r4, h⟩ := h
  refine V_callV_I (As := []) (rest := []) (c_X6_far e_r4) zc_X6_far rfl (by decide) rfl (by decide) (Or.inl c5) zm_X6_70 (Nat.le_of_ble_eq_true rfl) rfl dX6_farWith_11 ?_
  refine V_pc (pc' := 14) rfl ?_
  refine V_istore_n (ls' := [(3, .int (r4.1)), (0, .ref (zad L (a0))), (1, .int (i1)), (2, .int (i2))]) dX6_farWith_14 rfl (by decide) rfl ?_
  refine V_aload_n dX6_farWith_15 rfl 1 rfl ?_
  replace h := ob h
  obtain ⟨v6, e_v6, h⟩ := h
  refine V_getR zf_12_2 zl_X6_15 e_v6 dX6_farWith_16 ?_
  refine V_pc (pc' := 19) rfl ?_
  refine V_iload_n dX6_farWith_19 rfl 2 rfl ?_
  refine V_dup2 dX6_farWith_20 rfl rfl ?_
  replace h := ob h
  obtain ⟨v7, e_v7, h⟩ := h
  refine V_iald e_v7 dX6_farWith_21 ?_
  refine V_pc (pc' := 22) rfl ?_
  refine V_iload_n dX6_farWith_22 rfl 3 rfl ?_
  refine V_isub dX6_farWith_23 ?_
  replace h := ob h
  obtain ⟨M8, e_M8, h⟩ := h
  refine V_iast e_M8 dX6_farWith_24 ?_
  refine V_iload_n dX6_farWith_25 rfl 0 rfl ?_
  obtain rfl := Option.some.inj h
  exact V_iret rfl hq dX6_farWith_26
def f_X6_farWith (a0 : Nat) (i1 : Int32) (i2 : Int32) (M : zM) : Option (Int32 × zM) := f_X6_farWith_0 a0 i1 i2 M
theorem c_X6_farWith {L : zL} {l : Launch} {a0 : Nat} {i1 : Int32} {i2 : Int32} {M : zM} {r : Int32 × zM} (h : f_X6_farWith a0 i1 i2 M = some r) : CP L l yX6_farWith cX6_farWith 4 (some FieldType.int) 132 M [.ref (zad L (a0)), .int (i1), .int (i2)] (some (.int r.1)) r.2 :=
  CP.of ⟨by decide +kernel, by decide +kernel⟩ (Nat.le_of_ble_eq_true rfl) fun X Q hq => s_X6_farWith_0 hq h
