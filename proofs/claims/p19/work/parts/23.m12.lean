/-! ===== METHODS, by program ===== -/
/-! jdk/internal/util/Preconditions.checkFromToIndex(IIILjava/util/function/BiFunction;)I -/
theorem dJ3_checkFromToIndex_8c36e_0 : decode cJ3_checkFromToIndex_8c36e 0 = .ok (.iload_n 0, 1) := by decide +kernel
theorem dJ3_checkFromToIndex_8c36e_1 : decode cJ3_checkFromToIndex_8c36e 1 = .ok (.ifCond .lt 13, 3) := by decide +kernel
theorem dJ3_checkFromToIndex_8c36e_4 : decode cJ3_checkFromToIndex_8c36e 4 = .ok (.iload_n 0, 1) := by decide +kernel
theorem dJ3_checkFromToIndex_8c36e_5 : decode cJ3_checkFromToIndex_8c36e 5 = .ok (.iload_n 1, 1) := by decide +kernel
theorem dJ3_checkFromToIndex_8c36e_6 : decode cJ3_checkFromToIndex_8c36e 6 = .ok (.if_icmp .gt 8, 3) := by decide +kernel
theorem dJ3_checkFromToIndex_8c36e_9 : decode cJ3_checkFromToIndex_8c36e 9 = .ok (.iload_n 1, 1) := by decide +kernel
theorem dJ3_checkFromToIndex_8c36e_10 : decode cJ3_checkFromToIndex_8c36e 10 = .ok (.iload_n 2, 1) := by decide +kernel
theorem dJ3_checkFromToIndex_8c36e_11 : decode cJ3_checkFromToIndex_8c36e 11 = .ok (.if_icmp .le 11, 3) := by decide +kernel
theorem dJ3_checkFromToIndex_8c36e_14 : decode cJ3_checkFromToIndex_8c36e 14 = .ok (.aload_n 3, 1) := by decide +kernel
theorem dJ3_checkFromToIndex_8c36e_15 : decode cJ3_checkFromToIndex_8c36e 15 = .ok (.iload_n 0, 1) := by decide +kernel
theorem dJ3_checkFromToIndex_8c36e_16 : decode cJ3_checkFromToIndex_8c36e 16 = .ok (.iload_n 1, 1) := by decide +kernel
theorem dJ3_checkFromToIndex_8c36e_17 : decode cJ3_checkFromToIndex_8c36e 17 = .ok (.iload_n 2, 1) := by decide +kernel
theorem dJ3_checkFromToIndex_8c36e_18 : decode cJ3_checkFromToIndex_8c36e 18 = .ok (.invokestatic 99, 3) := by decide +kernel
theorem dJ3_checkFromToIndex_8c36e_21 : decode cJ3_checkFromToIndex_8c36e 21 = .ok (.athrow, 1) := by decide +kernel
theorem dJ3_checkFromToIndex_8c36e_22 : decode cJ3_checkFromToIndex_8c36e 22 = .ok (.iload_n 0, 1) := by decide +kernel
theorem dJ3_checkFromToIndex_8c36e_23 : decode cJ3_checkFromToIndex_8c36e 23 = .ok (.ireturn, 1) := by decide +kernel
def f_J3_checkFromToIndex_8c36e_0 (i0 : Int32) (i1 : Int32) (i2 : Int32) (M : zM) : Option (Int32 × zM) :=
  if i0 < 0 then
  none
  else
  if i1 < i0 then
  none
  else
  if i1 ≤ i2 then
  some (i0, M)
  else
  none
set_option maxRecDepth 20000 in
set_option maxHeartbeats 4000000 in
theorem s_J3_checkFromToIndex_8c36e_0 {L : zL} {X : zX} {M0 : zM} {N : Nat × Nat} {Q : State → Prop} {r : Int32 × zM} (hq : vQ L X M0 N Q (some (.int r.1)) r.2) {i0 : Int32} {i1 : Int32} {i2 : Int32} {g3 : Option Nat} {M : zM} (h : f_J3_checkFromToIndex_8c36e_0 i0 i1 i2 M = some r) : V L X yJ3_checkFromToIndex_8c36e cJ3_checkFromToIndex_8c36e 4 (some FieldType.int) 1 M0 N Q M 0 [(0, .int (i0)), (1, .int (i1)), (2, .int (i2)), (3, va_rf (g3))] [] := by
  unfold f_J3_checkFromToIndex_8c36e_0 at h
  refine V_sub [0, 1, 2] rfl ?_
  refine V_iload_n dJ3_checkFromToIndex_8c36e_0 rfl 0 rfl ?_
  refine V_if_lt (tgt := 14) dJ3_checkFromToIndex_8c36e_1 (by decide) (fun c3 => ?_) (fun c3 => ?_)
  · replace h := (oi h).1 c3
    cases h
  · replace h := (oi h).2 c3
    refine V_iload_n dJ3_checkFromToIndex_8c36e_4 rfl 0 rfl ?_
    refine V_iload_n dJ3_checkFromToIndex_8c36e_5 rfl 1 rfl ?_
    refine V_icmp_gt (tgt := 14) dJ3_checkFromToIndex_8c36e_6 (by decide) (fun c2 => ?_) (fun c2 => ?_)
    · replace h := (oi h).1 c2
      cases h
    · replace h := (oi h).2 c2
      refine V_iload_n dJ3_checkFromToIndex_8c36e_9 rfl 1 rfl ?_
      refine V_iload_n dJ3_checkFromToIndex_8c36e_10 rfl 2 rfl ?_
      refine V_icmp_le (tgt := 22) dJ3_checkFromToIndex_8c36e_11 (by decide) (fun c1 => ?_) (fun c1 => ?_)
      · replace h := (oi h).1 c1
        refine V_iload_n dJ3_checkFromToIndex_8c36e_22 rfl 0 rfl ?_
        obtain rfl := Option.some.inj h
        exact V_iret rfl hq dJ3_checkFromToIndex_8c36e_23
      · replace h := (oi h).2 c1
        cases h
def f_J3_checkFromToIndex_8c36e (i0 : Int32) (i1 : Int32) (i2 : Int32) (M : zM) : Option (Int32 × zM) := f_J3_checkFromToIndex_8c36e_0 i0 i1 i2 M
theorem c_J3_checkFromToIndex_8c36e {L : zL} {l : Launch} {i0 : Int32} {i1 : Int32} {i2 : Int32} {g3 : Option Nat} {M : zM} {r : Int32 × zM} (h : f_J3_checkFromToIndex_8c36e i0 i1 i2 M = some r) : CP L l yJ3_checkFromToIndex_8c36e cJ3_checkFromToIndex_8c36e 4 (some FieldType.int) 1 M [.int (i0), .int (i1), .int (i2), va_rf (g3)] (some (.int r.1)) r.2 :=
  CP.of ⟨by decide +kernel, by decide +kernel⟩ (by cases g3 <;> exact Nat.le_of_ble_eq_true rfl) fun X Q hq => s_J3_checkFromToIndex_8c36e_0 hq h
/-! jdk/internal/util/Preconditions.checkFromIndexSize(IIILjava/util/function/BiFunction;)I -/
theorem dJ3_checkFromIndexSize_8c36e_0 : decode cJ3_checkFromIndexSize_8c36e 0 = .ok (.iload_n 2, 1) := by decide +kernel
theorem dJ3_checkFromIndexSize_8c36e_1 : decode cJ3_checkFromIndexSize_8c36e 1 = .ok (.iload_n 0, 1) := by decide +kernel
theorem dJ3_checkFromIndexSize_8c36e_2 : decode cJ3_checkFromIndexSize_8c36e 2 = .ok (.ior, 1) := by decide +kernel
theorem dJ3_checkFromIndexSize_8c36e_3 : decode cJ3_checkFromIndexSize_8c36e 3 = .ok (.iload_n 1, 1) := by decide +kernel
theorem dJ3_checkFromIndexSize_8c36e_4 : decode cJ3_checkFromIndexSize_8c36e 4 = .ok (.ior, 1) := by decide +kernel
theorem dJ3_checkFromIndexSize_8c36e_5 : decode cJ3_checkFromIndexSize_8c36e 5 = .ok (.ifCond .lt 10, 3) := by decide +kernel
theorem dJ3_checkFromIndexSize_8c36e_8 : decode cJ3_checkFromIndexSize_8c36e 8 = .ok (.iload_n 1, 1) := by decide +kernel
theorem dJ3_checkFromIndexSize_8c36e_9 : decode cJ3_checkFromIndexSize_8c36e 9 = .ok (.iload_n 2, 1) := by decide +kernel
theorem dJ3_checkFromIndexSize_8c36e_10 : decode cJ3_checkFromIndexSize_8c36e 10 = .ok (.iload_n 0, 1) := by decide +kernel
theorem dJ3_checkFromIndexSize_8c36e_11 : decode cJ3_checkFromIndexSize_8c36e 11 = .ok (.isub, 1) := by decide +kernel
theorem dJ3_checkFromIndexSize_8c36e_12 : decode cJ3_checkFromIndexSize_8c36e 12 = .ok (.if_icmp .le 11, 3) := by decide +kernel
theorem dJ3_checkFromIndexSize_8c36e_15 : decode cJ3_checkFromIndexSize_8c36e 15 = .ok (.aload_n 3, 1) := by decide +kernel
theorem dJ3_checkFromIndexSize_8c36e_16 : decode cJ3_checkFromIndexSize_8c36e 16 = .ok (.iload_n 0, 1) := by decide +kernel
theorem dJ3_checkFromIndexSize_8c36e_17 : decode cJ3_checkFromIndexSize_8c36e 17 = .ok (.iload_n 1, 1) := by decide +kernel
theorem dJ3_checkFromIndexSize_8c36e_18 : decode cJ3_checkFromIndexSize_8c36e 18 = .ok (.iload_n 2, 1) := by decide +kernel
theorem dJ3_checkFromIndexSize_8c36e_19 : decode cJ3_checkFromIndexSize_8c36e 19 = .ok (.invokestatic 103, 3) := by decide +kernel
theorem dJ3_checkFromIndexSize_8c36e_22 : decode cJ3_checkFromIndexSize_8c36e 22 = .ok (.athrow, 1) := by decide +kernel
theorem dJ3_checkFromIndexSize_8c36e_23 : decode cJ3_checkFromIndexSize_8c36e 23 = .ok (.iload_n 0, 1) := by decide +kernel
theorem dJ3_checkFromIndexSize_8c36e_24 : decode cJ3_checkFromIndexSize_8c36e 24 = .ok (.ireturn, 1) := by decide +kernel
def f_J3_checkFromIndexSize_8c36e_0 (i0 : Int32) (i1 : Int32) (i2 : Int32) (M : zM) : Option (Int32 × zM) :=
  if ((((i2 ||| i0)) ||| i1)) < 0 then
  none
  else
  if i1 ≤ ((i2 - i0)) then
  some (i0, M)
  else
  none
set_option maxRecDepth 20000 in
set_option maxHeartbeats 4000000 in
theorem s_J3_checkFromIndexSize_8c36e_0 {L : zL} {X : zX} {M0 : zM} {N : Nat × Nat} {Q : State → Prop} {r : Int32 × zM} (hq : vQ L X M0 N Q (some (.int r.1)) r.2) {i0 : Int32} {i1 : Int32} {i2 : Int32} {g3 : Option Nat} {M : zM} (h : f_J3_checkFromIndexSize_8c36e_0 i0 i1 i2 M = some r) : V L X yJ3_checkFromIndexSize_8c36e cJ3_checkFromIndexSize_8c36e 4 (some FieldType.int) 1 M0 N Q M 0 [(0, .int (i0)), (1, .int (i1)), (2, .int (i2)), (3, va_rf (g3))] [] := by
  unfold f_J3_checkFromIndexSize_8c36e_0 at h
  refine V_sub [0, 1, 2] rfl ?_
  refine V_iload_n dJ3_checkFromIndexSize_8c36e_0 rfl 2 rfl ?_
  refine V_iload_n dJ3_checkFromIndexSize_8c36e_1 rfl 0 rfl ?_
  refine V_ior dJ3_checkFromIndexSize_8c36e_2 ?_
  refine V_iload_n dJ3_checkFromIndexSize_8c36e_3 rfl 1 rfl ?_
  refine V_ior dJ3_checkFromIndexSize_8c36e_4 ?_
  refine V_if_lt (tgt := 15) dJ3_checkFromIndexSize_8c36e_5 (by decide) (fun c2 => ?_) (fun c2 => ?_)
  · replace h := (oi h).1 c2
    cases h
  · replace h := (oi h).2 c2
    refine V_iload_n dJ3_checkFromIndexSize_8c36e_8 rfl 1 rfl ?_
    refine V_iload_n dJ3_checkFromIndexSize_8c36e_9 rfl 2 rfl ?_
    refine V_iload_n dJ3_checkFromIndexSize_8c36e_10 rfl 0 rfl ?_
    refine V_isub dJ3_checkFromIndexSize_8c36e_11 ?_
    refine V_icmp_le (tgt := 23) dJ3_checkFromIndexSize_8c36e_12 (by decide) (fun c1 => ?_) (fun c1 => ?_)
    · replace h := (oi h).1 c1
      refine V_iload_n dJ3_checkFromIndexSize_8c36e_23 rfl 0 rfl ?_
      obtain rfl := Option.some.inj h
      exact V_iret rfl hq dJ3_checkFromIndexSize_8c36e_24
    · replace h := (oi h).2 c1
      cases h
def f_J3_checkFromIndexSize_8c36e (i0 : Int32) (i1 : Int32) (i2 : Int32) (M : zM) : Option (Int32 × zM) := f_J3_checkFromIndexSize_8c36e_0 i0 i1 i2 M
theorem c_J3_checkFromIndexSize_8c36e {L : zL} {l : Launch} {i0 : Int32} {i1 : Int32} {i2 : Int32} {g3 : Option Nat} {M : zM} {r : Int32 × zM} (h : f_J3_checkFromIndexSize_8c36e i0 i1 i2 M = some r) : CP L l yJ3_checkFromIndexSize_8c36e cJ3_checkFromIndexSize_8c36e 4 (some FieldType.int) 1 M [.int (i0), .int (i1), .int (i2), va_rf (g3)] (some (.int r.1)) r.2 :=
  CP.of ⟨by decide +kernel, by decide +kernel⟩ (by cases g3 <;> exact Nat.le_of_ble_eq_true rfl) fun X Q hq => s_J3_checkFromIndexSize_8c36e_0 hq h
/-! java/lang/String.checkBoundsOffCount(III)I -/
theorem dJ0_checkBoundsOffCount_cabcc_0 : decode cJ0_checkBoundsOffCount_cabcc 0 = .ok (.iload_n 0, 1) := by decide +kernel
theorem dJ0_checkBoundsOffCount_cabcc_1 : decode cJ0_checkBoundsOffCount_cabcc 1 = .ok (.iload_n 1, 1) := by decide +kernel
theorem dJ0_checkBoundsOffCount_cabcc_2 : decode cJ0_checkBoundsOffCount_cabcc 2 = .ok (.iload_n 2, 1) := by decide +kernel
theorem dJ0_checkBoundsOffCount_cabcc_3 : decode cJ0_checkBoundsOffCount_cabcc 3 = .ok (.getstatic 1053, 3) := by decide +kernel
theorem dJ0_checkBoundsOffCount_cabcc_6 : decode cJ0_checkBoundsOffCount_cabcc 6 = .ok (.invokestatic 1065, 3) := by decide +kernel
theorem dJ0_checkBoundsOffCount_cabcc_9 : decode cJ0_checkBoundsOffCount_cabcc 9 = .ok (.ireturn, 1) := by decide +kernel
def f_J0_checkBoundsOffCount_cabcc_0 (i0 : Int32) (i1 : Int32) (i2 : Int32) (M : zM) : Option (Int32 × zM) :=
  (f_J3_checkFromIndexSize_8c36e i0 i1 i2 M).bind fun r1 =>
  some (r1.1, r1.2)
set_option maxRecDepth 20000 in
set_option maxHeartbeats 4000000 in
theorem s_J0_checkBoundsOffCount_cabcc_0 {L : zL} {X : zX} {M0 : zM} {N : Nat × Nat} {Q : State → Prop} {r : Int32 × zM} (hq : vQ L X M0 N Q (some (.int r.1)) r.2) {i0 : Int32} {i1 : Int32} {i2 : Int32} {M : zM} (h : f_J0_checkBoundsOffCount_cabcc_0 i0 i1 i2 M = some r) : V L X yJ0_checkBoundsOffCount_cabcc cJ0_checkBoundsOffCount_cabcc 3 (some FieldType.int) 2 M0 N Q M 0 [(0, .int (i0)), (1, .int (i1)), (2, .int (i2))] [] := by
  unfold f_J0_checkBoundsOffCount_cabcc_0 at h
  refine V_iload_n dJ0_checkBoundsOffCount_cabcc_0 rfl 0 rfl ?_
  refine V_iload_n dJ0_checkBoundsOffCount_cabcc_1 rfl 1 rfl ?_
  refine V_iload_n dJ0_checkBoundsOffCount_cabcc_2 rfl 2 rfl ?_
  refine V_gets (zst_9 L) zg_J0_1053 rfl dJ0_checkBoundsOffCount_cabcc_3 ?_
  replace h := ob h
  obtain ⟨r1, e_r1, h⟩ := h
  refine V_callS_I (As := [.int (i0), .int (i1), .int (i2), va_rf (zfv L)]) (rest := []) (c_J3_checkFromIndexSize_8c36e e_r1) zc_J3_checkFromIndexSize_8c36e rfl (by decide) zm_J0_1065 (Nat.le_of_ble_eq_true rfl) rfl dJ0_checkBoundsOffCount_cabcc_6 ?_
  refine V_pc (pc' := 9) rfl ?_
  obtain rfl := Option.some.inj h
  exact V_iret rfl hq dJ0_checkBoundsOffCount_cabcc_9
def f_J0_checkBoundsOffCount_cabcc (i0 : Int32) (i1 : Int32) (i2 : Int32) (M : zM) : Option (Int32 × zM) := f_J0_checkBoundsOffCount_cabcc_0 i0 i1 i2 M
theorem c_J0_checkBoundsOffCount_cabcc {L : zL} {l : Launch} {i0 : Int32} {i1 : Int32} {i2 : Int32} {M : zM} {r : Int32 × zM} (h : f_J0_checkBoundsOffCount_cabcc i0 i1 i2 M = some r) : CP L l yJ0_checkBoundsOffCount_cabcc cJ0_checkBoundsOffCount_cabcc 3 (some FieldType.int) 2 M [.int (i0), .int (i1), .int (i2)] (some (.int r.1)) r.2 :=
  CP.of ⟨by decide +kernel, by decide +kernel⟩ (Nat.le_of_ble_eq_true rfl) fun X Q hq => s_J0_checkBoundsOffCount_cabcc_0 hq h
/-! java/lang/String.checkBoundsBeginEnd(III)V -/
theorem dJ0_checkBoundsBeginEnd_23922_0 : decode cJ0_checkBoundsBeginEnd_23922 0 = .ok (.iload_n 0, 1) := by decide +kernel
theorem dJ0_checkBoundsBeginEnd_23922_1 : decode cJ0_checkBoundsBeginEnd_23922 1 = .ok (.iload_n 1, 1) := by decide +kernel
theorem dJ0_checkBoundsBeginEnd_23922_2 : decode cJ0_checkBoundsBeginEnd_23922 2 = .ok (.iload_n 2, 1) := by decide +kernel
theorem dJ0_checkBoundsBeginEnd_23922_3 : decode cJ0_checkBoundsBeginEnd_23922 3 = .ok (.getstatic 1053, 3) := by decide +kernel
theorem dJ0_checkBoundsBeginEnd_23922_6 : decode cJ0_checkBoundsBeginEnd_23922 6 = .ok (.invokestatic 1062, 3) := by decide +kernel
theorem dJ0_checkBoundsBeginEnd_23922_9 : decode cJ0_checkBoundsBeginEnd_23922 9 = .ok (.pop, 1) := by decide +kernel
theorem dJ0_checkBoundsBeginEnd_23922_10 : decode cJ0_checkBoundsBeginEnd_23922 10 = .ok (.return_, 1) := by decide +kernel
def f_J0_checkBoundsBeginEnd_23922_0 (i0 : Int32) (i1 : Int32) (i2 : Int32) (M : zM) : Option (Unit × zM) :=
  (f_J3_checkFromToIndex_8c36e i0 i1 i2 M).bind fun r1 =>
  some ((), r1.2)
set_option maxRecDepth 20000 in
set_option maxHeartbeats 4000000 in
theorem s_J0_checkBoundsBeginEnd_23922_0 {L : zL} {X : zX} {M0 : zM} {N : Nat × Nat} {Q : State → Prop} {r : Unit × zM} (hq : vQ L X M0 N Q none r.2) {i0 : Int32} {i1 : Int32} {i2 : Int32} {M : zM} (h : f_J0_checkBoundsBeginEnd_23922_0 i0 i1 i2 M = some r) : V L X yJ0_checkBoundsBeginEnd_23922 cJ0_checkBoundsBeginEnd_23922 3 (none : Option FieldType) 2 M0 N Q M 0 [(0, .int (i0)), (1, .int (i1)), (2, .int (i2))] [] := by
  unfold f_J0_checkBoundsBeginEnd_23922_0 at h
  refine V_iload_n dJ0_checkBoundsBeginEnd_23922_0 rfl 0 rfl ?_
  refine V_iload_n dJ0_checkBoundsBeginEnd_23922_1 rfl 1 rfl ?_
  refine V_iload_n dJ0_checkBoundsBeginEnd_23922_2 rfl 2 rfl ?_
  refine V_gets (zst_9 L) zg_J0_1053 rfl dJ0_checkBoundsBeginEnd_23922_3 ?_
  replace h := ob h
  obtain ⟨r1, e_r1, h⟩ := h
  refine V_callS_I (As := [.int (i0), .int (i1), .int (i2), va_rf (zfv L)]) (rest := []) (c_J3_checkFromToIndex_8c36e e_r1) zc_J3_checkFromToIndex_8c36e rfl (by decide) zm_J0_1062 (Nat.le_of_ble_eq_true rfl) rfl dJ0_checkBoundsBeginEnd_23922_6 ?_
  refine V_pc (pc' := 9) rfl ?_
  refine V_pop dJ0_checkBoundsBeginEnd_23922_9 rfl ?_
  obtain rfl := Option.some.inj h
  exact V_vret rfl hq dJ0_checkBoundsBeginEnd_23922_10
def f_J0_checkBoundsBeginEnd_23922 (i0 : Int32) (i1 : Int32) (i2 : Int32) (M : zM) : Option (Unit × zM) := f_J0_checkBoundsBeginEnd_23922_0 i0 i1 i2 M
theorem c_J0_checkBoundsBeginEnd_23922 {L : zL} {l : Launch} {i0 : Int32} {i1 : Int32} {i2 : Int32} {M : zM} {r : Unit × zM} (h : f_J0_checkBoundsBeginEnd_23922 i0 i1 i2 M = some r) : CP L l yJ0_checkBoundsBeginEnd_23922 cJ0_checkBoundsBeginEnd_23922 3 (none : Option FieldType) 2 M [.int (i0), .int (i1), .int (i2)] none r.2 :=
  CP.of ⟨by decide +kernel, by decide +kernel⟩ (Nat.le_of_ble_eq_true rfl) fun X Q hq => s_J0_checkBoundsBeginEnd_23922_0 hq h
/-! WindsparlourLaw.lay(LWindsparlour;IILWindsparlourLaw$Out;)I -/
theorem dL_lay_0 : decode cL_lay 0 = .ok (.aload_n 3, 1) := by decide +kernel
theorem dL_lay_1 : decode cL_lay 1 = .ok (.aload_n 0, 1) := by decide +kernel
theorem dL_lay_2 : decode cL_lay 2 = .ok (.iload_n 1, 1) := by decide +kernel
theorem dL_lay_3 : decode cL_lay 3 = .ok (.iload_n 2, 1) := by decide +kernel
theorem dL_lay_4 : decode cL_lay 4 = .ok (.invokevirtual 7, 3) := by decide +kernel
theorem dL_lay_7 : decode cL_lay 7 = .ok (.i2l, 1) := by decide +kernel
theorem dL_lay_8 : decode cL_lay 8 = .ok (.putfield 13, 3) := by decide +kernel
theorem dL_lay_11 : decode cL_lay 11 = .ok (.goto 11, 3) := by decide +kernel
theorem dL_lay_14 : decode cL_lay 14 = .ok (.astore 4, 2) := by decide +kernel
theorem dL_lay_16 : decode cL_lay 16 = .ok (.iconst 1, 1) := by decide +kernel
theorem dL_lay_17 : decode cL_lay 17 = .ok (.ireturn, 1) := by decide +kernel
theorem dL_lay_18 : decode cL_lay 18 = .ok (.astore 4, 2) := by decide +kernel
theorem dL_lay_20 : decode cL_lay 20 = .ok (.iconst 2, 1) := by decide +kernel
theorem dL_lay_21 : decode cL_lay 21 = .ok (.ireturn, 1) := by decide +kernel
theorem dL_lay_22 : decode cL_lay 22 = .ok (.iconst 0, 1) := by decide +kernel
theorem dL_lay_23 : decode cL_lay 23 = .ok (.ireturn, 1) := by decide +kernel
theorem zht_L_lay : zht yL_lay = [(0, 11, 14, 19), (0, 11, 18, 21)] := by decide +kernel
def f_L_lay_0 (a0 : Nat) (i1 : Int32) (i2 : Int32) (a3 : Nat) (M : zM) : Option (Int32 × zM) :=
  if mK M a0 = 9 then
  xc (f_X3_lay a0 i1 i2 M) (fun E_r1 M_r1 =>
  if E_r1 = "java/lang/IllegalArgumentException" then
  some ((1 : Int32), M_r1)
  else
  if E_r1 = "java/lang/IllegalStateException" then
  some ((2 : Int32), M_r1)
  else
  none) fun w1 Mw1 =>
  (pJ 10 0 Mw1 a3 ((w1.toInt64))).bind fun M4 =>
  some ((0 : Int32), M4)
  else none
set_option maxRecDepth 20000 in
set_option maxHeartbeats 4000000 in
theorem s_L_lay_0 {L : zL} {X : zX} {M0 : zM} {N : Nat × Nat} {Q : State → Prop} {r : Int32 × zM} (hq : vQ L X M0 N Q (some (.int r.1)) r.2) {a0 : Nat} {i1 : Int32} {i2 : Int32} {a3 : Nat} {M : zM} (h : f_L_lay_0 a0 i1 i2 a3 M = some r) : V L X yL_lay cL_lay 5 (some FieldType.int) 8 M0 N Q M 0 [(0, .ref (zad L (a0))), (1, .int (i1)), (2, .int (i2)), (3, .ref (zad L (a3)))] [] := by
  unfold f_L_lay_0 at h
  refine V_aload_n dL_lay_0 rfl 3 rfl ?_
  refine V_aload_n dL_lay_1 rfl 0 rfl ?_
  refine V_iload_n dL_lay_2 rfl 1 rfl ?_
  refine V_iload_n dL_lay_3 rfl 2 rfl ?_
  replace h := ox h
  obtain ⟨c2, h⟩ := h
  replace h := xcs h
  rcases h with ⟨E_r1, M_r1, e_r1, h⟩ | ⟨w1, Mw1, e_r1, h⟩
  · by_cases c6 : E_r1 = "java/lang/IllegalArgumentException"
    · replace h := (oi h).1 c6
      subst c6
      refine V_callVc (As := [.int (i1), .int (i2)]) (rest := [.ref (zad L (a3))]) (pre := []) (suf := [⟨0, 11, 18, 21⟩]) (x := ⟨0, 11, 14, 19⟩) (c_X3_lay e_r1) (by rw [zht_L_lay]; rfl) (fun _ hz => by cases hz) ⟨by decide, by decide, zk_L_19, zcs_IllegalArgumentException⟩ zc_X3_lay rfl (by decide) rfl (by decide) (Or.inl c2) zm_L_7 (Nat.le_of_ble_eq_true rfl) rfl dL_lay_4 (fun q_r1 => ?_)
      refine V_astore (ls' := [(4, .ref (q_r1)), (0, .ref (zad L (a0))), (1, .int (i1)), (2, .int (i2)), (3, .ref (zad L (a3)))]) dL_lay_14 (by decide) rfl ?_
      refine V_iconst (v := 1) dL_lay_16 (by decide) ?_
      obtain rfl := Option.some.inj h
      exact V_iret rfl hq dL_lay_17
    · replace h := (oi h).2 c6
      by_cases c5 : E_r1 = "java/lang/IllegalStateException"
      · replace h := (oi h).1 c5
        subst c5
        refine V_callVc (As := [.int (i1), .int (i2)]) (rest := [.ref (zad L (a3))]) (pre := [⟨0, 11, 14, 19⟩]) (suf := []) (x := ⟨0, 11, 18, 21⟩) (c_X3_lay e_r1) (by rw [zht_L_lay]; rfl) (fun z hz => by
            simp only [List.mem_cons, List.not_mem_nil, or_false] at hz
            rcases hz with rfl
            · exact ⟨by decide, "java/lang/IllegalArgumentException", zk_L_19, by decide⟩) ⟨by decide, by decide, zk_L_21, zcs_IllegalStateException⟩ zc_X3_lay rfl (by decide) rfl (by decide) (Or.inl c2) zm_L_7 (Nat.le_of_ble_eq_true rfl) rfl dL_lay_4 (fun q_r1 => ?_)
        refine V_astore (ls' := [(4, .ref (q_r1)), (0, .ref (zad L (a0))), (1, .int (i1)), (2, .int (i2)), (3, .ref (zad L (a3)))]) dL_lay_18 (by decide) rfl ?_
        refine V_iconst (v := 2) dL_lay_20 (by decide) ?_
        obtain rfl := Option.some.inj h
        exact V_iret rfl hq dL_lay_21
      · replace h := (oi h).2 c5
        cases h
  · refine V_callVx_I (As := [.int (i1), .int (i2)]) (rest := [.ref (zad L (a3))]) (c_X3_lay e_r1) zc_X3_lay rfl (by decide) rfl (by decide) (Or.inl c2) zm_L_7 (Nat.le_of_ble_eq_true rfl) rfl dL_lay_4 ?_
    refine V_pc (pc' := 7) rfl ?_
    refine V_i2l dL_lay_7 ?_
    replace h := ob h
    obtain ⟨M4, e_M4, h⟩ := h
    refine V_putJN (ref := "") zf_10_0 zlN_L_13 rfl rfl e_M4 dL_lay_8 ?_
    refine V_pc (pc' := 11) rfl ?_
    refine V_goto (tgt := 22) dL_lay_11 (by decide) ?_
    refine V_iconst (v := 0) dL_lay_22 (by decide) ?_
    obtain rfl := Option.some.inj h
    exact V_iret rfl hq dL_lay_23
def f_L_lay (a0 : Nat) (i1 : Int32) (i2 : Int32) (a3 : Nat) (M : zM) : Option (Int32 × zM) := f_L_lay_0 a0 i1 i2 a3 M
theorem c_L_lay {L : zL} {l : Launch} {a0 : Nat} {i1 : Int32} {i2 : Int32} {a3 : Nat} {M : zM} {r : Int32 × zM} (h : f_L_lay a0 i1 i2 a3 M = some r) : CH L l yL_lay cL_lay 5 (some FieldType.int) [(0, 11, 14, 19), (0, 11, 18, 21)] 8 M [.ref (zad L (a0)), .int (i1), .int (i2), .ref (zad L (a3))] (some (.int r.1)) r.2 :=
  CH.of ⟨by decide +kernel, zht_L_lay⟩ (Nat.le_of_ble_eq_true rfl) fun X Q hq => s_L_lay_0 hq h
/-! WindsparlourLaw.draw(LWindsparlour;LWindsparlourLaw$Out;)I -/
theorem dL_draw_0 : decode cL_draw 0 = .ok (.aload_n 1, 1) := by decide +kernel
theorem dL_draw_1 : decode cL_draw 1 = .ok (.aload_n 0, 1) := by decide +kernel
theorem dL_draw_2 : decode cL_draw 2 = .ok (.invokevirtual 23, 3) := by decide +kernel
theorem dL_draw_5 : decode cL_draw 5 = .ok (.i2l, 1) := by decide +kernel
theorem dL_draw_6 : decode cL_draw 6 = .ok (.putfield 13, 3) := by decide +kernel
theorem dL_draw_9 : decode cL_draw 9 = .ok (.goto 6, 3) := by decide +kernel
theorem dL_draw_12 : decode cL_draw 12 = .ok (.astore_n 2, 1) := by decide +kernel
theorem dL_draw_13 : decode cL_draw 13 = .ok (.iconst 1, 1) := by decide +kernel
theorem dL_draw_14 : decode cL_draw 14 = .ok (.ireturn, 1) := by decide +kernel
theorem dL_draw_15 : decode cL_draw 15 = .ok (.iconst 0, 1) := by decide +kernel
theorem dL_draw_16 : decode cL_draw 16 = .ok (.ireturn, 1) := by decide +kernel
theorem zht_L_draw : zht yL_draw = [(0, 9, 12, 21)] := by decide +kernel
def f_L_draw_0 (a0 : Nat) (a1 : Nat) (M : zM) : Option (Int32 × zM) :=
  if mK M a0 = 9 then
  xc (f_X3_draw a0 M) (fun E_r1 M_r1 =>
  if E_r1 = "java/lang/IllegalStateException" then
  some ((1 : Int32), M_r1)
  else
  none) fun w1 Mw1 =>
  (pJ 10 0 Mw1 a1 ((w1.toInt64))).bind fun M4 =>
  some ((0 : Int32), M4)
  else none
set_option maxRecDepth 20000 in
set_option maxHeartbeats 4000000 in
theorem s_L_draw_0 {L : zL} {X : zX} {M0 : zM} {N : Nat × Nat} {Q : State → Prop} {r : Int32 × zM} (hq : vQ L X M0 N Q (some (.int r.1)) r.2) {a0 : Nat} {a1 : Nat} {M : zM} (h : f_L_draw_0 a0 a1 M = some r) : V L X yL_draw cL_draw 3 (some FieldType.int) 8 M0 N Q M 0 [(0, .ref (zad L (a0))), (1, .ref (zad L (a1)))] [] := by
  unfold f_L_draw_0 at h
  refine V_aload_n dL_draw_0 rfl 1 rfl ?_
  refine V_aload_n dL_draw_1 rfl 0 rfl ?_
  replace h := ox h
  obtain ⟨c2, h⟩ := h
  replace h := xcs h
  rcases h with ⟨E_r1, M_r1, e_r1, h⟩ | ⟨w1, Mw1, e_r1, h⟩
  · by_cases c5 : E_r1 = "java/lang/IllegalStateException"
    · replace h := (oi h).1 c5
      subst c5
      refine V_callVc (As := []) (rest := [.ref (zad L (a1))]) (pre := []) (suf := []) (x := ⟨0, 9, 12, 21⟩) (c_X3_draw e_r1) (by rw [zht_L_draw]; rfl) (fun _ hz => by cases hz) ⟨by decide, by decide, zk_L_21, zcs_IllegalStateException⟩ zc_X3_draw rfl (by decide) rfl (by decide) (Or.inl c2) zm_L_23 (Nat.le_of_ble_eq_true rfl) rfl dL_draw_2 (fun q_r1 => ?_)
      refine V_astore_n (ls' := [(2, .ref (q_r1)), (0, .ref (zad L (a0))), (1, .ref (zad L (a1)))]) dL_draw_12 rfl (by decide) rfl ?_
      refine V_iconst (v := 1) dL_draw_13 (by decide) ?_
      obtain rfl := Option.some.inj h
      exact V_iret rfl hq dL_draw_14
    · replace h := (oi h).2 c5
      cases h
  · refine V_callVx_I (As := []) (rest := [.ref (zad L (a1))]) (c_X3_draw e_r1) zc_X3_draw rfl (by decide) rfl (by decide) (Or.inl c2) zm_L_23 (Nat.le_of_ble_eq_true rfl) rfl dL_draw_2 ?_
    refine V_pc (pc' := 5) rfl ?_
    refine V_i2l dL_draw_5 ?_
    replace h := ob h
    obtain ⟨M4, e_M4, h⟩ := h
    refine V_putJN (ref := "") zf_10_0 zlN_L_13 rfl rfl e_M4 dL_draw_6 ?_
    refine V_pc (pc' := 9) rfl ?_
    refine V_goto (tgt := 15) dL_draw_9 (by decide) ?_
    refine V_iconst (v := 0) dL_draw_15 (by decide) ?_
    obtain rfl := Option.some.inj h
    exact V_iret rfl hq dL_draw_16
def f_L_draw (a0 : Nat) (a1 : Nat) (M : zM) : Option (Int32 × zM) := f_L_draw_0 a0 a1 M
theorem c_L_draw {L : zL} {l : Launch} {a0 : Nat} {a1 : Nat} {M : zM} {r : Int32 × zM} (h : f_L_draw a0 a1 M = some r) : CH L l yL_draw cL_draw 3 (some FieldType.int) [(0, 9, 12, 21)] 8 M [.ref (zad L (a0)), .ref (zad L (a1))] (some (.int r.1)) r.2 :=
  CH.of ⟨by decide +kernel, zht_L_draw⟩ (Nat.le_of_ble_eq_true rfl) fun X Q hq => s_L_draw_0 hq h
/-! WindsparlourLaw.discard(LWindsparlour;ILWindsparlourLaw$Out;)I -/
theorem dL_discard_0 : decode cL_discard 0 = .ok (.aload_n 2, 1) := by decide +kernel
theorem dL_discard_1 : decode cL_discard 1 = .ok (.aload_n 0, 1) := by decide +kernel
theorem dL_discard_2 : decode cL_discard 2 = .ok (.iload_n 1, 1) := by decide +kernel
theorem dL_discard_3 : decode cL_discard 3 = .ok (.invokevirtual 27, 3) := by decide +kernel
theorem dL_discard_6 : decode cL_discard 6 = .ok (.i2l, 1) := by decide +kernel
theorem dL_discard_7 : decode cL_discard 7 = .ok (.putfield 13, 3) := by decide +kernel
theorem dL_discard_10 : decode cL_discard 10 = .ok (.goto 9, 3) := by decide +kernel
theorem dL_discard_13 : decode cL_discard 13 = .ok (.astore_n 3, 1) := by decide +kernel
theorem dL_discard_14 : decode cL_discard 14 = .ok (.iconst 1, 1) := by decide +kernel
theorem dL_discard_15 : decode cL_discard 15 = .ok (.ireturn, 1) := by decide +kernel
theorem dL_discard_16 : decode cL_discard 16 = .ok (.astore_n 3, 1) := by decide +kernel
theorem dL_discard_17 : decode cL_discard 17 = .ok (.iconst 2, 1) := by decide +kernel
theorem dL_discard_18 : decode cL_discard 18 = .ok (.ireturn, 1) := by decide +kernel
theorem dL_discard_19 : decode cL_discard 19 = .ok (.iconst 0, 1) := by decide +kernel
theorem dL_discard_20 : decode cL_discard 20 = .ok (.ireturn, 1) := by decide +kernel
theorem zht_L_discard : zht yL_discard = [(0, 10, 13, 19), (0, 10, 16, 21)] := by decide +kernel
def f_L_discard_0 (a0 : Nat) (i1 : Int32) (a2 : Nat) (M : zM) : Option (Int32 × zM) :=
  if mK M a0 = 9 then
  xc (f_X3_discard a0 i1 M) (fun E_r1 M_r1 =>
  if E_r1 = "java/lang/IllegalArgumentException" then
  some ((1 : Int32), M_r1)
  else
  if E_r1 = "java/lang/IllegalStateException" then
  some ((2 : Int32), M_r1)
  else
  none) fun w1 Mw1 =>
  (pJ 10 0 Mw1 a2 ((w1.toInt64))).bind fun M4 =>
  some ((0 : Int32), M4)
  else none
set_option maxRecDepth 20000 in
set_option maxHeartbeats 4000000 in
theorem s_L_discard_0 {L : zL} {X : zX} {M0 : zM} {N : Nat × Nat} {Q : State → Prop} {r : Int32 × zM} (hq : vQ L X M0 N Q (some (.int r.1)) r.2) {a0 : Nat} {i1 : Int32} {a2 : Nat} {M : zM} (h : f_L_discard_0 a0 i1 a2 M = some r) : V L X yL_discard cL_discard 4 (some FieldType.int) 8 M0 N Q M 0 [(0, .ref (zad L (a0))), (1, .int (i1)), (2, .ref (zad L (a2)))] [] := by
  unfold f_L_discard_0 at h
  refine V_aload_n dL_discard_0 rfl 2 rfl ?_
  refine V_aload_n dL_discard_1 rfl 0 rfl ?_
  refine V_iload_n dL_discard_2 rfl 1 rfl ?_
  replace h := ox h
  obtain ⟨c2, h⟩ := h
  replace h := xcs h
  rcases h with ⟨E_r1, M_r1, e_r1, h⟩ | ⟨w1, Mw1, e_r1, h⟩
  · by_cases c6 : E_r1 = "java/lang/IllegalArgumentException"
    · replace h := (oi h).1 c6
      subst c6
      refine V_callVc (As := [.int (i1)]) (rest := [.ref (zad L (a2))]) (pre := []) (suf := [⟨0, 10, 16, 21⟩]) (x := ⟨0, 10, 13, 19⟩) (c_X3_discard e_r1) (by rw [zht_L_discard]; rfl) (fun _ hz => by cases hz) ⟨by decide, by decide, zk_L_19, zcs_IllegalArgumentException⟩ zc_X3_discard rfl (by decide) rfl (by decide) (Or.inl c2) zm_L_27 (Nat.le_of_ble_eq_true rfl) rfl dL_discard_3 (fun q_r1 => ?_)
      refine V_astore_n (ls' := [(3, .ref (q_r1)), (0, .ref (zad L (a0))), (1, .int (i1)), (2, .ref (zad L (a2)))]) dL_discard_13 rfl (by decide) rfl ?_
      refine V_iconst (v := 1) dL_discard_14 (by decide) ?_
      obtain rfl := Option.some.inj h
      exact V_iret rfl hq dL_discard_15
    · replace h := (oi h).2 c6
      by_cases c5 : E_r1 = "java/lang/IllegalStateException"
      · replace h := (oi h).1 c5
        subst c5
        refine V_callVc (As := [.int (i1)]) (rest := [.ref (zad L (a2))]) (pre := [⟨0, 10, 13, 19⟩]) (suf := []) (x := ⟨0, 10, 16, 21⟩) (c_X3_discard e_r1) (by rw [zht_L_discard]; rfl) (fun z hz => by
            simp only [List.mem_cons, List.not_mem_nil, or_false] at hz
            rcases hz with rfl
            · exact ⟨by decide, "java/lang/IllegalArgumentException", zk_L_19, by decide⟩) ⟨by decide, by decide, zk_L_21, zcs_IllegalStateException⟩ zc_X3_discard rfl (by decide) rfl (by decide) (Or.inl c2) zm_L_27 (Nat.le_of_ble_eq_true rfl) rfl dL_discard_3 (fun q_r1 => ?_)
        refine V_astore_n (ls' := [(3, .ref (q_r1)), (0, .ref (zad L (a0))), (1, .int (i1)), (2, .ref (zad L (a2)))]) dL_discard_16 rfl (by decide) rfl ?_
        refine V_iconst (v := 2) dL_discard_17 (by decide) ?_
        obtain rfl := Option.some.inj h
        exact V_iret rfl hq dL_discard_18
      · replace h := (oi h).2 c5
        cases h
  · refine V_callVx_I (As := [.int (i1)]) (rest := [.ref (zad L (a2))]) (c_X3_discard e_r1) zc_X3_discard rfl (by decide) rfl (by decide) (Or.inl c2) zm_L_27 (Nat.le_of_ble_eq_true rfl) rfl dL_discard_3 ?_
    refine V_pc (pc' := 6) rfl ?_
    refine V_i2l dL_discard_6 ?_
    replace h := ob h
    obtain ⟨M4, e_M4, h⟩ := h
    refine V_putJN (ref := "") zf_10_0 zlN_L_13 rfl rfl e_M4 dL_discard_7 ?_
    refine V_pc (pc' := 10) rfl ?_
    refine V_goto (tgt := 19) dL_discard_10 (by decide) ?_
    refine V_iconst (v := 0) dL_discard_19 (by decide) ?_
    obtain rfl := Option.some.inj h
    exact V_iret rfl hq dL_discard_20
def f_L_discard (a0 : Nat) (i1 : Int32) (a2 : Nat) (M : zM) : Option (Int32 × zM) := f_L_discard_0 a0 i1 a2 M
theorem c_L_discard {L : zL} {l : Launch} {a0 : Nat} {i1 : Int32} {a2 : Nat} {M : zM} {r : Int32 × zM} (h : f_L_discard a0 i1 a2 M = some r) : CH L l yL_discard cL_discard 4 (some FieldType.int) [(0, 10, 13, 19), (0, 10, 16, 21)] 8 M [.ref (zad L (a0)), .int (i1), .ref (zad L (a2))] (some (.int r.1)) r.2 :=
  CH.of ⟨by decide +kernel, zht_L_discard⟩ (Nat.le_of_ble_eq_true rfl) fun X Q hq => s_L_discard_0 hq h
/-! WindsparlourLaw.call(LWindsparlour;ILWindsparlourLaw$Out;)I -/
theorem dL_call_0 : decode cL_call 0 = .ok (.aload_n 2, 1) := by decide +kernel
theorem dL_call_1 : decode cL_call 1 = .ok (.aload_n 0, 1) := by decide +kernel
theorem dL_call_2 : decode cL_call 2 = .ok (.iload_n 1, 1) := by decide +kernel
theorem dL_call_3 : decode cL_call 3 = .ok (.invokevirtual 31, 3) := by decide +kernel
theorem dL_call_6 : decode cL_call 6 = .ok (.i2l, 1) := by decide +kernel
theorem dL_call_7 : decode cL_call 7 = .ok (.putfield 13, 3) := by decide +kernel
theorem dL_call_10 : decode cL_call 10 = .ok (.goto 9, 3) := by decide +kernel
theorem dL_call_13 : decode cL_call 13 = .ok (.astore_n 3, 1) := by decide +kernel
theorem dL_call_14 : decode cL_call 14 = .ok (.iconst 1, 1) := by decide +kernel
theorem dL_call_15 : decode cL_call 15 = .ok (.ireturn, 1) := by decide +kernel
theorem dL_call_16 : decode cL_call 16 = .ok (.astore_n 3, 1) := by decide +kernel
theorem dL_call_17 : decode cL_call 17 = .ok (.iconst 2, 1) := by decide +kernel
theorem dL_call_18 : decode cL_call 18 = .ok (.ireturn, 1) := by decide +kernel
theorem dL_call_19 : decode cL_call 19 = .ok (.iconst 0, 1) := by decide +kernel
theorem dL_call_20 : decode cL_call 20 = .ok (.ireturn, 1) := by decide +kernel
theorem zht_L_call : zht yL_call = [(0, 10, 13, 19), (0, 10, 16, 21)] := by decide +kernel
def f_L_call_0 (a0 : Nat) (i1 : Int32) (a2 : Nat) (M : zM) : Option (Int32 × zM) :=
  if mK M a0 = 9 then
  xc (f_X3_call a0 i1 M) (fun E_r1 M_r1 =>
  if E_r1 = "java/lang/IllegalArgumentException" then
  some ((1 : Int32), M_r1)
  else
  if E_r1 = "java/lang/IllegalStateException" then
  some ((2 : Int32), M_r1)
  else
  none) fun w1 Mw1 =>
  (pJ 10 0 Mw1 a2 ((w1.toInt64))).bind fun M4 =>
  some ((0 : Int32), M4)
  else none
set_option maxRecDepth 20000 in
set_option maxHeartbeats 4000000 in
theorem s_L_call_0 {L : zL} {X : zX} {M0 : zM} {N : Nat × Nat} {Q : State → Prop} {r : Int32 × zM} (hq : vQ L X M0 N Q (some (.int r.1)) r.2) {a0 : Nat} {i1 : Int32} {a2 : Nat} {M : zM} (h : f_L_call_0 a0 i1 a2 M = some r) : V L X yL_call cL_call 4 (some FieldType.int) 8 M0 N Q M 0 [(0, .ref (zad L (a0))), (1, .int (i1)), (2, .ref (zad L (a2)))] [] := by
  unfold f_L_call_0 at h
  refine V_aload_n dL_call_0 rfl 2 rfl ?_
  refine V_aload_n dL_call_1 rfl 0 rfl ?_
  refine V_iload_n dL_call_2 rfl 1 rfl ?_
  replace h := ox h
  obtain ⟨c2, h⟩ := h
  replace h := xcs h
  rcases h with ⟨E_r1, M_r1, e_r1, h⟩ | ⟨w1, Mw1, e_r1, h⟩
  · by_cases c6 : E_r1 = "java/lang/IllegalArgumentException"
    · replace h := (oi h).1 c6
      subst c6
      refine V_callVc (As := [.int (i1)]) (rest := [.ref (zad L (a2))]) (pre := []) (suf := [⟨0, 10, 16, 21⟩]) (x := ⟨0, 10, 13, 19⟩) (c_X3_call e_r1) (by rw [zht_L_call]; rfl) (fun _ hz => by cases hz) ⟨by decide, by decide, zk_L_19, zcs_IllegalArgumentException⟩ zc_X3_call rfl (by decide) rfl (by decide) (Or.inl c2) zm_L_31 (Nat.le_of_ble_eq_true rfl) rfl dL_call_3 (fun q_r1 => ?_)
      refine V_astore_n (ls' := [(3, .ref (q_r1)), (0, .ref (zad L (a0))), (1, .int (i1)), (2, .ref (zad L (a2)))]) dL_call_13 rfl (by decide) rfl ?_
      refine V_iconst (v := 1) dL_call_14 (by decide) ?_
      obtain rfl := Option.some.inj h
      exact V_iret rfl hq dL_call_15
    · replace h := (oi h).2 c6
      by_cases c5 : E_r1 = "java/lang/IllegalStateException"
      · replace h := (oi h).1 c5
        subst c5
        refine V_callVc (As := [.int (i1)]) (rest := [.ref (zad L (a2))]) (pre := [⟨0, 10, 13, 19⟩]) (suf := []) (x := ⟨0, 10, 16, 21⟩) (c_X3_call e_r1) (by rw [zht_L_call]; rfl) (fun z hz => by
            simp only [List.mem_cons, List.not_mem_nil, or_false] at hz
            rcases hz with rfl
            · exact ⟨by decide, "java/lang/IllegalArgumentException", zk_L_19, by decide⟩) ⟨by decide, by decide, zk_L_21, zcs_IllegalStateException⟩ zc_X3_call rfl (by decide) rfl (by decide) (Or.inl c2) zm_L_31 (Nat.le_of_ble_eq_true rfl) rfl dL_call_3 (fun q_r1 => ?_)
        refine V_astore_n (ls' := [(3, .ref (q_r1)), (0, .ref (zad L (a0))), (1, .int (i1)), (2, .ref (zad L (a2)))]) dL_call_16 rfl (by decide) rfl ?_
        refine V_iconst (v := 2) dL_call_17 (by decide) ?_
        obtain rfl := Option.some.inj h
        exact V_iret rfl hq dL_call_18
      · replace h := (oi h).2 c5
        cases h
  · refine V_callVx_I (As := [.int (i1)]) (rest := [.ref (zad L (a2))]) (c_X3_call e_r1) zc_X3_call rfl (by decide) rfl (by decide) (Or.inl c2) zm_L_31 (Nat.le_of_ble_eq_true rfl) rfl dL_call_3 ?_
    refine V_pc (pc' := 6) rfl ?_
    refine V_i2l dL_call_6 ?_
    replace h := ob h
    obtain ⟨M4, e_M4, h⟩ := h
    refine V_putJN (ref := "") zf_10_0 zlN_L_13 rfl rfl e_M4 dL_call_7 ?_
    refine V_pc (pc' := 10) rfl ?_
    refine V_goto (tgt := 19) dL_call_10 (by decide) ?_
    refine V_iconst (v := 0) dL_call_19 (by decide) ?_
    obtain rfl := Option.some.inj h
    exact V_iret rfl hq dL_call_20
def f_L_call (a0 : Nat) (i1 : Int32) (a2 : Nat) (M : zM) : Option (Int32 × zM) := f_L_call_0 a0 i1 a2 M
theorem c_L_call {L : zL} {l : Launch} {a0 : Nat} {i1 : Int32} {a2 : Nat} {M : zM} {r : Int32 × zM} (h : f_L_call a0 i1 a2 M = some r) : CH L l yL_call cL_call 4 (some FieldType.int) [(0, 10, 13, 19), (0, 10, 16, 21)] 8 M [.ref (zad L (a0)), .int (i1), .ref (zad L (a2))] (some (.int r.1)) r.2 :=
  CH.of ⟨by decide +kernel, zht_L_call⟩ (Nat.le_of_ble_eq_true rfl) fun X Q hq => s_L_call_0 hq h
/-! WindsparlourLaw.claim(LWindsparlour;IIILWindsparlourLaw$Out;)I -/
theorem dL_claim_0 : decode cL_claim 0 = .ok (.aload 4, 2) := by decide +kernel
theorem dL_claim_2 : decode cL_claim 2 = .ok (.aload_n 0, 1) := by decide +kernel
theorem dL_claim_3 : decode cL_claim 3 = .ok (.iload_n 1, 1) := by decide +kernel
theorem dL_claim_4 : decode cL_claim 4 = .ok (.iload_n 2, 1) := by decide +kernel
theorem dL_claim_5 : decode cL_claim 5 = .ok (.iload_n 3, 1) := by decide +kernel
theorem dL_claim_6 : decode cL_claim 6 = .ok (.invokevirtual 34, 3) := by decide +kernel
theorem dL_claim_9 : decode cL_claim 9 = .ok (.i2l, 1) := by decide +kernel
theorem dL_claim_10 : decode cL_claim 10 = .ok (.putfield 13, 3) := by decide +kernel
theorem dL_claim_13 : decode cL_claim 13 = .ok (.goto 15, 3) := by decide +kernel
theorem dL_claim_16 : decode cL_claim 16 = .ok (.astore 5, 2) := by decide +kernel
theorem dL_claim_18 : decode cL_claim 18 = .ok (.iconst 1, 1) := by decide +kernel
theorem dL_claim_19 : decode cL_claim 19 = .ok (.ireturn, 1) := by decide +kernel
theorem dL_claim_20 : decode cL_claim 20 = .ok (.astore 5, 2) := by decide +kernel
theorem dL_claim_22 : decode cL_claim 22 = .ok (.iconst 2, 1) := by decide +kernel
theorem dL_claim_23 : decode cL_claim 23 = .ok (.ireturn, 1) := by decide +kernel
theorem dL_claim_24 : decode cL_claim 24 = .ok (.astore 5, 2) := by decide +kernel
theorem dL_claim_26 : decode cL_claim 26 = .ok (.iconst 3, 1) := by decide +kernel
theorem dL_claim_27 : decode cL_claim 27 = .ok (.ireturn, 1) := by decide +kernel
theorem dL_claim_28 : decode cL_claim 28 = .ok (.iconst 0, 1) := by decide +kernel
theorem dL_claim_29 : decode cL_claim 29 = .ok (.ireturn, 1) := by decide +kernel
theorem zht_L_claim : zht yL_claim = [(0, 13, 16, 38), (0, 13, 20, 19), (0, 13, 24, 21)] := by decide +kernel
def f_L_claim_0 (a0 : Nat) (i1 : Int32) (i2 : Int32) (i3 : Int32) (a4 : Nat) (M : zM) : Option (Int32 × zM) :=
  if mK M a0 = 9 then
  xc (f_X3_claim a0 i1 i2 i3 M) (fun E_r1 M_r1 =>
  if E_r1 = "java/lang/IndexOutOfBoundsException" then
  some ((1 : Int32), M_r1)
  else
  if E_r1 = "java/lang/IllegalArgumentException" then
  some ((2 : Int32), M_r1)
  else
  if E_r1 = "java/lang/IllegalStateException" then
  some ((3 : Int32), M_r1)
  else
  none) fun w1 Mw1 =>
  (pJ 10 0 Mw1 a4 ((w1.toInt64))).bind fun M4 =>
  some ((0 : Int32), M4)
  else none
set_option maxRecDepth 20000 in
set_option maxHeartbeats 4000000 in
theorem s_L_claim_0 {L : zL} {X : zX} {M0 : zM} {N : Nat × Nat} {Q : State → Prop} {r : Int32 × zM} (hq : vQ L X M0 N Q (some (.int r.1)) r.2) {a0 : Nat} {i1 : Int32} {i2 : Int32} {i3 : Int32} {a4 : Nat} {M : zM} (h : f_L_claim_0 a0 i1 i2 i3 a4 M = some r) : V L X yL_claim cL_claim 6 (some FieldType.int) 8 M0 N Q M 0 [(0, .ref (zad L (a0))), (1, .int (i1)), (2, .int (i2)), (3, .int (i3)), (4, .ref (zad L (a4)))] [] := by
  unfold f_L_claim_0 at h
  refine V_aload dL_claim_0 4 rfl ?_
  refine V_aload_n dL_claim_2 rfl 0 rfl ?_
  refine V_iload_n dL_claim_3 rfl 1 rfl ?_
  refine V_iload_n dL_claim_4 rfl 2 rfl ?_
  refine V_iload_n dL_claim_5 rfl 3 rfl ?_
  replace h := ox h
  obtain ⟨c2, h⟩ := h
  replace h := xcs h
  rcases h with ⟨E_r1, M_r1, e_r1, h⟩ | ⟨w1, Mw1, e_r1, h⟩
  · by_cases c7 : E_r1 = "java/lang/IndexOutOfBoundsException"
    · replace h := (oi h).1 c7
      subst c7
      refine V_callVc (As := [.int (i1), .int (i2), .int (i3)]) (rest := [.ref (zad L (a4))]) (pre := []) (suf := [⟨0, 13, 20, 19⟩, ⟨0, 13, 24, 21⟩]) (x := ⟨0, 13, 16, 38⟩) (c_X3_claim e_r1) (by rw [zht_L_claim]; rfl) (fun _ hz => by cases hz) ⟨by decide, by decide, zk_L_38, zcs_IndexOutOfBoundsException⟩ zc_X3_claim rfl (by decide) rfl (by decide) (Or.inl c2) zm_L_34 (Nat.le_of_ble_eq_true rfl) rfl dL_claim_6 (fun q_r1 => ?_)
      refine V_astore (ls' := [(5, .ref (q_r1)), (0, .ref (zad L (a0))), (1, .int (i1)), (2, .int (i2)), (3, .int (i3)), (4, .ref (zad L (a4)))]) dL_claim_16 (by decide) rfl ?_
      refine V_iconst (v := 1) dL_claim_18 (by decide) ?_
      obtain rfl := Option.some.inj h
      exact V_iret rfl hq dL_claim_19
    · replace h := (oi h).2 c7
      by_cases c6 : E_r1 = "java/lang/IllegalArgumentException"
      · replace h := (oi h).1 c6
        subst c6
        refine V_callVc (As := [.int (i1), .int (i2), .int (i3)]) (rest := [.ref (zad L (a4))]) (pre := [⟨0, 13, 16, 38⟩]) (suf := [⟨0, 13, 24, 21⟩]) (x := ⟨0, 13, 20, 19⟩) (c_X3_claim e_r1) (by rw [zht_L_claim]; rfl) (fun z hz => by
            simp only [List.mem_cons, List.not_mem_nil, or_false] at hz
            rcases hz with rfl
            · exact ⟨by decide, "java/lang/IndexOutOfBoundsException", zk_L_38, by decide⟩) ⟨by decide, by decide, zk_L_19, zcs_IllegalArgumentException⟩ zc_X3_claim rfl (by decide) rfl (by decide) (Or.inl c2) zm_L_34 (Nat.le_of_ble_eq_true rfl) rfl dL_claim_6 (fun q_r1 => ?_)
        refine V_astore (ls' := [(5, .ref (q_r1)), (0, .ref (zad L (a0))), (1, .int (i1)), (2, .int (i2)), (3, .int (i3)), (4, .ref (zad L (a4)))]) dL_claim_20 (by decide) rfl ?_
        refine V_iconst (v := 2) dL_claim_22 (by decide) ?_
        obtain rfl := Option.some.inj h
        exact V_iret rfl hq dL_claim_23
      · replace h := (oi h).2 c6
        by_cases c5 : E_r1 = "java/lang/IllegalStateException"
        · replace h := (oi h).1 c5
          subst c5
          refine V_callVc (As := [.int (i1), .int (i2), .int (i3)]) (rest := [.ref (zad L (a4))]) (pre := [⟨0, 13, 16, 38⟩, ⟨0, 13, 20, 19⟩]) (suf := []) (x := ⟨0, 13, 24, 21⟩) (c_X3_claim e_r1) (by rw [zht_L_claim]; rfl) (fun z hz => by
              simp only [List.mem_cons, List.not_mem_nil, or_false] at hz
              rcases hz with rfl | rfl
              · exact ⟨by decide, "java/lang/IndexOutOfBoundsException", zk_L_38, by decide⟩
              · exact ⟨by decide, "java/lang/IllegalArgumentException", zk_L_19, by decide⟩) ⟨by decide, by decide, zk_L_21, zcs_IllegalStateException⟩ zc_X3_claim rfl (by decide) rfl (by decide) (Or.inl c2) zm_L_34 (Nat.le_of_ble_eq_true rfl) rfl dL_claim_6 (fun q_r1 => ?_)
          refine V_astore (ls' := [(5, .ref (q_r1)), (0, .ref (zad L (a0))), (1, .int (i1)), (2, .int (i2)), (3, .int (i3)), (4, .ref (zad L (a4)))]) dL_claim_24 (by decide) rfl ?_
          refine V_iconst (v := 3) dL_claim_26 (by decide) ?_
          obtain rfl := Option.some.inj h
          exact V_iret rfl hq dL_claim_27
        · replace h := (oi h).2 c5
          cases h
  · refine V_callVx_I (As := [.int (i1), .int (i2), .int (i3)]) (rest := [.ref (zad L (a4))]) (c_X3_claim e_r1) zc_X3_claim rfl (by decide) rfl (by decide) (Or.inl c2) zm_L_34 (Nat.le_of_ble_eq_true rfl) rfl dL_claim_6 ?_
    refine V_pc (pc' := 9) rfl ?_
    refine V_i2l dL_claim_9 ?_
    replace h := ob h
    obtain ⟨M4, e_M4, h⟩ := h
    refine V_putJN (ref := "") zf_10_0 zlN_L_13 rfl rfl e_M4 dL_claim_10 ?_
    refine V_pc (pc' := 13) rfl ?_
    refine V_goto (tgt := 28) dL_claim_13 (by decide) ?_
    refine V_iconst (v := 0) dL_claim_28 (by decide) ?_
    obtain rfl := Option.some.inj h
    exact V_iret rfl hq dL_claim_29
def f_L_claim (a0 : Nat) (i1 : Int32) (i2 : Int32) (i3 : Int32) (a4 : Nat) (M : zM) : Option (Int32 × zM) := f_L_claim_0 a0 i1 i2 i3 a4 M
theorem c_L_claim {L : zL} {l : Launch} {a0 : Nat} {i1 : Int32} {i2 : Int32} {i3 : Int32} {a4 : Nat} {M : zM} {r : Int32 × zM} (h : f_L_claim a0 i1 i2 i3 a4 M = some r) : CH L l yL_claim cL_claim 6 (some FieldType.int) [(0, 13, 16, 38), (0, 13, 20, 19), (0, 13, 24, 21)] 8 M [.ref (zad L (a0)), .int (i1), .int (i2), .int (i3), .ref (zad L (a4))] (some (.int r.1)) r.2 :=
  CH.of ⟨by decide +kernel, zht_L_claim⟩ (Nat.le_of_ble_eq_true rfl) fun X Q hq => s_L_claim_0 hq h
/-! WindsparlourLaw.four(LWindsparlour;ILWindsparlourLaw$Out;)I -/
theorem dL_four_0 : decode cL_four 0 = .ok (.aload_n 2, 1) := by decide +kernel
theorem dL_four_1 : decode cL_four 1 = .ok (.aload_n 0, 1) := by decide +kernel
theorem dL_four_2 : decode cL_four 2 = .ok (.iload_n 1, 1) := by decide +kernel
theorem dL_four_3 : decode cL_four 3 = .ok (.invokevirtual 40, 3) := by decide +kernel
theorem dL_four_6 : decode cL_four 6 = .ok (.i2l, 1) := by decide +kernel
theorem dL_four_7 : decode cL_four 7 = .ok (.putfield 13, 3) := by decide +kernel
theorem dL_four_10 : decode cL_four 10 = .ok (.goto 9, 3) := by decide +kernel
theorem dL_four_13 : decode cL_four 13 = .ok (.astore_n 3, 1) := by decide +kernel
theorem dL_four_14 : decode cL_four 14 = .ok (.iconst 1, 1) := by decide +kernel
theorem dL_four_15 : decode cL_four 15 = .ok (.ireturn, 1) := by decide +kernel
theorem dL_four_16 : decode cL_four 16 = .ok (.astore_n 3, 1) := by decide +kernel
theorem dL_four_17 : decode cL_four 17 = .ok (.iconst 2, 1) := by decide +kernel
theorem dL_four_18 : decode cL_four 18 = .ok (.ireturn, 1) := by decide +kernel
theorem dL_four_19 : decode cL_four 19 = .ok (.iconst 0, 1) := by decide +kernel
theorem dL_four_20 : decode cL_four 20 = .ok (.ireturn, 1) := by decide +kernel
theorem zht_L_four : zht yL_four = [(0, 10, 13, 19), (0, 10, 16, 21)] := by decide +kernel
def f_L_four_0 (a0 : Nat) (i1 : Int32) (a2 : Nat) (M : zM) : Option (Int32 × zM) :=
  if mK M a0 = 9 then
  xc (f_X3_four a0 i1 M) (fun E_r1 M_r1 =>
  if E_r1 = "java/lang/IllegalArgumentException" then
  some ((1 : Int32), M_r1)
  else
  if E_r1 = "java/lang/IllegalStateException" then
  some ((2 : Int32), M_r1)
  else
  none) fun w1 Mw1 =>
  (pJ 10 0 Mw1 a2 ((w1.toInt64))).bind fun M4 =>
  some ((0 : Int32), M4)
  else none
set_option maxRecDepth 20000 in
set_option maxHeartbeats 4000000 in
theorem s_L_four_0 {L : zL} {X : zX} {M0 : zM} {N : Nat × Nat} {Q : State → Prop} {r : Int32 × zM} (hq : vQ L X M0 N Q (some (.int r.1)) r.2) {a0 : Nat} {i1 : Int32} {a2 : Nat} {M : zM} (h : f_L_four_0 a0 i1 a2 M = some r) : V L X yL_four cL_four 4 (some FieldType.int) 8 M0 N Q M 0 [(0, .ref (zad L (a0))), (1, .int (i1)), (2, .ref (zad L (a2)))] [] := by
  unfold f_L_four_0 at h
  refine V_aload_n dL_four_0 rfl 2 rfl ?_
  refine V_aload_n dL_four_1 rfl 0 rfl ?_
  refine V_iload_n dL_four_2 rfl 1 rfl ?_
  replace h := ox h
  obtain ⟨c2, h⟩ := h
  replace h := xcs h
  rcases h with ⟨E_r1, M_r1, e_r1, h⟩ | ⟨w1, Mw1, e_r1, h⟩
  · by_cases c6 : E_r1 = "java/lang/IllegalArgumentException"
    · replace h := (oi h).1 c6
      subst c6
      refine V_callVc (As := [.int (i1)]) (rest := [.ref (zad L (a2))]) (pre := []) (suf := [⟨0, 10, 16, 21⟩]) (x := ⟨0, 10, 13, 19⟩) (c_X3_four e_r1) (by rw [zht_L_four]; rfl) (fun _ hz => by cases hz) ⟨by decide, by decide, zk_L_19, zcs_IllegalArgumentException⟩ zc_X3_four rfl (by decide) rfl (by decide) (Or.inl c2) zm_L_40 (Nat.le_of_ble_eq_true rfl) rfl dL_four_3 (fun q_r1 => ?_)
      refine V_astore_n (ls' := [(3, .ref (q_r1)), (0, .ref (zad L (a0))), (1, .int (i1)), (2, .ref (zad L (a2)))]) dL_four_13 rfl (by decide) rfl ?_
      refine V_iconst (v := 1) dL_four_14 (by decide) ?_
      obtain rfl := Option.some.inj h
      exact V_iret rfl hq dL_four_15
    · replace h := (oi h).2 c6
      by_cases c5 : E_r1 = "java/lang/IllegalStateException"
      · replace h := (oi h).1 c5
        subst c5
        refine V_callVc (As := [.int (i1)]) (rest := [.ref (zad L (a2))]) (pre := [⟨0, 10, 13, 19⟩]) (suf := []) (x := ⟨0, 10, 16, 21⟩) (c_X3_four e_r1) (by rw [zht_L_four]; rfl) (fun z hz => by
            simp only [List.mem_cons, List.not_mem_nil, or_false] at hz
            rcases hz with rfl
            · exact ⟨by decide, "java/lang/IllegalArgumentException", zk_L_19, by decide⟩) ⟨by decide, by decide, zk_L_21, zcs_IllegalStateException⟩ zc_X3_four rfl (by decide) rfl (by decide) (Or.inl c2) zm_L_40 (Nat.le_of_ble_eq_true rfl) rfl dL_four_3 (fun q_r1 => ?_)
        refine V_astore_n (ls' := [(3, .ref (q_r1)), (0, .ref (zad L (a0))), (1, .int (i1)), (2, .ref (zad L (a2)))]) dL_four_16 rfl (by decide) rfl ?_
        refine V_iconst (v := 2) dL_four_17 (by decide) ?_
        obtain rfl := Option.some.inj h
        exact V_iret rfl hq dL_four_18
      · replace h := (oi h).2 c5
        cases h
  · refine V_callVx_I (As := [.int (i1)]) (rest := [.ref (zad L (a2))]) (c_X3_four e_r1) zc_X3_four rfl (by decide) rfl (by decide) (Or.inl c2) zm_L_40 (Nat.le_of_ble_eq_true rfl) rfl dL_four_3 ?_
    refine V_pc (pc' := 6) rfl ?_
    refine V_i2l dL_four_6 ?_
    replace h := ob h
    obtain ⟨M4, e_M4, h⟩ := h
    refine V_putJN (ref := "") zf_10_0 zlN_L_13 rfl rfl e_M4 dL_four_7 ?_
    refine V_pc (pc' := 10) rfl ?_
    refine V_goto (tgt := 19) dL_four_10 (by decide) ?_
    refine V_iconst (v := 0) dL_four_19 (by decide) ?_
    obtain rfl := Option.some.inj h
    exact V_iret rfl hq dL_four_20
def f_L_four (a0 : Nat) (i1 : Int32) (a2 : Nat) (M : zM) : Option (Int32 × zM) := f_L_four_0 a0 i1 a2 M
theorem c_L_four {L : zL} {l : Launch} {a0 : Nat} {i1 : Int32} {a2 : Nat} {M : zM} {r : Int32 × zM} (h : f_L_four a0 i1 a2 M = some r) : CH L l yL_four cL_four 4 (some FieldType.int) [(0, 10, 13, 19), (0, 10, 16, 21)] 8 M [.ref (zad L (a0)), .int (i1), .ref (zad L (a2))] (some (.int r.1)) r.2 :=
  CH.of ⟨by decide +kernel, zht_L_four⟩ (Nat.le_of_ble_eq_true rfl) fun X Q hq => s_L_four_0 hq h
/-! WindsparlourLaw.pass(LWindsparlour;LWindsparlourLaw$Out;)I -/
theorem dL_pass_0 : decode cL_pass 0 = .ok (.aload_n 1, 1) := by decide +kernel
theorem dL_pass_1 : decode cL_pass 1 = .ok (.aload_n 0, 1) := by decide +kernel
theorem dL_pass_2 : decode cL_pass 2 = .ok (.invokevirtual 43, 3) := by decide +kernel
theorem dL_pass_5 : decode cL_pass 5 = .ok (.i2l, 1) := by decide +kernel
theorem dL_pass_6 : decode cL_pass 6 = .ok (.putfield 13, 3) := by decide +kernel
theorem dL_pass_9 : decode cL_pass 9 = .ok (.goto 6, 3) := by decide +kernel
theorem dL_pass_12 : decode cL_pass 12 = .ok (.astore_n 2, 1) := by decide +kernel
theorem dL_pass_13 : decode cL_pass 13 = .ok (.iconst 1, 1) := by decide +kernel
theorem dL_pass_14 : decode cL_pass 14 = .ok (.ireturn, 1) := by decide +kernel
theorem dL_pass_15 : decode cL_pass 15 = .ok (.iconst 0, 1) := by decide +kernel
theorem dL_pass_16 : decode cL_pass 16 = .ok (.ireturn, 1) := by decide +kernel
theorem zht_L_pass : zht yL_pass = [(0, 9, 12, 21)] := by decide +kernel
def f_L_pass_0 (a0 : Nat) (a1 : Nat) (M : zM) : Option (Int32 × zM) :=
  if mK M a0 = 9 then
  xc (f_X3_pass a0 M) (fun E_r1 M_r1 =>
  if E_r1 = "java/lang/IllegalStateException" then
  some ((1 : Int32), M_r1)
  else
  none) fun w1 Mw1 =>
  (pJ 10 0 Mw1 a1 ((w1.toInt64))).bind fun M4 =>
  some ((0 : Int32), M4)
  else none
set_option maxRecDepth 20000 in
set_option maxHeartbeats 4000000 in
theorem s_L_pass_0 {L : zL} {X : zX} {M0 : zM} {N : Nat × Nat} {Q : State → Prop} {r : Int32 × zM} (hq : vQ L X M0 N Q (some (.int r.1)) r.2) {a0 : Nat} {a1 : Nat} {M : zM} (h : f_L_pass_0 a0 a1 M = some r) : V L X yL_pass cL_pass 3 (some FieldType.int) 8 M0 N Q M 0 [(0, .ref (zad L (a0))), (1, .ref (zad L (a1)))] [] := by
  unfold f_L_pass_0 at h
  refine V_aload_n dL_pass_0 rfl 1 rfl ?_
  refine V_aload_n dL_pass_1 rfl 0 rfl ?_
  replace h := ox h
  obtain ⟨c2, h⟩ := h
  replace h := xcs h
  rcases h with ⟨E_r1, M_r1, e_r1, h⟩ | ⟨w1, Mw1, e_r1, h⟩
  · by_cases c5 : E_r1 = "java/lang/IllegalStateException"
    · replace h := (oi h).1 c5
      subst c5
      refine V_callVc (As := []) (rest := [.ref (zad L (a1))]) (pre := []) (suf := []) (x := ⟨0, 9, 12, 21⟩) (c_X3_pass e_r1) (by rw [zht_L_pass]; rfl) (fun _ hz => by cases hz) ⟨by decide, by decide, zk_L_21, zcs_IllegalStateException⟩ zc_X3_pass rfl (by decide) rfl (by decide) (Or.inl c2) zm_L_43 (Nat.le_of_ble_eq_true rfl) rfl dL_pass_2 (fun q_r1 => ?_)
      refine V_astore_n (ls' := [(2, .ref (q_r1)), (0, .ref (zad L (a0))), (1, .ref (zad L (a1)))]) dL_pass_12 rfl (by decide) rfl ?_
      refine V_iconst (v := 1) dL_pass_13 (by decide) ?_
      obtain rfl := Option.some.inj h
      exact V_iret rfl hq dL_pass_14
    · replace h := (oi h).2 c5
      cases h
  · refine V_callVx_I (As := []) (rest := [.ref (zad L (a1))]) (c_X3_pass e_r1) zc_X3_pass rfl (by decide) rfl (by decide) (Or.inl c2) zm_L_43 (Nat.le_of_ble_eq_true rfl) rfl dL_pass_2 ?_
    refine V_pc (pc' := 5) rfl ?_
    refine V_i2l dL_pass_5 ?_
    replace h := ob h
    obtain ⟨M4, e_M4, h⟩ := h
    refine V_putJN (ref := "") zf_10_0 zlN_L_13 rfl rfl e_M4 dL_pass_6 ?_
    refine V_pc (pc' := 9) rfl ?_
    refine V_goto (tgt := 15) dL_pass_9 (by decide) ?_
    refine V_iconst (v := 0) dL_pass_15 (by decide) ?_
    obtain rfl := Option.some.inj h
    exact V_iret rfl hq dL_pass_16
def f_L_pass (a0 : Nat) (a1 : Nat) (M : zM) : Option (Int32 × zM) := f_L_pass_0 a0 a1 M
theorem c_L_pass {L : zL} {l : Launch} {a0 : Nat} {a1 : Nat} {M : zM} {r : Int32 × zM} (h : f_L_pass a0 a1 M = some r) : CH L l yL_pass cL_pass 3 (some FieldType.int) [(0, 9, 12, 21)] 8 M [.ref (zad L (a0)), .ref (zad L (a1))] (some (.int r.1)) r.2 :=
  CH.of ⟨by decide +kernel, zht_L_pass⟩ (Nat.le_of_ble_eq_true rfl) fun X Q hq => s_L_pass_0 hq h
/-! WindsparlourLaw.win(LWindsparlour;ILWindsparlourLaw$Out;)I -/
theorem dL_win_0 : decode cL_win 0 = .ok (.aload_n 2, 1) := by decide +kernel
theorem dL_win_1 : decode cL_win 1 = .ok (.aload_n 0, 1) := by decide +kernel
theorem dL_win_2 : decode cL_win 2 = .ok (.iload_n 1, 1) := by decide +kernel
theorem dL_win_3 : decode cL_win 3 = .ok (.invokevirtual 46, 3) := by decide +kernel
theorem dL_win_6 : decode cL_win 6 = .ok (.i2l, 1) := by decide +kernel
theorem dL_win_7 : decode cL_win 7 = .ok (.putfield 13, 3) := by decide +kernel
theorem dL_win_10 : decode cL_win 10 = .ok (.goto 9, 3) := by decide +kernel
theorem dL_win_13 : decode cL_win 13 = .ok (.astore_n 3, 1) := by decide +kernel
theorem dL_win_14 : decode cL_win 14 = .ok (.iconst 1, 1) := by decide +kernel
theorem dL_win_15 : decode cL_win 15 = .ok (.ireturn, 1) := by decide +kernel
theorem dL_win_16 : decode cL_win 16 = .ok (.astore_n 3, 1) := by decide +kernel
theorem dL_win_17 : decode cL_win 17 = .ok (.iconst 2, 1) := by decide +kernel
theorem dL_win_18 : decode cL_win 18 = .ok (.ireturn, 1) := by decide +kernel
theorem dL_win_19 : decode cL_win 19 = .ok (.iconst 0, 1) := by decide +kernel
theorem dL_win_20 : decode cL_win 20 = .ok (.ireturn, 1) := by decide +kernel
theorem zht_L_win : zht yL_win = [(0, 10, 13, 38), (0, 10, 16, 21)] := by decide +kernel
def f_L_win_0 (a0 : Nat) (i1 : Int32) (a2 : Nat) (M : zM) : Option (Int32 × zM) :=
  if mK M a0 = 9 then
  xc (f_X3_win a0 i1 M) (fun E_r1 M_r1 =>
  if E_r1 = "java/lang/IndexOutOfBoundsException" then
  some ((1 : Int32), M_r1)
  else
  if E_r1 = "java/lang/IllegalStateException" then
  some ((2 : Int32), M_r1)
  else
  none) fun w1 Mw1 =>
  (pJ 10 0 Mw1 a2 ((w1.toInt64))).bind fun M4 =>
  some ((0 : Int32), M4)
  else none
set_option maxRecDepth 20000 in
set_option maxHeartbeats 4000000 in
theorem s_L_win_0 {L : zL} {X : zX} {M0 : zM} {N : Nat × Nat} {Q : State → Prop} {r : Int32 × zM} (hq : vQ L X M0 N Q (some (.int r.1)) r.2) {a0 : Nat} {i1 : Int32} {a2 : Nat} {M : zM} (h : f_L_win_0 a0 i1 a2 M = some r) : V L X yL_win cL_win 4 (some FieldType.int) 8 M0 N Q M 0 [(0, .ref (zad L (a0))), (1, .int (i1)), (2, .ref (zad L (a2)))] [] := by
  unfold f_L_win_0 at h
  refine V_aload_n dL_win_0 rfl 2 rfl ?_
  refine V_aload_n dL_win_1 rfl 0 rfl ?_
  refine V_iload_n dL_win_2 rfl 1 rfl ?_
  replace h := ox h
  obtain ⟨c2, h⟩ := h
  replace h := xcs h
  rcases h with ⟨E_r1, M_r1, e_r1, h⟩ | ⟨w1, Mw1, e_r1, h⟩
  · by_cases c6 : E_r1 = "java/lang/IndexOutOfBoundsException"
    · replace h := (oi h).1 c6
      subst c6
      refine V_callVc (As := [.int (i1)]) (rest := [.ref (zad L (a2))]) (pre := []) (suf := [⟨0, 10, 16, 21⟩]) (x := ⟨0, 10, 13, 38⟩) (c_X3_win e_r1) (by rw [zht_L_win]; rfl) (fun _ hz => by cases hz) ⟨by decide, by decide, zk_L_38, zcs_IndexOutOfBoundsException⟩ zc_X3_win rfl (by decide) rfl (by decide) (Or.inl c2) zm_L_46 (Nat.le_of_ble_eq_true rfl) rfl dL_win_3 (fun q_r1 => ?_)
      refine V_astore_n (ls' := [(3, .ref (q_r1)), (0, .ref (zad L (a0))), (1, .int (i1)), (2, .ref (zad L (a2)))]) dL_win_13 rfl (by decide) rfl ?_
      refine V_iconst (v := 1) dL_win_14 (by decide) ?_
      obtain rfl := Option.some.inj h
      exact V_iret rfl hq dL_win_15
    · replace h := (oi h).2 c6
      by_cases c5 : E_r1 = "java/lang/IllegalStateException"
      · replace h := (oi h).1 c5
        subst c5
        refine V_callVc (As := [.int (i1)]) (rest := [.ref (zad L (a2))]) (pre := [⟨0, 10, 13, 38⟩]) (suf := []) (x := ⟨0, 10, 16, 21⟩) (c_X3_win e_r1) (by rw [zht_L_win]; rfl) (fun z hz => by
            simp only [List.mem_cons, List.not_mem_nil, or_false] at hz
            rcases hz with rfl
            · exact ⟨by decide, "java/lang/IndexOutOfBoundsException", zk_L_38, by decide⟩) ⟨by decide, by decide, zk_L_21, zcs_IllegalStateException⟩ zc_X3_win rfl (by decide) rfl (by decide) (Or.inl c2) zm_L_46 (Nat.le_of_ble_eq_true rfl) rfl dL_win_3 (fun q_r1 => ?_)
        refine V_astore_n (ls' := [(3, .ref (q_r1)), (0, .ref (zad L (a0))), (1, .int (i1)), (2, .ref (zad L (a2)))]) dL_win_16 rfl (by decide) rfl ?_
        refine V_iconst (v := 2) dL_win_17 (by decide) ?_
        obtain rfl := Option.some.inj h
        exact V_iret rfl hq dL_win_18
      · replace h := (oi h).2 c5
        cases h
  · refine V_callVx_I (As := [.int (i1)]) (rest := [.ref (zad L (a2))]) (c_X3_win e_r1) zc_X3_win rfl (by decide) rfl (by decide) (Or.inl c2) zm_L_46 (Nat.le_of_ble_eq_true rfl) rfl dL_win_3 ?_
    refine V_pc (pc' := 6) rfl ?_
    refine V_i2l dL_win_6 ?_
    replace h := ob h
    obtain ⟨M4, e_M4, h⟩ := h
    refine V_putJN (ref := "") zf_10_0 zlN_L_13 rfl rfl e_M4 dL_win_7 ?_
    refine V_pc (pc' := 10) rfl ?_
    refine V_goto (tgt := 19) dL_win_10 (by decide) ?_
    refine V_iconst (v := 0) dL_win_19 (by decide) ?_
    obtain rfl := Option.some.inj h
    exact V_iret rfl hq dL_win_20
def f_L_win (a0 : Nat) (i1 : Int32) (a2 : Nat) (M : zM) : Option (Int32 × zM) := f_L_win_0 a0 i1 a2 M
theorem c_L_win {L : zL} {l : Launch} {a0 : Nat} {i1 : Int32} {a2 : Nat} {M : zM} {r : Int32 × zM} (h : f_L_win a0 i1 a2 M = some r) : CH L l yL_win cL_win 4 (some FieldType.int) [(0, 10, 13, 38), (0, 10, 16, 21)] 8 M [.ref (zad L (a0)), .int (i1), .ref (zad L (a2))] (some (.int r.1)) r.2 :=
  CH.of ⟨by decide +kernel, zht_L_win⟩ (Nat.le_of_ble_eq_true rfl) fun X Q hq => s_L_win_0 hq h
/-! WindsparlourLaw.has(LWindsparlour;IILWindsparlourLaw$Out;)I -/
theorem dL_has_0 : decode cL_has 0 = .ok (.aload_n 3, 1) := by decide +kernel
theorem dL_has_1 : decode cL_has 1 = .ok (.aload_n 0, 1) := by decide +kernel
theorem dL_has_2 : decode cL_has 2 = .ok (.iload_n 1, 1) := by decide +kernel
theorem dL_has_3 : decode cL_has 3 = .ok (.iload_n 2, 1) := by decide +kernel
theorem dL_has_4 : decode cL_has 4 = .ok (.invokevirtual 49, 3) := by decide +kernel
theorem dL_has_7 : decode cL_has 7 = .ok (.i2l, 1) := by decide +kernel
theorem dL_has_8 : decode cL_has 8 = .ok (.putfield 13, 3) := by decide +kernel
theorem dL_has_11 : decode cL_has 11 = .ok (.goto 11, 3) := by decide +kernel
theorem dL_has_14 : decode cL_has 14 = .ok (.astore 4, 2) := by decide +kernel
theorem dL_has_16 : decode cL_has 16 = .ok (.iconst 1, 1) := by decide +kernel
theorem dL_has_17 : decode cL_has 17 = .ok (.ireturn, 1) := by decide +kernel
theorem dL_has_18 : decode cL_has 18 = .ok (.astore 4, 2) := by decide +kernel
theorem dL_has_20 : decode cL_has 20 = .ok (.iconst 2, 1) := by decide +kernel
theorem dL_has_21 : decode cL_has 21 = .ok (.ireturn, 1) := by decide +kernel
theorem dL_has_22 : decode cL_has 22 = .ok (.iconst 0, 1) := by decide +kernel
theorem dL_has_23 : decode cL_has 23 = .ok (.ireturn, 1) := by decide +kernel
theorem zht_L_has : zht yL_has = [(0, 11, 14, 38), (0, 11, 18, 19)] := by decide +kernel
def f_L_has_0 (a0 : Nat) (i1 : Int32) (i2 : Int32) (a3 : Nat) (M : zM) : Option (Int32 × zM) :=
  if mK M a0 = 9 then
  xc (f_X3_has a0 i1 i2 M) (fun E_r1 M_r1 =>
  if E_r1 = "java/lang/IndexOutOfBoundsException" then
  some ((1 : Int32), M_r1)
  else
  if E_r1 = "java/lang/IllegalArgumentException" then
  some ((2 : Int32), M_r1)
  else
  none) fun w1 Mw1 =>
  (pJ 10 0 Mw1 a3 ((w1.toInt64))).bind fun M4 =>
  some ((0 : Int32), M4)
  else none
set_option maxRecDepth 20000 in
set_option maxHeartbeats 4000000 in
theorem s_L_has_0 {L : zL} {X : zX} {M0 : zM} {N : Nat × Nat} {Q : State → Prop} {r : Int32 × zM} (hq : vQ L X M0 N Q (some (.int r.1)) r.2) {a0 : Nat} {i1 : Int32} {i2 : Int32} {a3 : Nat} {M : zM} (h : f_L_has_0 a0 i1 i2 a3 M = some r) : V L X yL_has cL_has 5 (some FieldType.int) 8 M0 N Q M 0 [(0, .ref (zad L (a0))), (1, .int (i1)), (2, .int (i2)), (3, .ref (zad L (a3)))] [] := by
  unfold f_L_has_0 at h
  refine V_aload_n dL_has_0 rfl 3 rfl ?_
  refine V_aload_n dL_has_1 rfl 0 rfl ?_
  refine V_iload_n dL_has_2 rfl 1 rfl ?_
  refine V_iload_n dL_has_3 rfl 2 rfl ?_
  replace h := ox h
  obtain ⟨c2, h⟩ := h
  replace h := xcs h
  rcases h with ⟨E_r1, M_r1, e_r1, h⟩ | ⟨w1, Mw1, e_r1, h⟩
  · by_cases c6 : E_r1 = "java/lang/IndexOutOfBoundsException"
    · replace h := (oi h).1 c6
      subst c6
      refine V_callVc (As := [.int (i1), .int (i2)]) (rest := [.ref (zad L (a3))]) (pre := []) (suf := [⟨0, 11, 18, 19⟩]) (x := ⟨0, 11, 14, 38⟩) (c_X3_has e_r1) (by rw [zht_L_has]; rfl) (fun _ hz => by cases hz) ⟨by decide, by decide, zk_L_38, zcs_IndexOutOfBoundsException⟩ zc_X3_has rfl (by decide) rfl (by decide) (Or.inl c2) zm_L_49 (Nat.le_of_ble_eq_true rfl) rfl dL_has_4 (fun q_r1 => ?_)
      refine V_astore (ls' := [(4, .ref (q_r1)), (0, .ref (zad L (a0))), (1, .int (i1)), (2, .int (i2)), (3, .ref (zad L (a3)))]) dL_has_14 (by decide) rfl ?_
      refine V_iconst (v := 1) dL_has_16 (by decide) ?_
      obtain rfl := Option.some.inj h
      exact V_iret rfl hq dL_has_17
    · replace h := (oi h).2 c6
      by_cases c5 : E_r1 = "java/lang/IllegalArgumentException"
      · replace h := (oi h).1 c5
        subst c5
        refine V_callVc (As := [.int (i1), .int (i2)]) (rest := [.ref (zad L (a3))]) (pre := [⟨0, 11, 14, 38⟩]) (suf := []) (x := ⟨0, 11, 18, 19⟩) (c_X3_has e_r1) (by rw [zht_L_has]; rfl) (fun z hz => by
            simp only [List.mem_cons, List.not_mem_nil, or_false] at hz
            rcases hz with rfl
            · exact ⟨by decide, "java/lang/IndexOutOfBoundsException", zk_L_38, by decide⟩) ⟨by decide, by decide, zk_L_19, zcs_IllegalArgumentException⟩ zc_X3_has rfl (by decide) rfl (by decide) (Or.inl c2) zm_L_49 (Nat.le_of_ble_eq_true rfl) rfl dL_has_4 (fun q_r1 => ?_)
        refine V_astore (ls' := [(4, .ref (q_r1)), (0, .ref (zad L (a0))), (1, .int (i1)), (2, .int (i2)), (3, .ref (zad L (a3)))]) dL_has_18 (by decide) rfl ?_
        refine V_iconst (v := 2) dL_has_20 (by decide) ?_
        obtain rfl := Option.some.inj h
        exact V_iret rfl hq dL_has_21
      · replace h := (oi h).2 c5
        cases h
  · refine V_callVx_I (As := [.int (i1), .int (i2)]) (rest := [.ref (zad L (a3))]) (c_X3_has e_r1) zc_X3_has rfl (by decide) rfl (by decide) (Or.inl c2) zm_L_49 (Nat.le_of_ble_eq_true rfl) rfl dL_has_4 ?_
    refine V_pc (pc' := 7) rfl ?_
    refine V_i2l dL_has_7 ?_
    replace h := ob h
    obtain ⟨M4, e_M4, h⟩ := h
    refine V_putJN (ref := "") zf_10_0 zlN_L_13 rfl rfl e_M4 dL_has_8 ?_
    refine V_pc (pc' := 11) rfl ?_
    refine V_goto (tgt := 22) dL_has_11 (by decide) ?_
    refine V_iconst (v := 0) dL_has_22 (by decide) ?_
    obtain rfl := Option.some.inj h
    exact V_iret rfl hq dL_has_23
def f_L_has (a0 : Nat) (i1 : Int32) (i2 : Int32) (a3 : Nat) (M : zM) : Option (Int32 × zM) := f_L_has_0 a0 i1 i2 a3 M
theorem c_L_has {L : zL} {l : Launch} {a0 : Nat} {i1 : Int32} {i2 : Int32} {a3 : Nat} {M : zM} {r : Int32 × zM} (h : f_L_has a0 i1 i2 a3 M = some r) : CH L l yL_has cL_has 5 (some FieldType.int) [(0, 11, 14, 38), (0, 11, 18, 19)] 8 M [.ref (zad L (a0)), .int (i1), .int (i2), .ref (zad L (a3))] (some (.int r.1)) r.2 :=
  CH.of ⟨by decide +kernel, zht_L_has⟩ (Nat.le_of_ble_eq_true rfl) fun X Q hq => s_L_has_0 hq h
/-! WindsparlourLaw.ofPlayer(LWindsparlour;IILWindsparlourLaw$Out;)I -/
theorem dL_ofPlayer_0 : decode cL_ofPlayer 0 = .ok (.aload_n 3, 1) := by decide +kernel
theorem dL_ofPlayer_1 : decode cL_ofPlayer 1 = .ok (.aload_n 0, 1) := by decide +kernel
theorem dL_ofPlayer_2 : decode cL_ofPlayer 2 = .ok (.iload_n 1, 1) := by decide +kernel
theorem dL_ofPlayer_3 : decode cL_ofPlayer 3 = .ok (.iload_n 2, 1) := by decide +kernel
theorem dL_ofPlayer_4 : decode cL_ofPlayer 4 = .ok (.invokevirtual 52, 3) := by decide +kernel
theorem dL_ofPlayer_7 : decode cL_ofPlayer 7 = .ok (.i2l, 1) := by decide +kernel
theorem dL_ofPlayer_8 : decode cL_ofPlayer 8 = .ok (.putfield 13, 3) := by decide +kernel
theorem dL_ofPlayer_11 : decode cL_ofPlayer 11 = .ok (.goto 11, 3) := by decide +kernel
theorem dL_ofPlayer_14 : decode cL_ofPlayer 14 = .ok (.astore 4, 2) := by decide +kernel
theorem dL_ofPlayer_16 : decode cL_ofPlayer 16 = .ok (.iconst 1, 1) := by decide +kernel
theorem dL_ofPlayer_17 : decode cL_ofPlayer 17 = .ok (.ireturn, 1) := by decide +kernel
theorem dL_ofPlayer_18 : decode cL_ofPlayer 18 = .ok (.astore 4, 2) := by decide +kernel
theorem dL_ofPlayer_20 : decode cL_ofPlayer 20 = .ok (.iconst 2, 1) := by decide +kernel
theorem dL_ofPlayer_21 : decode cL_ofPlayer 21 = .ok (.ireturn, 1) := by decide +kernel
theorem dL_ofPlayer_22 : decode cL_ofPlayer 22 = .ok (.iconst 0, 1) := by decide +kernel
theorem dL_ofPlayer_23 : decode cL_ofPlayer 23 = .ok (.ireturn, 1) := by decide +kernel
theorem zht_L_ofPlayer : zht yL_ofPlayer = [(0, 11, 14, 38), (0, 11, 18, 19)] := by decide +kernel
def f_L_ofPlayer_0 (a0 : Nat) (i1 : Int32) (i2 : Int32) (a3 : Nat) (M : zM) : Option (Int32 × zM) :=
  if mK M a0 = 9 then
  xc (f_X3_ofPlayer a0 i1 i2 M) (fun E_r1 M_r1 =>
  if E_r1 = "java/lang/IndexOutOfBoundsException" then
  some ((1 : Int32), M_r1)
  else
  if E_r1 = "java/lang/IllegalArgumentException" then
  some ((2 : Int32), M_r1)
  else
  none) fun w1 Mw1 =>
  (pJ 10 0 Mw1 a3 ((w1.toInt64))).bind fun M4 =>
  some ((0 : Int32), M4)
  else none
set_option maxRecDepth 20000 in
set_option maxHeartbeats 4000000 in
theorem s_L_ofPlayer_0 {L : zL} {X : zX} {M0 : zM} {N : Nat × Nat} {Q : State → Prop} {r : Int32 × zM} (hq : vQ L X M0 N Q (some (.int r.1)) r.2) {a0 : Nat} {i1 : Int32} {i2 : Int32} {a3 : Nat} {M : zM} (h : f_L_ofPlayer_0 a0 i1 i2 a3 M = some r) : V L X yL_ofPlayer cL_ofPlayer 5 (some FieldType.int) 70 M0 N Q M 0 [(0, .ref (zad L (a0))), (1, .int (i1)), (2, .int (i2)), (3, .ref (zad L (a3)))] [] := by
  unfold f_L_ofPlayer_0 at h
  refine V_aload_n dL_ofPlayer_0 rfl 3 rfl ?_
  refine V_aload_n dL_ofPlayer_1 rfl 0 rfl ?_
  refine V_iload_n dL_ofPlayer_2 rfl 1 rfl ?_
  refine V_iload_n dL_ofPlayer_3 rfl 2 rfl ?_
  replace h := ox h
  obtain ⟨c2, h⟩ := h
  replace h := xcs h
  rcases h with ⟨E_r1, M_r1, e_r1, h⟩ | ⟨w1, Mw1, e_r1, h⟩
  · by_cases c6 : E_r1 = "java/lang/IndexOutOfBoundsException"
    · replace h := (oi h).1 c6
      subst c6
      refine V_callVc (As := [.int (i1), .int (i2)]) (rest := [.ref (zad L (a3))]) (pre := []) (suf := [⟨0, 11, 18, 19⟩]) (x := ⟨0, 11, 14, 38⟩) (c_X3_ofPlayer e_r1) (by rw [zht_L_ofPlayer]; rfl) (fun _ hz => by cases hz) ⟨by decide, by decide, zk_L_38, zcs_IndexOutOfBoundsException⟩ zc_X3_ofPlayer rfl (by decide) rfl (by decide) (Or.inl c2) zm_L_52 (Nat.le_of_ble_eq_true rfl) rfl dL_ofPlayer_4 (fun q_r1 => ?_)
      refine V_astore (ls' := [(4, .ref (q_r1)), (0, .ref (zad L (a0))), (1, .int (i1)), (2, .int (i2)), (3, .ref (zad L (a3)))]) dL_ofPlayer_14 (by decide) rfl ?_
      refine V_iconst (v := 1) dL_ofPlayer_16 (by decide) ?_
      obtain rfl := Option.some.inj h
      exact V_iret rfl hq dL_ofPlayer_17
    · replace h := (oi h).2 c6
      by_cases c5 : E_r1 = "java/lang/IllegalArgumentException"
      · replace h := (oi h).1 c5
        subst c5
        refine V_callVc (As := [.int (i1), .int (i2)]) (rest := [.ref (zad L (a3))]) (pre := [⟨0, 11, 14, 38⟩]) (suf := []) (x := ⟨0, 11, 18, 19⟩) (c_X3_ofPlayer e_r1) (by rw [zht_L_ofPlayer]; rfl) (fun z hz => by
            simp only [List.mem_cons, List.not_mem_nil, or_false] at hz
            rcases hz with rfl
            · exact ⟨by decide, "java/lang/IndexOutOfBoundsException", zk_L_38, by decide⟩) ⟨by decide, by decide, zk_L_19, zcs_IllegalArgumentException⟩ zc_X3_ofPlayer rfl (by decide) rfl (by decide) (Or.inl c2) zm_L_52 (Nat.le_of_ble_eq_true rfl) rfl dL_ofPlayer_4 (fun q_r1 => ?_)
        refine V_astore (ls' := [(4, .ref (q_r1)), (0, .ref (zad L (a0))), (1, .int (i1)), (2, .int (i2)), (3, .ref (zad L (a3)))]) dL_ofPlayer_18 (by decide) rfl ?_
        refine V_iconst (v := 2) dL_ofPlayer_20 (by decide) ?_
        obtain rfl := Option.some.inj h
        exact V_iret rfl hq dL_ofPlayer_21
      · replace h := (oi h).2 c5
        cases h
  · refine V_callVx_I (As := [.int (i1), .int (i2)]) (rest := [.ref (zad L (a3))]) (c_X3_ofPlayer e_r1) zc_X3_ofPlayer rfl (by decide) rfl (by decide) (Or.inl c2) zm_L_52 (Nat.le_of_ble_eq_true rfl) rfl dL_ofPlayer_4 ?_
    refine V_pc (pc' := 7) rfl ?_
    refine V_i2l dL_ofPlayer_7 ?_
    replace h := ob h
    obtain ⟨M4, e_M4, h⟩ := h
    refine V_putJN (ref := "") zf_10_0 zlN_L_13 rfl rfl e_M4 dL_ofPlayer_8 ?_
    refine V_pc (pc' := 11) rfl ?_
    refine V_goto (tgt := 22) dL_ofPlayer_11 (by decide) ?_
    refine V_iconst (v := 0) dL_ofPlayer_22 (by decide) ?_
    obtain rfl := Option.some.inj h
    exact V_iret rfl hq dL_ofPlayer_23
def f_L_ofPlayer (a0 : Nat) (i1 : Int32) (i2 : Int32) (a3 : Nat) (M : zM) : Option (Int32 × zM) := f_L_ofPlayer_0 a0 i1 i2 a3 M
theorem c_L_ofPlayer {L : zL} {l : Launch} {a0 : Nat} {i1 : Int32} {i2 : Int32} {a3 : Nat} {M : zM} {r : Int32 × zM} (h : f_L_ofPlayer a0 i1 i2 a3 M = some r) : CH L l yL_ofPlayer cL_ofPlayer 5 (some FieldType.int) [(0, 11, 14, 38), (0, 11, 18, 19)] 70 M [.ref (zad L (a0)), .int (i1), .int (i2), .ref (zad L (a3))] (some (.int r.1)) r.2 :=
  CH.of ⟨by decide +kernel, zht_L_ofPlayer⟩ (Nat.le_of_ble_eq_true rfl) fun X Q hq => s_L_ofPlayer_0 hq h
/-! WindsparlourLaw.ofSet(LWindsparlour;IILWindsparlourLaw$Out;)I -/
theorem dL_ofSet_0 : decode cL_ofSet 0 = .ok (.aload_n 3, 1) := by decide +kernel
theorem dL_ofSet_1 : decode cL_ofSet 1 = .ok (.aload_n 0, 1) := by decide +kernel
theorem dL_ofSet_2 : decode cL_ofSet 2 = .ok (.iload_n 1, 1) := by decide +kernel
theorem dL_ofSet_3 : decode cL_ofSet 3 = .ok (.iload_n 2, 1) := by decide +kernel
theorem dL_ofSet_4 : decode cL_ofSet 4 = .ok (.invokevirtual 55, 3) := by decide +kernel
theorem dL_ofSet_7 : decode cL_ofSet 7 = .ok (.i2l, 1) := by decide +kernel
theorem dL_ofSet_8 : decode cL_ofSet 8 = .ok (.putfield 13, 3) := by decide +kernel
theorem dL_ofSet_11 : decode cL_ofSet 11 = .ok (.goto 7, 3) := by decide +kernel
theorem dL_ofSet_14 : decode cL_ofSet 14 = .ok (.astore 4, 2) := by decide +kernel
theorem dL_ofSet_16 : decode cL_ofSet 16 = .ok (.iconst 1, 1) := by decide +kernel
theorem dL_ofSet_17 : decode cL_ofSet 17 = .ok (.ireturn, 1) := by decide +kernel
theorem dL_ofSet_18 : decode cL_ofSet 18 = .ok (.iconst 0, 1) := by decide +kernel
theorem dL_ofSet_19 : decode cL_ofSet 19 = .ok (.ireturn, 1) := by decide +kernel
theorem zht_L_ofSet : zht yL_ofSet = [(0, 11, 14, 38)] := by decide +kernel
def f_L_ofSet_0 (a0 : Nat) (i1 : Int32) (i2 : Int32) (a3 : Nat) (M : zM) : Option (Int32 × zM) :=
  if mK M a0 = 9 then
  xc (f_X3_ofSet a0 i1 i2 M) (fun E_r1 M_r1 =>
  if E_r1 = "java/lang/IndexOutOfBoundsException" then
  some ((1 : Int32), M_r1)
  else
  none) fun w1 Mw1 =>
  (pJ 10 0 Mw1 a3 ((w1.toInt64))).bind fun M4 =>
  some ((0 : Int32), M4)
  else none
set_option maxRecDepth 20000 in
set_option maxHeartbeats 4000000 in
theorem s_L_ofSet_0 {L : zL} {X : zX} {M0 : zM} {N : Nat × Nat} {Q : State → Prop} {r : Int32 × zM} (hq : vQ L X M0 N Q (some (.int r.1)) r.2) {a0 : Nat} {i1 : Int32} {i2 : Int32} {a3 : Nat} {M : zM} (h : f_L_ofSet_0 a0 i1 i2 a3 M = some r) : V L X yL_ofSet cL_ofSet 5 (some FieldType.int) 8 M0 N Q M 0 [(0, .ref (zad L (a0))), (1, .int (i1)), (2, .int (i2)), (3, .ref (zad L (a3)))] [] := by
  unfold f_L_ofSet_0 at h
  refine V_aload_n dL_ofSet_0 rfl 3 rfl ?_
  refine V_aload_n dL_ofSet_1 rfl 0 rfl ?_
  refine V_iload_n dL_ofSet_2 rfl 1 rfl ?_
  refine V_iload_n dL_ofSet_3 rfl 2 rfl ?_
  replace h := ox h
  obtain ⟨c2, h⟩ := h
  replace h := xcs h
  rcases h with ⟨E_r1, M_r1, e_r1, h⟩ | ⟨w1, Mw1, e_r1, h⟩
  · by_cases c5 : E_r1 = "java/lang/IndexOutOfBoundsException"
    · replace h := (oi h).1 c5
      subst c5
      refine V_callVc (As := [.int (i1), .int (i2)]) (rest := [.ref (zad L (a3))]) (pre := []) (suf := []) (x := ⟨0, 11, 14, 38⟩) (c_X3_ofSet e_r1) (by rw [zht_L_ofSet]; rfl) (fun _ hz => by cases hz) ⟨by decide, by decide, zk_L_38, zcs_IndexOutOfBoundsException⟩ zc_X3_ofSet rfl (by decide) rfl (by decide) (Or.inl c2) zm_L_55 (Nat.le_of_ble_eq_true rfl) rfl dL_ofSet_4 (fun q_r1 => ?_)
      refine V_astore (ls' := [(4, .ref (q_r1)), (0, .ref (zad L (a0))), (1, .int (i1)), (2, .int (i2)), (3, .ref (zad L (a3)))]) dL_ofSet_14 (by decide) rfl ?_
      refine V_iconst (v := 1) dL_ofSet_16 (by decide) ?_
      obtain rfl := Option.some.inj h
      exact V_iret rfl hq dL_ofSet_17
    · replace h := (oi h).2 c5
      cases h
  · refine V_callVx_I (As := [.int (i1), .int (i2)]) (rest := [.ref (zad L (a3))]) (c_X3_ofSet e_r1) zc_X3_ofSet rfl (by decide) rfl (by decide) (Or.inl c2) zm_L_55 (Nat.le_of_ble_eq_true rfl) rfl dL_ofSet_4 ?_
    refine V_pc (pc' := 7) rfl ?_
    refine V_i2l dL_ofSet_7 ?_
    replace h := ob h
    obtain ⟨M4, e_M4, h⟩ := h
    refine V_putJN (ref := "") zf_10_0 zlN_L_13 rfl rfl e_M4 dL_ofSet_8 ?_
    refine V_pc (pc' := 11) rfl ?_
    refine V_goto (tgt := 18) dL_ofSet_11 (by decide) ?_
    refine V_iconst (v := 0) dL_ofSet_18 (by decide) ?_
    obtain rfl := Option.some.inj h
    exact V_iret rfl hq dL_ofSet_19
def f_L_ofSet (a0 : Nat) (i1 : Int32) (i2 : Int32) (a3 : Nat) (M : zM) : Option (Int32 × zM) := f_L_ofSet_0 a0 i1 i2 a3 M
theorem c_L_ofSet {L : zL} {l : Launch} {a0 : Nat} {i1 : Int32} {i2 : Int32} {a3 : Nat} {M : zM} {r : Int32 × zM} (h : f_L_ofSet a0 i1 i2 a3 M = some r) : CH L l yL_ofSet cL_ofSet 5 (some FieldType.int) [(0, 11, 14, 38)] 8 M [.ref (zad L (a0)), .int (i1), .int (i2), .ref (zad L (a3))] (some (.int r.1)) r.2 :=
  CH.of ⟨by decide +kernel, zht_L_ofSet⟩ (Nat.le_of_ble_eq_true rfl) fun X Q hq => s_L_ofSet_0 hq h
/-! WindsparlourLaw.river(LWindsparlour;IILWindsparlourLaw$Out;)I -/
theorem dL_river_0 : decode cL_river 0 = .ok (.aload_n 3, 1) := by decide +kernel
theorem dL_river_1 : decode cL_river 1 = .ok (.aload_n 0, 1) := by decide +kernel
theorem dL_river_2 : decode cL_river 2 = .ok (.iload_n 1, 1) := by decide +kernel
theorem dL_river_3 : decode cL_river 3 = .ok (.iload_n 2, 1) := by decide +kernel
theorem dL_river_4 : decode cL_river 4 = .ok (.invokevirtual 58, 3) := by decide +kernel
theorem dL_river_7 : decode cL_river 7 = .ok (.i2l, 1) := by decide +kernel
theorem dL_river_8 : decode cL_river 8 = .ok (.putfield 13, 3) := by decide +kernel
theorem dL_river_11 : decode cL_river 11 = .ok (.goto 7, 3) := by decide +kernel
theorem dL_river_14 : decode cL_river 14 = .ok (.astore 4, 2) := by decide +kernel
theorem dL_river_16 : decode cL_river 16 = .ok (.iconst 1, 1) := by decide +kernel
theorem dL_river_17 : decode cL_river 17 = .ok (.ireturn, 1) := by decide +kernel
theorem dL_river_18 : decode cL_river 18 = .ok (.iconst 0, 1) := by decide +kernel
theorem dL_river_19 : decode cL_river 19 = .ok (.ireturn, 1) := by decide +kernel
theorem zht_L_river : zht yL_river = [(0, 11, 14, 38)] := by decide +kernel
def f_L_river_0 (a0 : Nat) (i1 : Int32) (i2 : Int32) (a3 : Nat) (M : zM) : Option (Int32 × zM) :=
  if mK M a0 = 9 then
  xc (f_X3_river a0 i1 i2 M) (fun E_r1 M_r1 =>
  if E_r1 = "java/lang/IndexOutOfBoundsException" then
  some ((1 : Int32), M_r1)
  else
  none) fun w1 Mw1 =>
  (pJ 10 0 Mw1 a3 ((w1.toInt64))).bind fun M4 =>
  some ((0 : Int32), M4)
  else none
set_option maxRecDepth 20000 in
set_option maxHeartbeats 4000000 in
theorem s_L_river_0 {L : zL} {X : zX} {M0 : zM} {N : Nat × Nat} {Q : State → Prop} {r : Int32 × zM} (hq : vQ L X M0 N Q (some (.int r.1)) r.2) {a0 : Nat} {i1 : Int32} {i2 : Int32} {a3 : Nat} {M : zM} (h : f_L_river_0 a0 i1 i2 a3 M = some r) : V L X yL_river cL_river 5 (some FieldType.int) 8 M0 N Q M 0 [(0, .ref (zad L (a0))), (1, .int (i1)), (2, .int (i2)), (3, .ref (zad L (a3)))] [] := by
  unfold f_L_river_0 at h
  refine V_aload_n dL_river_0 rfl 3 rfl ?_
  refine V_aload_n dL_river_1 rfl 0 rfl ?_
  refine V_iload_n dL_river_2 rfl 1 rfl ?_
  refine V_iload_n dL_river_3 rfl 2 rfl ?_
  replace h := ox h
  obtain ⟨c2, h⟩ := h
  replace h := xcs h
  rcases h with ⟨E_r1, M_r1, e_r1, h⟩ | ⟨w1, Mw1, e_r1, h⟩
  · by_cases c5 : E_r1 = "java/lang/IndexOutOfBoundsException"
    · replace h := (oi h).1 c5
      subst c5
      refine V_callVc (As := [.int (i1), .int (i2)]) (rest := [.ref (zad L (a3))]) (pre := []) (suf := []) (x := ⟨0, 11, 14, 38⟩) (c_X3_river e_r1) (by rw [zht_L_river]; rfl) (fun _ hz => by cases hz) ⟨by decide, by decide, zk_L_38, zcs_IndexOutOfBoundsException⟩ zc_X3_river rfl (by decide) rfl (by decide) (Or.inl c2) zm_L_58 (Nat.le_of_ble_eq_true rfl) rfl dL_river_4 (fun q_r1 => ?_)
      refine V_astore (ls' := [(4, .ref (q_r1)), (0, .ref (zad L (a0))), (1, .int (i1)), (2, .int (i2)), (3, .ref (zad L (a3)))]) dL_river_14 (by decide) rfl ?_
      refine V_iconst (v := 1) dL_river_16 (by decide) ?_
      obtain rfl := Option.some.inj h
      exact V_iret rfl hq dL_river_17
    · replace h := (oi h).2 c5
      cases h
  · refine V_callVx_I (As := [.int (i1), .int (i2)]) (rest := [.ref (zad L (a3))]) (c_X3_river e_r1) zc_X3_river rfl (by decide) rfl (by decide) (Or.inl c2) zm_L_58 (Nat.le_of_ble_eq_true rfl) rfl dL_river_4 ?_
    refine V_pc (pc' := 7) rfl ?_
    refine V_i2l dL_river_7 ?_
    replace h := ob h
    obtain ⟨M4, e_M4, h⟩ := h
    refine V_putJN (ref := "") zf_10_0 zlN_L_13 rfl rfl e_M4 dL_river_8 ?_
    refine V_pc (pc' := 11) rfl ?_
    refine V_goto (tgt := 18) dL_river_11 (by decide) ?_
    refine V_iconst (v := 0) dL_river_18 (by decide) ?_
    obtain rfl := Option.some.inj h
    exact V_iret rfl hq dL_river_19
def f_L_river (a0 : Nat) (i1 : Int32) (i2 : Int32) (a3 : Nat) (M : zM) : Option (Int32 × zM) := f_L_river_0 a0 i1 i2 a3 M
theorem c_L_river {L : zL} {l : Launch} {a0 : Nat} {i1 : Int32} {i2 : Int32} {a3 : Nat} {M : zM} {r : Int32 × zM} (h : f_L_river a0 i1 i2 a3 M = some r) : CH L l yL_river cL_river 5 (some FieldType.int) [(0, 11, 14, 38)] 8 M [.ref (zad L (a0)), .int (i1), .int (i2), .ref (zad L (a3))] (some (.int r.1)) r.2 :=
  CH.of ⟨by decide +kernel, zht_L_river⟩ (Nat.le_of_ble_eq_true rfl) fun X Q hq => s_L_river_0 hq h
/-! WindsparlourLaw.waits(LWindsparlour;ILWindsparlourLaw$Out;)I -/
theorem dL_waits_0 : decode cL_waits 0 = .ok (.aload_n 2, 1) := by decide +kernel
theorem dL_waits_1 : decode cL_waits 1 = .ok (.aload_n 0, 1) := by decide +kernel
theorem dL_waits_2 : decode cL_waits 2 = .ok (.iload_n 1, 1) := by decide +kernel
theorem dL_waits_3 : decode cL_waits 3 = .ok (.invokevirtual 61, 3) := by decide +kernel
theorem dL_waits_6 : decode cL_waits 6 = .ok (.putfield 13, 3) := by decide +kernel
theorem dL_waits_9 : decode cL_waits 9 = .ok (.goto 6, 3) := by decide +kernel
theorem dL_waits_12 : decode cL_waits 12 = .ok (.astore_n 3, 1) := by decide +kernel
theorem dL_waits_13 : decode cL_waits 13 = .ok (.iconst 1, 1) := by decide +kernel
theorem dL_waits_14 : decode cL_waits 14 = .ok (.ireturn, 1) := by decide +kernel
theorem dL_waits_15 : decode cL_waits 15 = .ok (.iconst 0, 1) := by decide +kernel
theorem dL_waits_16 : decode cL_waits 16 = .ok (.ireturn, 1) := by decide +kernel
theorem zht_L_waits : zht yL_waits = [(0, 9, 12, 38)] := by decide +kernel
def f_L_waits_0 (a0 : Nat) (i1 : Int32) (a2 : Nat) (M : zM) : Option (Int32 × zM) :=
  if mK M a0 = 9 then
  xc (f_X3_waits a0 i1 M) (fun E_r1 M_r1 =>
  if E_r1 = "java/lang/IndexOutOfBoundsException" then
  some ((1 : Int32), M_r1)
  else
  none) fun w1 Mw1 =>
  (pJ 10 0 Mw1 a2 w1).bind fun M4 =>
  some ((0 : Int32), M4)
  else none
set_option maxRecDepth 20000 in
set_option maxHeartbeats 4000000 in
theorem s_L_waits_0 {L : zL} {X : zX} {M0 : zM} {N : Nat × Nat} {Q : State → Prop} {r : Int32 × zM} (hq : vQ L X M0 N Q (some (.int r.1)) r.2) {a0 : Nat} {i1 : Int32} {a2 : Nat} {M : zM} (h : f_L_waits_0 a0 i1 a2 M = some r) : V L X yL_waits cL_waits 4 (some FieldType.int) 8 M0 N Q M 0 [(0, .ref (zad L (a0))), (1, .int (i1)), (2, .ref (zad L (a2)))] [] := by
  unfold f_L_waits_0 at h
  refine V_aload_n dL_waits_0 rfl 2 rfl ?_
  refine V_aload_n dL_waits_1 rfl 0 rfl ?_
  refine V_iload_n dL_waits_2 rfl 1 rfl ?_
  replace h := ox h
  obtain ⟨c2, h⟩ := h
  replace h := xcs h
  rcases h with ⟨E_r1, M_r1, e_r1, h⟩ | ⟨w1, Mw1, e_r1, h⟩
  · by_cases c5 : E_r1 = "java/lang/IndexOutOfBoundsException"
    · replace h := (oi h).1 c5
      subst c5
      refine V_callVc (As := [.int (i1)]) (rest := [.ref (zad L (a2))]) (pre := []) (suf := []) (x := ⟨0, 9, 12, 38⟩) (c_X3_waits e_r1) (by rw [zht_L_waits]; rfl) (fun _ hz => by cases hz) ⟨by decide, by decide, zk_L_38, zcs_IndexOutOfBoundsException⟩ zc_X3_waits rfl (by decide) rfl (by decide) (Or.inl c2) zm_L_61 (Nat.le_of_ble_eq_true rfl) rfl dL_waits_3 (fun q_r1 => ?_)
      refine V_astore_n (ls' := [(3, .ref (q_r1)), (0, .ref (zad L (a0))), (1, .int (i1)), (2, .ref (zad L (a2)))]) dL_waits_12 rfl (by decide) rfl ?_
      refine V_iconst (v := 1) dL_waits_13 (by decide) ?_
      obtain rfl := Option.some.inj h
      exact V_iret rfl hq dL_waits_14
    · replace h := (oi h).2 c5
      cases h
  · refine V_callVx_J (As := [.int (i1)]) (rest := [.ref (zad L (a2))]) (c_X3_waits e_r1) zc_X3_waits rfl (by decide) rfl (by decide) (Or.inl c2) zm_L_61 (Nat.le_of_ble_eq_true rfl) rfl dL_waits_3 ?_
    refine V_pc (pc' := 6) rfl ?_
    replace h := ob h
    obtain ⟨M4, e_M4, h⟩ := h
    refine V_putJN (ref := "") zf_10_0 zlN_L_13 rfl rfl e_M4 dL_waits_6 ?_
    refine V_pc (pc' := 9) rfl ?_
    refine V_goto (tgt := 15) dL_waits_9 (by decide) ?_
    refine V_iconst (v := 0) dL_waits_15 (by decide) ?_
    obtain rfl := Option.some.inj h
    exact V_iret rfl hq dL_waits_16
def f_L_waits (a0 : Nat) (i1 : Int32) (a2 : Nat) (M : zM) : Option (Int32 × zM) := f_L_waits_0 a0 i1 a2 M
theorem c_L_waits {L : zL} {l : Launch} {a0 : Nat} {i1 : Int32} {a2 : Nat} {M : zM} {r : Int32 × zM} (h : f_L_waits a0 i1 a2 M = some r) : CH L l yL_waits cL_waits 4 (some FieldType.int) [(0, 9, 12, 38)] 8 M [.ref (zad L (a0)), .int (i1), .ref (zad L (a2))] (some (.int r.1)) r.2 :=
  CH.of ⟨by decide +kernel, zht_L_waits⟩ (Nat.le_of_ble_eq_true rfl) fun X Q hq => s_L_waits_0 hq h
/-! WindsparlourLaw.seen(LWindsparlour;ILWindsparlourLaw$Out;)I -/
theorem dL_seen_0 : decode cL_seen 0 = .ok (.aload_n 2, 1) := by decide +kernel
theorem dL_seen_1 : decode cL_seen 1 = .ok (.aload_n 0, 1) := by decide +kernel
theorem dL_seen_2 : decode cL_seen 2 = .ok (.iload_n 1, 1) := by decide +kernel
theorem dL_seen_3 : decode cL_seen 3 = .ok (.invokevirtual 65, 3) := by decide +kernel
theorem dL_seen_6 : decode cL_seen 6 = .ok (.i2l, 1) := by decide +kernel
theorem dL_seen_7 : decode cL_seen 7 = .ok (.putfield 13, 3) := by decide +kernel
theorem dL_seen_10 : decode cL_seen 10 = .ok (.goto 6, 3) := by decide +kernel
theorem dL_seen_13 : decode cL_seen 13 = .ok (.astore_n 3, 1) := by decide +kernel
theorem dL_seen_14 : decode cL_seen 14 = .ok (.iconst 1, 1) := by decide +kernel
theorem dL_seen_15 : decode cL_seen 15 = .ok (.ireturn, 1) := by decide +kernel
theorem dL_seen_16 : decode cL_seen 16 = .ok (.iconst 0, 1) := by decide +kernel
theorem dL_seen_17 : decode cL_seen 17 = .ok (.ireturn, 1) := by decide +kernel
theorem zht_L_seen : zht yL_seen = [(0, 10, 13, 19)] := by decide +kernel
def f_L_seen_0 (a0 : Nat) (i1 : Int32) (a2 : Nat) (M : zM) : Option (Int32 × zM) :=
  if mK M a0 = 9 then
  xc (f_X3_seen a0 i1 M) (fun E_r1 M_r1 =>
  if E_r1 = "java/lang/IllegalArgumentException" then
  some ((1 : Int32), M_r1)
  else
  none) fun w1 Mw1 =>
  (pJ 10 0 Mw1 a2 ((w1.toInt64))).bind fun M4 =>
  some ((0 : Int32), M4)
  else none
set_option maxRecDepth 20000 in
set_option maxHeartbeats 4000000 in
theorem s_L_seen_0 {L : zL} {X : zX} {M0 : zM} {N : Nat × Nat} {Q : State → Prop} {r : Int32 × zM} (hq : vQ L X M0 N Q (some (.int r.1)) r.2) {a0 : Nat} {i1 : Int32} {a2 : Nat} {M : zM} (h : f_L_seen_0 a0 i1 a2 M = some r) : V L X yL_seen cL_seen 4 (some FieldType.int) 8 M0 N Q M 0 [(0, .ref (zad L (a0))), (1, .int (i1)), (2, .ref (zad L (a2)))] [] := by
  unfold f_L_seen_0 at h
  refine V_aload_n dL_seen_0 rfl 2 rfl ?_
  refine V_aload_n dL_seen_1 rfl 0 rfl ?_
  refine V_iload_n dL_seen_2 rfl 1 rfl ?_
  replace h := ox h
  obtain ⟨c2, h⟩ := h
  replace h := xcs h
  rcases h with ⟨E_r1, M_r1, e_r1, h⟩ | ⟨w1, Mw1, e_r1, h⟩
  · by_cases c5 : E_r1 = "java/lang/IllegalArgumentException"
    · replace h := (oi h).1 c5
      subst c5
      refine V_callVc (As := [.int (i1)]) (rest := [.ref (zad L (a2))]) (pre := []) (suf := []) (x := ⟨0, 10, 13, 19⟩) (c_X3_seen e_r1) (by rw [zht_L_seen]; rfl) (fun _ hz => by cases hz) ⟨by decide, by decide, zk_L_19, zcs_IllegalArgumentException⟩ zc_X3_seen rfl (by decide) rfl (by decide) (Or.inl c2) zm_L_65 (Nat.le_of_ble_eq_true rfl) rfl dL_seen_3 (fun q_r1 => ?_)
      refine V_astore_n (ls' := [(3, .ref (q_r1)), (0, .ref (zad L (a0))), (1, .int (i1)), (2, .ref (zad L (a2)))]) dL_seen_13 rfl (by decide) rfl ?_
      refine V_iconst (v := 1) dL_seen_14 (by decide) ?_
      obtain rfl := Option.some.inj h
      exact V_iret rfl hq dL_seen_15
    · replace h := (oi h).2 c5
      cases h
  · refine V_callVx_I (As := [.int (i1)]) (rest := [.ref (zad L (a2))]) (c_X3_seen e_r1) zc_X3_seen rfl (by decide) rfl (by decide) (Or.inl c2) zm_L_65 (Nat.le_of_ble_eq_true rfl) rfl dL_seen_3 ?_
    refine V_pc (pc' := 6) rfl ?_
    refine V_i2l dL_seen_6 ?_
    replace h := ob h
    obtain ⟨M4, e_M4, h⟩ := h
    refine V_putJN (ref := "") zf_10_0 zlN_L_13 rfl rfl e_M4 dL_seen_7 ?_
    refine V_pc (pc' := 10) rfl ?_
    refine V_goto (tgt := 16) dL_seen_10 (by decide) ?_
    refine V_iconst (v := 0) dL_seen_16 (by decide) ?_
    obtain rfl := Option.some.inj h
    exact V_iret rfl hq dL_seen_17
def f_L_seen (a0 : Nat) (i1 : Int32) (a2 : Nat) (M : zM) : Option (Int32 × zM) := f_L_seen_0 a0 i1 a2 M
theorem c_L_seen {L : zL} {l : Launch} {a0 : Nat} {i1 : Int32} {a2 : Nat} {M : zM} {r : Int32 × zM} (h : f_L_seen a0 i1 a2 M = some r) : CH L l yL_seen cL_seen 4 (some FieldType.int) [(0, 10, 13, 19)] 8 M [.ref (zad L (a0)), .int (i1), .ref (zad L (a2))] (some (.int r.1)) r.2 :=
  CH.of ⟨by decide +kernel, zht_L_seen⟩ (Nat.le_of_ble_eq_true rfl) fun X Q hq => s_L_seen_0 hq h
/-! WindsparlourLaw.hand(LWindsparlour;ILWindsparlourLaw$Out;)I -/
theorem dL_hand_0 : decode cL_hand 0 = .ok (.aload_n 2, 1) := by decide +kernel
theorem dL_hand_1 : decode cL_hand 1 = .ok (.aload_n 0, 1) := by decide +kernel
theorem dL_hand_2 : decode cL_hand 2 = .ok (.iload_n 1, 1) := by decide +kernel
theorem dL_hand_3 : decode cL_hand 3 = .ok (.invokevirtual 68, 3) := by decide +kernel
theorem dL_hand_6 : decode cL_hand 6 = .ok (.putfield 72, 3) := by decide +kernel
theorem dL_hand_9 : decode cL_hand 9 = .ok (.goto 6, 3) := by decide +kernel
theorem dL_hand_12 : decode cL_hand 12 = .ok (.astore_n 3, 1) := by decide +kernel
theorem dL_hand_13 : decode cL_hand 13 = .ok (.iconst 1, 1) := by decide +kernel
theorem dL_hand_14 : decode cL_hand 14 = .ok (.ireturn, 1) := by decide +kernel
theorem dL_hand_15 : decode cL_hand 15 = .ok (.iconst 0, 1) := by decide +kernel
theorem dL_hand_16 : decode cL_hand 16 = .ok (.ireturn, 1) := by decide +kernel
theorem zht_L_hand : zht yL_hand = [(0, 9, 12, 38)] := by decide +kernel
def f_L_hand_0 (a0 : Nat) (i1 : Int32) (a2 : Nat) (M : zM) : Option (Int32 × zM) :=
  if mK M a0 = 9 then
  xc (f_X3_hand a0 i1 M) (fun E_r1 M_r1 =>
  if E_r1 = "java/lang/IndexOutOfBoundsException" then
  some ((1 : Int32), M_r1)
  else
  none) fun w1 Mw1 =>
  (pR 10 2 Mw1 a2 w1).bind fun M4 =>
  some ((0 : Int32), M4)
  else none
set_option maxRecDepth 20000 in
set_option maxHeartbeats 4000000 in
theorem s_L_hand_0 {L : zL} {X : zX} {M0 : zM} {N : Nat × Nat} {Q : State → Prop} {r : Int32 × zM} (hq : vQ L X M0 N Q (some (.int r.1)) r.2) {a0 : Nat} {i1 : Int32} {a2 : Nat} {M : zM} (h : f_L_hand_0 a0 i1 a2 M = some r) : V L X yL_hand cL_hand 4 (some FieldType.int) 14 M0 N Q M 0 [(0, .ref (zad L (a0))), (1, .int (i1)), (2, .ref (zad L (a2)))] [] := by
  unfold f_L_hand_0 at h
  refine V_aload_n dL_hand_0 rfl 2 rfl ?_
  refine V_aload_n dL_hand_1 rfl 0 rfl ?_
  refine V_iload_n dL_hand_2 rfl 1 rfl ?_
  replace h := ox h
  obtain ⟨c2, h⟩ := h
  replace h := xcs h
  rcases h with ⟨E_r1, M_r1, e_r1, h⟩ | ⟨w1, Mw1, e_r1, h⟩
  · by_cases c5 : E_r1 = "java/lang/IndexOutOfBoundsException"
    · replace h := (oi h).1 c5
      subst c5
      refine V_callVc (As := [.int (i1)]) (rest := [.ref (zad L (a2))]) (pre := []) (suf := []) (x := ⟨0, 9, 12, 38⟩) (c_X3_hand e_r1) (by rw [zht_L_hand]; rfl) (fun _ hz => by cases hz) ⟨by decide, by decide, zk_L_38, zcs_IndexOutOfBoundsException⟩ zc_X3_hand rfl (by decide) rfl (by decide) (Or.inl c2) zm_L_68 (Nat.le_of_ble_eq_true rfl) rfl dL_hand_3 (fun q_r1 => ?_)
      refine V_astore_n (ls' := [(3, .ref (q_r1)), (0, .ref (zad L (a0))), (1, .int (i1)), (2, .ref (zad L (a2)))]) dL_hand_12 rfl (by decide) rfl ?_
      refine V_iconst (v := 1) dL_hand_13 (by decide) ?_
      obtain rfl := Option.some.inj h
      exact V_iret rfl hq dL_hand_14
    · replace h := (oi h).2 c5
      cases h
  · refine V_callVx_A (As := [.int (i1)]) (rest := [.ref (zad L (a2))]) (c_X3_hand e_r1) zc_X3_hand rfl (by decide) rfl (by decide) (Or.inl c2) zm_L_68 (Nat.le_of_ble_eq_true rfl) rfl dL_hand_3 ?_
    refine V_pc (pc' := 6) rfl ?_
    replace h := ob h
    obtain ⟨M4, e_M4, h⟩ := h
    refine V_putRN (ref := "") zf_10_2 zlN_L_72 rfl rfl e_M4 dL_hand_6 ?_
    refine V_pc (pc' := 9) rfl ?_
    refine V_goto (tgt := 15) dL_hand_9 (by decide) ?_
    refine V_iconst (v := 0) dL_hand_15 (by decide) ?_
    obtain rfl := Option.some.inj h
    exact V_iret rfl hq dL_hand_16
def f_L_hand (a0 : Nat) (i1 : Int32) (a2 : Nat) (M : zM) : Option (Int32 × zM) := f_L_hand_0 a0 i1 a2 M
theorem c_L_hand {L : zL} {l : Launch} {a0 : Nat} {i1 : Int32} {a2 : Nat} {M : zM} {r : Int32 × zM} (h : f_L_hand a0 i1 a2 M = some r) : CH L l yL_hand cL_hand 4 (some FieldType.int) [(0, 9, 12, 38)] 14 M [.ref (zad L (a0)), .int (i1), .ref (zad L (a2))] (some (.int r.1)) r.2 :=
  CH.of ⟨by decide +kernel, zht_L_hand⟩ (Nat.le_of_ble_eq_true rfl) fun X Q hq => s_L_hand_0 hq h
/-! WindsparlourLaw.many(LWindsparlour;ILWindsparlourLaw$Out;)I -/
theorem dL_many_0 : decode cL_many 0 = .ok (.aload_n 2, 1) := by decide +kernel
theorem dL_many_1 : decode cL_many 1 = .ok (.aload_n 0, 1) := by decide +kernel
theorem dL_many_2 : decode cL_many 2 = .ok (.iload_n 1, 1) := by decide +kernel
theorem dL_many_3 : decode cL_many 3 = .ok (.invokevirtual 76, 3) := by decide +kernel
theorem dL_many_6 : decode cL_many 6 = .ok (.i2l, 1) := by decide +kernel
theorem dL_many_7 : decode cL_many 7 = .ok (.putfield 13, 3) := by decide +kernel
theorem dL_many_10 : decode cL_many 10 = .ok (.goto 6, 3) := by decide +kernel
theorem dL_many_13 : decode cL_many 13 = .ok (.astore_n 3, 1) := by decide +kernel
theorem dL_many_14 : decode cL_many 14 = .ok (.iconst 1, 1) := by decide +kernel
theorem dL_many_15 : decode cL_many 15 = .ok (.ireturn, 1) := by decide +kernel
theorem dL_many_16 : decode cL_many 16 = .ok (.iconst 0, 1) := by decide +kernel
theorem dL_many_17 : decode cL_many 17 = .ok (.ireturn, 1) := by decide +kernel
theorem zht_L_many : zht yL_many = [(0, 10, 13, 19)] := by decide +kernel
def f_L_many_0 (a0 : Nat) (i1 : Int32) (a2 : Nat) (M : zM) : Option (Int32 × zM) :=
  if mK M a0 = 9 then
  xc (f_X3_many a0 i1 M) (fun E_r1 M_r1 =>
  if E_r1 = "java/lang/IllegalArgumentException" then
  some ((1 : Int32), M_r1)
  else
  none) fun w1 Mw1 =>
  (pJ 10 0 Mw1 a2 ((w1.toInt64))).bind fun M4 =>
  some ((0 : Int32), M4)
  else none
set_option maxRecDepth 20000 in
set_option maxHeartbeats 4000000 in
theorem s_L_many_0 {L : zL} {X : zX} {M0 : zM} {N : Nat × Nat} {Q : State → Prop} {r : Int32 × zM} (hq : vQ L X M0 N Q (some (.int r.1)) r.2) {a0 : Nat} {i1 : Int32} {a2 : Nat} {M : zM} (h : f_L_many_0 a0 i1 a2 M = some r) : V L X yL_many cL_many 4 (some FieldType.int) 7 M0 N Q M 0 [(0, .ref (zad L (a0))), (1, .int (i1)), (2, .ref (zad L (a2)))] [] := by
  unfold f_L_many_0 at h
  refine V_aload_n dL_many_0 rfl 2 rfl ?_
  refine V_aload_n dL_many_1 rfl 0 rfl ?_
  refine V_iload_n dL_many_2 rfl 1 rfl ?_
  replace h := ox h
  obtain ⟨c2, h⟩ := h
  replace h := xcs h
  rcases h with ⟨E_r1, M_r1, e_r1, h⟩ | ⟨w1, Mw1, e_r1, h⟩
  · by_cases c5 : E_r1 = "java/lang/IllegalArgumentException"
    · replace h := (oi h).1 c5
      subst c5
      refine V_callVc (As := [.int (i1)]) (rest := [.ref (zad L (a2))]) (pre := []) (suf := []) (x := ⟨0, 10, 13, 19⟩) (c_X3_many e_r1) (by rw [zht_L_many]; rfl) (fun _ hz => by cases hz) ⟨by decide, by decide, zk_L_19, zcs_IllegalArgumentException⟩ zc_X3_many rfl (by decide) rfl (by decide) (Or.inl c2) zm_L_76 (Nat.le_of_ble_eq_true rfl) rfl dL_many_3 (fun q_r1 => ?_)
      refine V_astore_n (ls' := [(3, .ref (q_r1)), (0, .ref (zad L (a0))), (1, .int (i1)), (2, .ref (zad L (a2)))]) dL_many_13 rfl (by decide) rfl ?_
      refine V_iconst (v := 1) dL_many_14 (by decide) ?_
      obtain rfl := Option.some.inj h
      exact V_iret rfl hq dL_many_15
    · replace h := (oi h).2 c5
      cases h
  · refine V_callVx_I (As := [.int (i1)]) (rest := [.ref (zad L (a2))]) (c_X3_many e_r1) zc_X3_many rfl (by decide) rfl (by decide) (Or.inl c2) zm_L_76 (Nat.le_of_ble_eq_true rfl) rfl dL_many_3 ?_
    refine V_pc (pc' := 6) rfl ?_
    refine V_i2l dL_many_6 ?_
    replace h := ob h
    obtain ⟨M4, e_M4, h⟩ := h
    refine V_putJN (ref := "") zf_10_0 zlN_L_13 rfl rfl e_M4 dL_many_7 ?_
    refine V_pc (pc' := 10) rfl ?_
    refine V_goto (tgt := 16) dL_many_10 (by decide) ?_
    refine V_iconst (v := 0) dL_many_16 (by decide) ?_
    obtain rfl := Option.some.inj h
    exact V_iret rfl hq dL_many_17
def f_L_many (a0 : Nat) (i1 : Int32) (a2 : Nat) (M : zM) : Option (Int32 × zM) := f_L_many_0 a0 i1 a2 M
theorem c_L_many {L : zL} {l : Launch} {a0 : Nat} {i1 : Int32} {a2 : Nat} {M : zM} {r : Int32 × zM} (h : f_L_many a0 i1 a2 M = some r) : CH L l yL_many cL_many 4 (some FieldType.int) [(0, 10, 13, 19)] 7 M [.ref (zad L (a0)), .int (i1), .ref (zad L (a2))] (some (.int r.1)) r.2 :=
  CH.of ⟨by decide +kernel, zht_L_many⟩ (Nat.le_of_ble_eq_true rfl) fun X Q hq => s_L_many_0 hq h
/-! WindsparlourLaw.lead(LWindsparlour;ILWindsparlourLaw$Out;)I -/
theorem dL_lead_0 : decode cL_lead 0 = .ok (.aload_n 2, 1) := by decide +kernel
theorem dL_lead_1 : decode cL_lead 1 = .ok (.aload_n 0, 1) := by decide +kernel
theorem dL_lead_2 : decode cL_lead 2 = .ok (.iload_n 1, 1) := by decide +kernel
theorem dL_lead_3 : decode cL_lead 3 = .ok (.invokevirtual 79, 3) := by decide +kernel
theorem dL_lead_6 : decode cL_lead 6 = .ok (.putfield 83, 3) := by decide +kernel
theorem dL_lead_9 : decode cL_lead 9 = .ok (.goto 6, 3) := by decide +kernel
theorem dL_lead_12 : decode cL_lead 12 = .ok (.astore_n 3, 1) := by decide +kernel
theorem dL_lead_13 : decode cL_lead 13 = .ok (.iconst 1, 1) := by decide +kernel
theorem dL_lead_14 : decode cL_lead 14 = .ok (.ireturn, 1) := by decide +kernel
theorem dL_lead_15 : decode cL_lead 15 = .ok (.iconst 0, 1) := by decide +kernel
theorem dL_lead_16 : decode cL_lead 16 = .ok (.ireturn, 1) := by decide +kernel
theorem zht_L_lead : zht yL_lead = [(0, 9, 12, 38)] := by decide +kernel
def f_L_lead_0 (a0 : Nat) (i1 : Int32) (a2 : Nat) (M : zM) : Option (Int32 × zM) :=
  if mK M a0 = 9 then
  xc (f_X3_lead a0 i1 M) (fun E_r1 M_r1 =>
  if E_r1 = "java/lang/IndexOutOfBoundsException" then
  some ((1 : Int32), M_r1)
  else
  none) fun w1 Mw1 =>
  (pD 10 1 Mw1 a2 w1).bind fun M4 =>
  some ((0 : Int32), M4)
  else none
set_option maxRecDepth 20000 in
set_option maxHeartbeats 4000000 in
theorem s_L_lead_0 {L : zL} {X : zX} {M0 : zM} {N : Nat × Nat} {Q : State → Prop} {r : Int32 × zM} (hq : vQ L X M0 N Q (some (.int r.1)) r.2) {a0 : Nat} {i1 : Int32} {a2 : Nat} {M : zM} (h : f_L_lead_0 a0 i1 a2 M = some r) : V L X yL_lead cL_lead 4 (some FieldType.int) 8 M0 N Q M 0 [(0, .ref (zad L (a0))), (1, .int (i1)), (2, .ref (zad L (a2)))] [] := by
  unfold f_L_lead_0 at h
  refine V_aload_n dL_lead_0 rfl 2 rfl ?_
  refine V_aload_n dL_lead_1 rfl 0 rfl ?_
  refine V_iload_n dL_lead_2 rfl 1 rfl ?_
  replace h := ox h
  obtain ⟨c2, h⟩ := h
  replace h := xcs h
  rcases h with ⟨E_r1, M_r1, e_r1, h⟩ | ⟨w1, Mw1, e_r1, h⟩
  · by_cases c5 : E_r1 = "java/lang/IndexOutOfBoundsException"
    · replace h := (oi h).1 c5
      subst c5
      refine V_callVc (As := [.int (i1)]) (rest := [.ref (zad L (a2))]) (pre := []) (suf := []) (x := ⟨0, 9, 12, 38⟩) (c_X3_lead e_r1) (by rw [zht_L_lead]; rfl) (fun _ hz => by cases hz) ⟨by decide, by decide, zk_L_38, zcs_IndexOutOfBoundsException⟩ zc_X3_lead rfl (by decide) rfl (by decide) (Or.inl c2) zm_L_79 (Nat.le_of_ble_eq_true rfl) rfl dL_lead_3 (fun q_r1 => ?_)
      refine V_astore_n (ls' := [(3, .ref (q_r1)), (0, .ref (zad L (a0))), (1, .int (i1)), (2, .ref (zad L (a2)))]) dL_lead_12 rfl (by decide) rfl ?_
      refine V_iconst (v := 1) dL_lead_13 (by decide) ?_
      obtain rfl := Option.some.inj h
      exact V_iret rfl hq dL_lead_14
    · replace h := (oi h).2 c5
      cases h
  · refine V_callVx_D (As := [.int (i1)]) (rest := [.ref (zad L (a2))]) (c_X3_lead e_r1) zc_X3_lead rfl (by decide) rfl (by decide) (Or.inl c2) zm_L_79 (Nat.le_of_ble_eq_true rfl) rfl dL_lead_3 ?_
    refine V_pc (pc' := 6) rfl ?_
    replace h := ob h
    obtain ⟨M4, e_M4, h⟩ := h
    refine V_putDN (ref := "") zf_10_1 zlN_L_83 rfl rfl e_M4 dL_lead_6 ?_
    refine V_pc (pc' := 9) rfl ?_
    refine V_goto (tgt := 15) dL_lead_9 (by decide) ?_
    refine V_iconst (v := 0) dL_lead_15 (by decide) ?_
    obtain rfl := Option.some.inj h
    exact V_iret rfl hq dL_lead_16
def f_L_lead (a0 : Nat) (i1 : Int32) (a2 : Nat) (M : zM) : Option (Int32 × zM) := f_L_lead_0 a0 i1 a2 M
theorem c_L_lead {L : zL} {l : Launch} {a0 : Nat} {i1 : Int32} {a2 : Nat} {M : zM} {r : Int32 × zM} (h : f_L_lead a0 i1 a2 M = some r) : CH L l yL_lead cL_lead 4 (some FieldType.int) [(0, 9, 12, 38)] 8 M [.ref (zad L (a0)), .int (i1), .ref (zad L (a2))] (some (.int r.1)) r.2 :=
  CH.of ⟨by decide +kernel, zht_L_lead⟩ (Nat.le_of_ble_eq_true rfl) fun X Q hq => s_L_lead_0 hq h
/-! WindsparlourLaw.worth(LWindsparlour;IILWindsparlourLaw$Out;)I -/
theorem dL_worth_0 : decode cL_worth 0 = .ok (.aload_n 3, 1) := by decide +kernel
theorem dL_worth_1 : decode cL_worth 1 = .ok (.aload_n 0, 1) := by decide +kernel
theorem dL_worth_2 : decode cL_worth 2 = .ok (.iload_n 1, 1) := by decide +kernel
theorem dL_worth_3 : decode cL_worth 3 = .ok (.iload_n 2, 1) := by decide +kernel
theorem dL_worth_4 : decode cL_worth 4 = .ok (.invokevirtual 87, 3) := by decide +kernel
theorem dL_worth_7 : decode cL_worth 7 = .ok (.i2l, 1) := by decide +kernel
theorem dL_worth_8 : decode cL_worth 8 = .ok (.putfield 13, 3) := by decide +kernel
theorem dL_worth_11 : decode cL_worth 11 = .ok (.goto 11, 3) := by decide +kernel
theorem dL_worth_14 : decode cL_worth 14 = .ok (.astore 4, 2) := by decide +kernel
theorem dL_worth_16 : decode cL_worth 16 = .ok (.iconst 1, 1) := by decide +kernel
theorem dL_worth_17 : decode cL_worth 17 = .ok (.ireturn, 1) := by decide +kernel
theorem dL_worth_18 : decode cL_worth 18 = .ok (.astore 4, 2) := by decide +kernel
theorem dL_worth_20 : decode cL_worth 20 = .ok (.iconst 2, 1) := by decide +kernel
theorem dL_worth_21 : decode cL_worth 21 = .ok (.ireturn, 1) := by decide +kernel
theorem dL_worth_22 : decode cL_worth 22 = .ok (.iconst 0, 1) := by decide +kernel
theorem dL_worth_23 : decode cL_worth 23 = .ok (.ireturn, 1) := by decide +kernel
theorem zht_L_worth : zht yL_worth = [(0, 11, 14, 38), (0, 11, 18, 19)] := by decide +kernel
def f_L_worth_0 (a0 : Nat) (i1 : Int32) (i2 : Int32) (a3 : Nat) (M : zM) : Option (Int32 × zM) :=
  if mK M a0 = 9 then
  xc (f_X3_worth a0 i1 i2 M) (fun E_r1 M_r1 =>
  if E_r1 = "java/lang/IndexOutOfBoundsException" then
  some ((1 : Int32), M_r1)
  else
  if E_r1 = "java/lang/IllegalArgumentException" then
  some ((2 : Int32), M_r1)
  else
  none) fun w1 Mw1 =>
  (pJ 10 0 Mw1 a3 ((w1.toInt64))).bind fun M4 =>
  some ((0 : Int32), M4)
  else none
set_option maxRecDepth 20000 in
set_option maxHeartbeats 4000000 in
theorem s_L_worth_0 {L : zL} {X : zX} {M0 : zM} {N : Nat × Nat} {Q : State → Prop} {r : Int32 × zM} (hq : vQ L X M0 N Q (some (.int r.1)) r.2) {a0 : Nat} {i1 : Int32} {i2 : Int32} {a3 : Nat} {M : zM} (h : f_L_worth_0 a0 i1 i2 a3 M = some r) : V L X yL_worth cL_worth 5 (some FieldType.int) 8 M0 N Q M 0 [(0, .ref (zad L (a0))), (1, .int (i1)), (2, .int (i2)), (3, .ref (zad L (a3)))] [] := by
  unfold f_L_worth_0 at h
  refine V_aload_n dL_worth_0 rfl 3 rfl ?_
  refine V_aload_n dL_worth_1 rfl 0 rfl ?_
  refine V_iload_n dL_worth_2 rfl 1 rfl ?_
  refine V_iload_n dL_worth_3 rfl 2 rfl ?_
  replace h := ox h
  obtain ⟨c2, h⟩ := h
  replace h := xcs h
  rcases h with ⟨E_r1, M_r1, e_r1, h⟩ | ⟨w1, Mw1, e_r1, h⟩
  · by_cases c6 : E_r1 = "java/lang/IndexOutOfBoundsException"
    · replace h := (oi h).1 c6
      subst c6
      refine V_callVc (As := [.int (i1), .int (i2)]) (rest := [.ref (zad L (a3))]) (pre := []) (suf := [⟨0, 11, 18, 19⟩]) (x := ⟨0, 11, 14, 38⟩) (c_X3_worth e_r1) (by rw [zht_L_worth]; rfl) (fun _ hz => by cases hz) ⟨by decide, by decide, zk_L_38, zcs_IndexOutOfBoundsException⟩ zc_X3_worth rfl (by decide) rfl (by decide) (Or.inl c2) zm_L_87 (Nat.le_of_ble_eq_true rfl) rfl dL_worth_4 (fun q_r1 => ?_)
      refine V_astore (ls' := [(4, .ref (q_r1)), (0, .ref (zad L (a0))), (1, .int (i1)), (2, .int (i2)), (3, .ref (zad L (a3)))]) dL_worth_14 (by decide) rfl ?_
      refine V_iconst (v := 1) dL_worth_16 (by decide) ?_
      obtain rfl := Option.some.inj h
      exact V_iret rfl hq dL_worth_17
    · replace h := (oi h).2 c6
      by_cases c5 : E_r1 = "java/lang/IllegalArgumentException"
      · replace h := (oi h).1 c5
        subst c5
        refine V_callVc (As := [.int (i1), .int (i2)]) (rest := [.ref (zad L (a3))]) (pre := [⟨0, 11, 14, 38⟩]) (suf := []) (x := ⟨0, 11, 18, 19⟩) (c_X3_worth e_r1) (by rw [zht_L_worth]; rfl) (fun z hz => by
            simp only [List.mem_cons, List.not_mem_nil, or_false] at hz
            rcases hz with rfl
            · exact ⟨by decide, "java/lang/IndexOutOfBoundsException", zk_L_38, by decide⟩) ⟨by decide, by decide, zk_L_19, zcs_IllegalArgumentException⟩ zc_X3_worth rfl (by decide) rfl (by decide) (Or.inl c2) zm_L_87 (Nat.le_of_ble_eq_true rfl) rfl dL_worth_4 (fun q_r1 => ?_)
        refine V_astore (ls' := [(4, .ref (q_r1)), (0, .ref (zad L (a0))), (1, .int (i1)), (2, .int (i2)), (3, .ref (zad L (a3)))]) dL_worth_18 (by decide) rfl ?_
        refine V_iconst (v := 2) dL_worth_20 (by decide) ?_
        obtain rfl := Option.some.inj h
        exact V_iret rfl hq dL_worth_21
      · replace h := (oi h).2 c5
        cases h
  · refine V_callVx_I (As := [.int (i1), .int (i2)]) (rest := [.ref (zad L (a3))]) (c_X3_worth e_r1) zc_X3_worth rfl (by decide) rfl (by decide) (Or.inl c2) zm_L_87 (Nat.le_of_ble_eq_true rfl) rfl dL_worth_4 ?_
    refine V_pc (pc' := 7) rfl ?_
    refine V_i2l dL_worth_7 ?_
    replace h := ob h
    obtain ⟨M4, e_M4, h⟩ := h
    refine V_putJN (ref := "") zf_10_0 zlN_L_13 rfl rfl e_M4 dL_worth_8 ?_
    refine V_pc (pc' := 11) rfl ?_
    refine V_goto (tgt := 22) dL_worth_11 (by decide) ?_
    refine V_iconst (v := 0) dL_worth_22 (by decide) ?_
    obtain rfl := Option.some.inj h
    exact V_iret rfl hq dL_worth_23
def f_L_worth (a0 : Nat) (i1 : Int32) (i2 : Int32) (a3 : Nat) (M : zM) : Option (Int32 × zM) := f_L_worth_0 a0 i1 i2 a3 M
theorem c_L_worth {L : zL} {l : Launch} {a0 : Nat} {i1 : Int32} {i2 : Int32} {a3 : Nat} {M : zM} {r : Int32 × zM} (h : f_L_worth a0 i1 i2 a3 M = some r) : CH L l yL_worth cL_worth 5 (some FieldType.int) [(0, 11, 14, 38), (0, 11, 18, 19)] 8 M [.ref (zad L (a0)), .int (i1), .int (i2), .ref (zad L (a3))] (some (.int r.1)) r.2 :=
  CH.of ⟨by decide +kernel, zht_L_worth⟩ (Nat.le_of_ble_eq_true rfl) fun X Q hq => s_L_worth_0 hq h
/-! WindsparlourLaw.isSafe(LWindsparlour;IILWindsparlourLaw$Out;)I -/
theorem dL_isSafe_0 : decode cL_isSafe 0 = .ok (.aload_n 3, 1) := by decide +kernel
theorem dL_isSafe_1 : decode cL_isSafe 1 = .ok (.aload_n 0, 1) := by decide +kernel
theorem dL_isSafe_2 : decode cL_isSafe 2 = .ok (.iload_n 1, 1) := by decide +kernel
theorem dL_isSafe_3 : decode cL_isSafe 3 = .ok (.iload_n 2, 1) := by decide +kernel
theorem dL_isSafe_4 : decode cL_isSafe 4 = .ok (.invokevirtual 90, 3) := by decide +kernel
theorem dL_isSafe_7 : decode cL_isSafe 7 = .ok (.ifCond .eq 7, 3) := by decide +kernel
theorem dL_isSafe_10 : decode cL_isSafe 10 = .ok (.lconst 1, 1) := by decide +kernel
theorem dL_isSafe_11 : decode cL_isSafe 11 = .ok (.goto 4, 3) := by decide +kernel
theorem dL_isSafe_14 : decode cL_isSafe 14 = .ok (.lconst 0, 1) := by decide +kernel
theorem dL_isSafe_15 : decode cL_isSafe 15 = .ok (.putfield 13, 3) := by decide +kernel
theorem dL_isSafe_18 : decode cL_isSafe 18 = .ok (.goto 11, 3) := by decide +kernel
theorem dL_isSafe_21 : decode cL_isSafe 21 = .ok (.astore 4, 2) := by decide +kernel
theorem dL_isSafe_23 : decode cL_isSafe 23 = .ok (.iconst 1, 1) := by decide +kernel
theorem dL_isSafe_24 : decode cL_isSafe 24 = .ok (.ireturn, 1) := by decide +kernel
theorem dL_isSafe_25 : decode cL_isSafe 25 = .ok (.astore 4, 2) := by decide +kernel
theorem dL_isSafe_27 : decode cL_isSafe 27 = .ok (.iconst 2, 1) := by decide +kernel
theorem dL_isSafe_28 : decode cL_isSafe 28 = .ok (.ireturn, 1) := by decide +kernel
theorem dL_isSafe_29 : decode cL_isSafe 29 = .ok (.iconst 0, 1) := by decide +kernel
theorem dL_isSafe_30 : decode cL_isSafe 30 = .ok (.ireturn, 1) := by decide +kernel
theorem zht_L_isSafe : zht yL_isSafe = [(0, 18, 21, 38), (0, 18, 25, 19)] := by decide +kernel
def f_L_isSafe_15 (j_0 : Int64) (a_1 : Nat) (M : zM) : Option (Int32 × zM) :=
  (pJ 10 0 M a_1 j_0).bind fun M1 =>
  some ((0 : Int32), M1)
set_option maxRecDepth 20000 in
set_option maxHeartbeats 4000000 in
theorem s_L_isSafe_15 {L : zL} {X : zX} {M0 : zM} {N : Nat × Nat} {Q : State → Prop} {r : Int32 × zM} (hq : vQ L X M0 N Q (some (.int r.1)) r.2) {j_0 : Int64} {a_1 : Nat} {M : zM} (h : f_L_isSafe_15 j_0 a_1 M = some r) : V L X yL_isSafe cL_isSafe 5 (some FieldType.int) 8 M0 N Q M 15 [] [.long (j_0), .ref (zad L (a_1))] := by
  unfold f_L_isSafe_15 at h
  replace h := ob h
  obtain ⟨M1, e_M1, h⟩ := h
  refine V_putJN (ref := "") zf_10_0 zlN_L_13 rfl rfl e_M1 dL_isSafe_15 ?_
  refine V_pc (pc' := 18) rfl ?_
  refine V_goto (tgt := 29) dL_isSafe_18 (by decide) ?_
  refine V_iconst (v := 0) dL_isSafe_29 (by decide) ?_
  obtain rfl := Option.some.inj h
  exact V_iret rfl hq dL_isSafe_30
def f_L_isSafe_0 (a0 : Nat) (i1 : Int32) (i2 : Int32) (a3 : Nat) (M : zM) : Option (Int32 × zM) :=
  if mK M a0 = 9 then
  xc (f_X3_isSafe a0 i1 i2 M) (fun E_r1 M_r1 =>
  if E_r1 = "java/lang/IndexOutOfBoundsException" then
  some ((1 : Int32), M_r1)
  else
  if E_r1 = "java/lang/IllegalArgumentException" then
  some ((2 : Int32), M_r1)
  else
  none) fun w1 Mw1 =>
  if w1 = 0 then
  f_L_isSafe_15 ((0 : Int64)) a3 Mw1
  else
  f_L_isSafe_15 ((1 : Int64)) a3 Mw1
  else none
set_option maxRecDepth 20000 in
set_option maxHeartbeats 4000000 in
theorem s_L_isSafe_0 {L : zL} {X : zX} {M0 : zM} {N : Nat × Nat} {Q : State → Prop} {r : Int32 × zM} (hq : vQ L X M0 N Q (some (.int r.1)) r.2) {a0 : Nat} {i1 : Int32} {i2 : Int32} {a3 : Nat} {M : zM} (h : f_L_isSafe_0 a0 i1 i2 a3 M = some r) : V L X yL_isSafe cL_isSafe 5 (some FieldType.int) 8 M0 N Q M 0 [(0, .ref (zad L (a0))), (1, .int (i1)), (2, .int (i2)), (3, .ref (zad L (a3)))] [] := by
  unfold f_L_isSafe_0 at h
  refine V_aload_n dL_isSafe_0 rfl 3 rfl ?_
  refine V_aload_n dL_isSafe_1 rfl 0 rfl ?_
  refine V_iload_n dL_isSafe_2 rfl 1 rfl ?_
  refine V_iload_n dL_isSafe_3 rfl 2 rfl ?_
  replace h := ox h
  obtain ⟨c2, h⟩ := h
  replace h := xcs h
  rcases h with ⟨E_r1, M_r1, e_r1, h⟩ | ⟨w1, Mw1, e_r1, h⟩
  · by_cases c6 : E_r1 = "java/lang/IndexOutOfBoundsException"
    · replace h := (oi h).1 c6
      subst c6
      refine V_callVc (As := [.int (i1), .int (i2)]) (rest := [.ref (zad L (a3))]) (pre := []) (suf := [⟨0, 18, 25, 19⟩]) (x := ⟨0, 18, 21, 38⟩) (c_X3_isSafe e_r1) (by rw [zht_L_isSafe]; rfl) (fun _ hz => by cases hz) ⟨by decide, by decide, zk_L_38, zcs_IndexOutOfBoundsException⟩ zc_X3_isSafe rfl (by decide) rfl (by decide) (Or.inl c2) zm_L_90 (Nat.le_of_ble_eq_true rfl) rfl dL_isSafe_4 (fun q_r1 => ?_)
      refine V_astore (ls' := [(4, .ref (q_r1)), (0, .ref (zad L (a0))), (1, .int (i1)), (2, .int (i2)), (3, .ref (zad L (a3)))]) dL_isSafe_21 (by decide) rfl ?_
      refine V_iconst (v := 1) dL_isSafe_23 (by decide) ?_
      obtain rfl := Option.some.inj h
      exact V_iret rfl hq dL_isSafe_24
    · replace h := (oi h).2 c6
      by_cases c5 : E_r1 = "java/lang/IllegalArgumentException"
      · replace h := (oi h).1 c5
        subst c5
        refine V_callVc (As := [.int (i1), .int (i2)]) (rest := [.ref (zad L (a3))]) (pre := [⟨0, 18, 21, 38⟩]) (suf := []) (x := ⟨0, 18, 25, 19⟩) (c_X3_isSafe e_r1) (by rw [zht_L_isSafe]; rfl) (fun z hz => by
            simp only [List.mem_cons, List.not_mem_nil, or_false] at hz
            rcases hz with rfl
            · exact ⟨by decide, "java/lang/IndexOutOfBoundsException", zk_L_38, by decide⟩) ⟨by decide, by decide, zk_L_19, zcs_IllegalArgumentException⟩ zc_X3_isSafe rfl (by decide) rfl (by decide) (Or.inl c2) zm_L_90 (Nat.le_of_ble_eq_true rfl) rfl dL_isSafe_4 (fun q_r1 => ?_)
        refine V_astore (ls' := [(4, .ref (q_r1)), (0, .ref (zad L (a0))), (1, .int (i1)), (2, .int (i2)), (3, .ref (zad L (a3)))]) dL_isSafe_25 (by decide) rfl ?_
        refine V_iconst (v := 2) dL_isSafe_27 (by decide) ?_
        obtain rfl := Option.some.inj h
        exact V_iret rfl hq dL_isSafe_28
      · replace h := (oi h).2 c5
        cases h
  · refine V_callVx_I (As := [.int (i1), .int (i2)]) (rest := [.ref (zad L (a3))]) (c_X3_isSafe e_r1) zc_X3_isSafe rfl (by decide) rfl (by decide) (Or.inl c2) zm_L_90 (Nat.le_of_ble_eq_true rfl) rfl dL_isSafe_4 ?_
    refine V_pc (pc' := 7) rfl ?_
    refine V_if_eq (tgt := 14) dL_isSafe_7 (by decide) (fun c4 => ?_) (fun c4 => ?_)
    · replace h := (oi h).1 c4
      refine V_lconst (v := 0) dL_isSafe_14 (by decide) ?_
      refine V_sub [] rfl ?_
      exact s_L_isSafe_15 hq h
    · replace h := (oi h).2 c4
      refine V_lconst (v := 1) dL_isSafe_10 (by decide) ?_
      refine V_goto (tgt := 15) dL_isSafe_11 (by decide) ?_
      refine V_sub [] rfl ?_
      exact s_L_isSafe_15 hq h
def f_L_isSafe (a0 : Nat) (i1 : Int32) (i2 : Int32) (a3 : Nat) (M : zM) : Option (Int32 × zM) := f_L_isSafe_0 a0 i1 i2 a3 M
theorem c_L_isSafe {L : zL} {l : Launch} {a0 : Nat} {i1 : Int32} {i2 : Int32} {a3 : Nat} {M : zM} {r : Int32 × zM} (h : f_L_isSafe a0 i1 i2 a3 M = some r) : CH L l yL_isSafe cL_isSafe 5 (some FieldType.int) [(0, 18, 21, 38), (0, 18, 25, 19)] 8 M [.ref (zad L (a0)), .int (i1), .int (i2), .ref (zad L (a3))] (some (.int r.1)) r.2 :=
  CH.of ⟨by decide +kernel, zht_L_isSafe⟩ (Nat.le_of_ble_eq_true rfl) fun X Q hq => s_L_isSafe_0 hq h
/-! WindsparlourLaw.outs(LWindsparlour;ILWindsparlourLaw$Out;)I -/
theorem dL_outs_0 : decode cL_outs 0 = .ok (.aload_n 2, 1) := by decide +kernel
theorem dL_outs_1 : decode cL_outs 1 = .ok (.aload_n 0, 1) := by decide +kernel
theorem dL_outs_2 : decode cL_outs 2 = .ok (.iload_n 1, 1) := by decide +kernel
theorem dL_outs_3 : decode cL_outs 3 = .ok (.invokevirtual 94, 3) := by decide +kernel
theorem dL_outs_6 : decode cL_outs 6 = .ok (.i2l, 1) := by decide +kernel
theorem dL_outs_7 : decode cL_outs 7 = .ok (.putfield 13, 3) := by decide +kernel
theorem dL_outs_10 : decode cL_outs 10 = .ok (.goto 6, 3) := by decide +kernel
theorem dL_outs_13 : decode cL_outs 13 = .ok (.astore_n 3, 1) := by decide +kernel
theorem dL_outs_14 : decode cL_outs 14 = .ok (.iconst 1, 1) := by decide +kernel
theorem dL_outs_15 : decode cL_outs 15 = .ok (.ireturn, 1) := by decide +kernel
theorem dL_outs_16 : decode cL_outs 16 = .ok (.iconst 0, 1) := by decide +kernel
theorem dL_outs_17 : decode cL_outs 17 = .ok (.ireturn, 1) := by decide +kernel
theorem zht_L_outs : zht yL_outs = [(0, 10, 13, 38)] := by decide +kernel
def f_L_outs_0 (a0 : Nat) (i1 : Int32) (a2 : Nat) (M : zM) : Option (Int32 × zM) :=
  if mK M a0 = 9 then
  xc (f_X3_outs a0 i1 M) (fun E_r1 M_r1 =>
  if E_r1 = "java/lang/IndexOutOfBoundsException" then
  some ((1 : Int32), M_r1)
  else
  none) fun w1 Mw1 =>
  (pJ 10 0 Mw1 a2 ((w1.toInt64))).bind fun M4 =>
  some ((0 : Int32), M4)
  else none
set_option maxRecDepth 20000 in
set_option maxHeartbeats 4000000 in
theorem s_L_outs_0 {L : zL} {X : zX} {M0 : zM} {N : Nat × Nat} {Q : State → Prop} {r : Int32 × zM} (hq : vQ L X M0 N Q (some (.int r.1)) r.2) {a0 : Nat} {i1 : Int32} {a2 : Nat} {M : zM} (h : f_L_outs_0 a0 i1 a2 M = some r) : V L X yL_outs cL_outs 4 (some FieldType.int) 71 M0 N Q M 0 [(0, .ref (zad L (a0))), (1, .int (i1)), (2, .ref (zad L (a2)))] [] := by
  unfold f_L_outs_0 at h
  refine V_aload_n dL_outs_0 rfl 2 rfl ?_
  refine V_aload_n dL_outs_1 rfl 0 rfl ?_
  refine V_iload_n dL_outs_2 rfl 1 rfl ?_
  replace h := ox h
  obtain ⟨c2, h⟩ := h
  replace h := xcs h
  rcases h with ⟨E_r1, M_r1, e_r1, h⟩ | ⟨w1, Mw1, e_r1, h⟩
  · by_cases c5 : E_r1 = "java/lang/IndexOutOfBoundsException"
    · replace h := (oi h).1 c5
      subst c5
      refine V_callVc (As := [.int (i1)]) (rest := [.ref (zad L (a2))]) (pre := []) (suf := []) (x := ⟨0, 10, 13, 38⟩) (c_X3_outs e_r1) (by rw [zht_L_outs]; rfl) (fun _ hz => by cases hz) ⟨by decide, by decide, zk_L_38, zcs_IndexOutOfBoundsException⟩ zc_X3_outs rfl (by decide) rfl (by decide) (Or.inl c2) zm_L_94 (Nat.le_of_ble_eq_true rfl) rfl dL_outs_3 (fun q_r1 => ?_)
      refine V_astore_n (ls' := [(3, .ref (q_r1)), (0, .ref (zad L (a0))), (1, .int (i1)), (2, .ref (zad L (a2)))]) dL_outs_13 rfl (by decide) rfl ?_
      refine V_iconst (v := 1) dL_outs_14 (by decide) ?_
      obtain rfl := Option.some.inj h
      exact V_iret rfl hq dL_outs_15
    · replace h := (oi h).2 c5
      cases h
  · refine V_callVx_I (As := [.int (i1)]) (rest := [.ref (zad L (a2))]) (c_X3_outs e_r1) zc_X3_outs rfl (by decide) rfl (by decide) (Or.inl c2) zm_L_94 (Nat.le_of_ble_eq_true rfl) rfl dL_outs_3 ?_
    refine V_pc (pc' := 6) rfl ?_
    refine V_i2l dL_outs_6 ?_
    replace h := ob h
    obtain ⟨M4, e_M4, h⟩ := h
    refine V_putJN (ref := "") zf_10_0 zlN_L_13 rfl rfl e_M4 dL_outs_7 ?_
    refine V_pc (pc' := 10) rfl ?_
    refine V_goto (tgt := 16) dL_outs_10 (by decide) ?_
    refine V_iconst (v := 0) dL_outs_16 (by decide) ?_
    obtain rfl := Option.some.inj h
    exact V_iret rfl hq dL_outs_17
def f_L_outs (a0 : Nat) (i1 : Int32) (a2 : Nat) (M : zM) : Option (Int32 × zM) := f_L_outs_0 a0 i1 a2 M
theorem c_L_outs {L : zL} {l : Launch} {a0 : Nat} {i1 : Int32} {a2 : Nat} {M : zM} {r : Int32 × zM} (h : f_L_outs a0 i1 a2 M = some r) : CH L l yL_outs cL_outs 4 (some FieldType.int) [(0, 10, 13, 38)] 71 M [.ref (zad L (a0)), .int (i1), .ref (zad L (a2))] (some (.int r.1)) r.2 :=
  CH.of ⟨by decide +kernel, zht_L_outs⟩ (Nat.le_of_ble_eq_true rfl) fun X Q hq => s_L_outs_0 hq h
