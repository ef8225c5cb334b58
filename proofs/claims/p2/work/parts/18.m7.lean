/-! ===== METHODS, by program ===== -/
/-! WindsparlourModel.mayCall(I)Z -/
theorem dX7_mayCall_0 : decode cX7_mayCall 0 = .ok (.aload_n 0, 1) := by decide +kernel
theorem dX7_mayCall_1 : decode cX7_mayCall 1 = .ok (.getfield 50, 3) := by decide +kernel
theorem dX7_mayCall_4 : decode cX7_mayCall 4 = .ok (.iconst 1, 1) := by decide +kernel
theorem dX7_mayCall_5 : decode cX7_mayCall 5 = .ok (.if_icmp .ne 35, 3) := by decide +kernel
theorem dX7_mayCall_8 : decode cX7_mayCall 8 = .ok (.aload_n 0, 1) := by decide +kernel
theorem dX7_mayCall_9 : decode cX7_mayCall 9 = .ok (.invokevirtual 104, 3) := by decide +kernel
theorem dX7_mayCall_12 : decode cX7_mayCall 12 = .ok (.invokevirtual 158, 3) := by decide +kernel
theorem dX7_mayCall_15 : decode cX7_mayCall 15 = .ok (.ifCond .gt 25, 3) := by decide +kernel
theorem dX7_mayCall_18 : decode cX7_mayCall 18 = .ok (.aload_n 0, 1) := by decide +kernel
theorem dX7_mayCall_19 : decode cX7_mayCall 19 = .ok (.invokevirtual 104, 3) := by decide +kernel
theorem dX7_mayCall_22 : decode cX7_mayCall 22 = .ok (.getfield 151, 3) := by decide +kernel
theorem dX7_mayCall_25 : decode cX7_mayCall 25 = .ok (.ifCond .ne 15, 3) := by decide +kernel
theorem dX7_mayCall_28 : decode cX7_mayCall 28 = .ok (.aload_n 0, 1) := by decide +kernel
theorem dX7_mayCall_29 : decode cX7_mayCall 29 = .ok (.invokevirtual 104, 3) := by decide +kernel
theorem dX7_mayCall_32 : decode cX7_mayCall 32 = .ok (.getfield 94, 3) := by decide +kernel
theorem dX7_mayCall_35 : decode cX7_mayCall 35 = .ok (.iload_n 1, 1) := by decide +kernel
theorem dX7_mayCall_36 : decode cX7_mayCall 36 = .ok (.iaload, 1) := by decide +kernel
theorem dX7_mayCall_37 : decode cX7_mayCall 37 = .ok (.ifCond .ne 5, 3) := by decide +kernel
theorem dX7_mayCall_40 : decode cX7_mayCall 40 = .ok (.iconst 0, 1) := by decide +kernel
theorem dX7_mayCall_41 : decode cX7_mayCall 41 = .ok (.ireturn, 1) := by decide +kernel
theorem dX7_mayCall_42 : decode cX7_mayCall 42 = .ok (.aload_n 0, 1) := by decide +kernel
theorem dX7_mayCall_43 : decode cX7_mayCall 43 = .ok (.invokevirtual 104, 3) := by decide +kernel
theorem dX7_mayCall_46 : decode cX7_mayCall 46 = .ok (.getfield 94, 3) := by decide +kernel
theorem dX7_mayCall_49 : decode cX7_mayCall 49 = .ok (.iload_n 1, 1) := by decide +kernel
theorem dX7_mayCall_50 : decode cX7_mayCall 50 = .ok (.dup2, 1) := by decide +kernel
theorem dX7_mayCall_51 : decode cX7_mayCall 51 = .ok (.iaload, 1) := by decide +kernel
theorem dX7_mayCall_52 : decode cX7_mayCall 52 = .ok (.iconst 1, 1) := by decide +kernel
theorem dX7_mayCall_53 : decode cX7_mayCall 53 = .ok (.isub, 1) := by decide +kernel
theorem dX7_mayCall_54 : decode cX7_mayCall 54 = .ok (.iastore, 1) := by decide +kernel
theorem dX7_mayCall_55 : decode cX7_mayCall 55 = .ok (.aload_n 0, 1) := by decide +kernel
theorem dX7_mayCall_56 : decode cX7_mayCall 56 = .ok (.invokevirtual 104, 3) := by decide +kernel
theorem dX7_mayCall_59 : decode cX7_mayCall 59 = .ok (.invokevirtual 108, 3) := by decide +kernel
theorem dX7_mayCall_62 : decode cX7_mayCall 62 = .ok (.istore_n 2, 1) := by decide +kernel
theorem dX7_mayCall_63 : decode cX7_mayCall 63 = .ok (.aload_n 0, 1) := by decide +kernel
theorem dX7_mayCall_64 : decode cX7_mayCall 64 = .ok (.invokevirtual 104, 3) := by decide +kernel
theorem dX7_mayCall_67 : decode cX7_mayCall 67 = .ok (.getfield 94, 3) := by decide +kernel
theorem dX7_mayCall_70 : decode cX7_mayCall 70 = .ok (.iload_n 1, 1) := by decide +kernel
theorem dX7_mayCall_71 : decode cX7_mayCall 71 = .ok (.dup2, 1) := by decide +kernel
theorem dX7_mayCall_72 : decode cX7_mayCall 72 = .ok (.iaload, 1) := by decide +kernel
theorem dX7_mayCall_73 : decode cX7_mayCall 73 = .ok (.iconst 1, 1) := by decide +kernel
theorem dX7_mayCall_74 : decode cX7_mayCall 74 = .ok (.iadd, 1) := by decide +kernel
theorem dX7_mayCall_75 : decode cX7_mayCall 75 = .ok (.iastore, 1) := by decide +kernel
theorem dX7_mayCall_76 : decode cX7_mayCall 76 = .ok (.iload_n 2, 1) := by decide +kernel
theorem dX7_mayCall_77 : decode cX7_mayCall 77 = .ok (.ireturn, 1) := by decide +kernel
def f_X7_mayCall_0 (a0 : Nat) (i1 : Int32) (M : zM) : Option (Int32 × zM) :=
  (gI 13 6 M a0).bind fun v1 =>
  if v1 = ((1 : Int32)) then
  if mK M a0 = 13 then
  (f_X7_its a0 M).bind fun r2 =>
  if mK r2.2 r2.1 = 12 then
  (f_X6_open r2.1 r2.2).bind fun r4 =>
  if 0 < r4.1 then
  some ((0 : Int32), r4.2)
  else
  if mK r4.2 a0 = 13 then
  (f_X7_its a0 r4.2).bind fun r6 =>
  (gI 12 6 r6.2 r6.1).bind fun v8 =>
  if v8 = 0 then
  if mK r6.2 a0 = 13 then
  (f_X7_its a0 r6.2).bind fun r9 =>
  (gR 12 2 r9.2 r9.1).bind fun v11 =>
  (lA 0 r9.2 v11 i1).bind fun v12 =>
  if v12 = 0 then
  some ((0 : Int32), r9.2)
  else
  if mK r9.2 a0 = 13 then
  (f_X7_its a0 r9.2).bind fun r13 =>
  (gR 12 2 r13.2 r13.1).bind fun v15 =>
  (lA 0 r13.2 v15 i1).bind fun v16 =>
  (tA r13.2 v15 i1 ((v16 - ((1 : Int32))))).bind fun M17 =>
  if mK M17 a0 = 13 then
  (f_X7_its a0 M17).bind fun r18 =>
  if mK r18.2 r18.1 = 12 then
  (f_X6_isReady r18.1 r18.2).bind fun r20 =>
  if mK r20.2 a0 = 13 then
  (f_X7_its a0 r20.2).bind fun r22 =>
  (gR 12 2 r22.2 r22.1).bind fun v24 =>
  (lA 0 r22.2 v24 i1).bind fun v25 =>
  (tA r22.2 v24 i1 ((v25 + ((1 : Int32))))).bind fun M26 =>
  if r20.1 = 0 ∨ r20.1 = 1 then some (r20.1, M26) else none
  else none
  else none
  else none
  else none
  else none
  else
  some ((0 : Int32), r6.2)
  else none
  else none
  else none
  else
  some ((0 : Int32), M)
set_option maxRecDepth 20000 in
set_option maxHeartbeats 4000000 in
theorem s_X7_mayCall_0 {L : zL} {X : zX} {M0 : zM} {N : Nat × Nat} {Q : State → Prop} {r : Int32 × zM} (hq : vQ L X M0 N Q (some (.int r.1)) r.2) {a0 : Nat} {i1 : Int32} {M : zM} (h : f_X7_mayCall_0 a0 i1 M = some r) : V L X yX7_mayCall cX7_mayCall 3 (some FieldType.boolean) 70 M0 N Q M 0 [(0, .ref (zad L (a0))), (1, .int (i1))] [] := by
  unfold f_X7_mayCall_0 at h
  refine V_aload_n dX7_mayCall_0 rfl 0 rfl ?_
  replace h := ob h
  obtain ⟨v1, e_v1, h⟩ := h
  refine V_getI zf_13_6 zl_X7_50 e_v1 dX7_mayCall_1 ?_
  refine V_pc (pc' := 4) rfl ?_
  refine V_iconst (v := 1) dX7_mayCall_4 (by decide) ?_
  refine V_icmp_ne (tgt := 40) dX7_mayCall_5 (by decide) (fun c31 => ?_) (fun c31 => ?_)
  · replace h := (oi h).2 c31
    refine V_iconst (v := 0) dX7_mayCall_40 (by decide) ?_
    cases h
    exact V_zret (ty := .boolean) rfl rfl hq dX7_mayCall_41
  · replace h := (oi h).1 c31
    refine V_aload_n dX7_mayCall_8 rfl 0 rfl ?_
    replace h := ox h
    obtain ⟨c3, h⟩ := h
    replace h := ob h
    obtain ⟨r2, e_r2, h⟩ := h
    refine V_callV_A (As := []) (rest := []) (c_X7_its e_r2) zc_X7_its rfl (by decide) rfl (by decide) (Or.inl c3) zm_X7_104 (Nat.le_of_ble_eq_true rfl) rfl dX7_mayCall_9 ?_
    refine V_pc (pc' := 12) rfl ?_
    replace h := ox h
    obtain ⟨c5, h⟩ := h
    replace h := ob h
    obtain ⟨r4, e_r4, h⟩ := h
    refine V_callV_I (As := []) (rest := []) (c_X6_open e_r4) zc_X6_open rfl (by decide) rfl (by decide) (Or.inl c5) zm_X7_158 (Nat.le_of_ble_eq_true rfl) rfl dX7_mayCall_12 ?_
    refine V_pc (pc' := 15) rfl ?_
    refine V_if_gt (tgt := 40) dX7_mayCall_15 (by decide) (fun c30 => ?_) (fun c30 => ?_)
    · replace h := (oi h).1 c30
      refine V_iconst (v := 0) dX7_mayCall_40 (by decide) ?_
      cases h
      exact V_zret (ty := .boolean) rfl rfl hq dX7_mayCall_41
    · replace h := (oi h).2 c30
      refine V_aload_n dX7_mayCall_18 rfl 0 rfl ?_
      replace h := ox h
      obtain ⟨c7, h⟩ := h
      replace h := ob h
      obtain ⟨r6, e_r6, h⟩ := h
      refine V_callV_A (As := []) (rest := []) (c_X7_its e_r6) zc_X7_its rfl (by decide) rfl (by decide) (Or.inl c7) zm_X7_104 (Nat.le_of_ble_eq_true rfl) rfl dX7_mayCall_19 ?_
      refine V_pc (pc' := 22) rfl ?_
      replace h := ob h
      obtain ⟨v8, e_v8, h⟩ := h
      refine V_getI zf_12_6 zl_X7_151 e_v8 dX7_mayCall_22 ?_
      refine V_pc (pc' := 25) rfl ?_
      refine V_if_ne (tgt := 40) dX7_mayCall_25 (by decide) (fun c29 => ?_) (fun c29 => ?_)
      · replace h := (oi h).2 c29
        refine V_iconst (v := 0) dX7_mayCall_40 (by decide) ?_
        cases h
        exact V_zret (ty := .boolean) rfl rfl hq dX7_mayCall_41
      · replace h := (oi h).1 c29
        refine V_aload_n dX7_mayCall_28 rfl 0 rfl ?_
        replace h := ox h
        obtain ⟨c10, h⟩ := h
        replace h := ob h
        obtain ⟨r9, e_r9, h⟩ := h
        refine V_callV_A (As := []) (rest := []) (c_X7_its e_r9) zc_X7_its rfl (by decide) rfl (by decide) (Or.inl c10) zm_X7_104 (Nat.le_of_ble_eq_true rfl) rfl dX7_mayCall_29 ?_
        refine V_pc (pc' := 32) rfl ?_
        replace h := ob h
        obtain ⟨v11, e_v11, h⟩ := h
        refine V_getR zf_12_2 zl_X7_94 e_v11 dX7_mayCall_32 ?_
        refine V_pc (pc' := 35) rfl ?_
        refine V_iload_n dX7_mayCall_35 rfl 1 rfl ?_
        replace h := ob h
        obtain ⟨v12, e_v12, h⟩ := h
        refine V_iald e_v12 dX7_mayCall_36 ?_
        refine V_pc (pc' := 37) rfl ?_
        refine V_if_ne (tgt := 42) dX7_mayCall_37 (by decide) (fun c28 => ?_) (fun c28 => ?_)
        · replace h := (oi h).2 c28
          refine V_aload_n dX7_mayCall_42 rfl 0 rfl ?_
          replace h := ox h
          obtain ⟨c14, h⟩ := h
          replace h := ob h
          obtain ⟨r13, e_r13, h⟩ := h
          refine V_callV_A (As := []) (rest := []) (c_X7_its e_r13) zc_X7_its rfl (by decide) rfl (by decide) (Or.inl c14) zm_X7_104 (Nat.le_of_ble_eq_true rfl) rfl dX7_mayCall_43 ?_
          refine V_pc (pc' := 46) rfl ?_
          replace h := ob h
          obtain ⟨v15, e_v15, h⟩ := h
          refine V_getR zf_12_2 zl_X7_94 e_v15 dX7_mayCall_46 ?_
          refine V_pc (pc' := 49) rfl ?_
          refine V_iload_n dX7_mayCall_49 rfl 1 rfl ?_
          refine V_dup2 dX7_mayCall_50 rfl rfl ?_
          replace h := ob h
          obtain ⟨v16, e_v16, h⟩ := h
          refine V_iald e_v16 dX7_mayCall_51 ?_
          refine V_pc (pc' := 52) rfl ?_
          refine V_iconst (v := 1) dX7_mayCall_52 (by decide) ?_
          refine V_isub dX7_mayCall_53 ?_
          replace h := ob h
          obtain ⟨M17, e_M17, h⟩ := h
          refine V_iast e_M17 dX7_mayCall_54 ?_
          refine V_aload_n dX7_mayCall_55 rfl 0 rfl ?_
          replace h := ox h
          obtain ⟨c19, h⟩ := h
          replace h := ob h
          obtain ⟨r18, e_r18, h⟩ := h
          refine V_callV_A (As := []) (rest := []) (c_X7_its e_r18) zc_X7_its rfl (by decide) rfl (by decide) (Or.inl c19) zm_X7_104 (Nat.le_of_ble_eq_true rfl) rfl dX7_mayCall_56 ?_
          refine V_pc (pc' := 59) rfl ?_
          replace h := ox h
          obtain ⟨c21, h⟩ := h
          replace h := ob h
          obtain ⟨r20, e_r20, h⟩ := h
          refine V_callV_I (As := []) (rest := []) (c_X6_isReady e_r20) zc_X6_isReady rfl (by decide) rfl (by decide) (Or.inl c21) zm_X7_108 (Nat.le_of_ble_eq_true rfl) rfl dX7_mayCall_59 ?_
          refine V_pc (pc' := 62) rfl ?_
          refine V_istore_n (ls' := [(2, .int (r20.1)), (0, .ref (zad L (a0))), (1, .int (i1))]) dX7_mayCall_62 rfl (by decide) rfl ?_
          refine V_aload_n dX7_mayCall_63 rfl 1 rfl ?_
          replace h := ox h
          obtain ⟨c23, h⟩ := h
          replace h := ob h
          obtain ⟨r22, e_r22, h⟩ := h
          refine V_callV_A (As := []) (rest := []) (c_X7_its e_r22) zc_X7_its rfl (by decide) rfl (by decide) (Or.inl c23) zm_X7_104 (Nat.le_of_ble_eq_true rfl) rfl dX7_mayCall_64 ?_
          refine V_pc (pc' := 67) rfl ?_
          replace h := ob h
          obtain ⟨v24, e_v24, h⟩ := h
          refine V_getR zf_12_2 zl_X7_94 e_v24 dX7_mayCall_67 ?_
          refine V_pc (pc' := 70) rfl ?_
          refine V_iload_n dX7_mayCall_70 rfl 2 rfl ?_
          refine V_dup2 dX7_mayCall_71 rfl rfl ?_
          replace h := ob h
          obtain ⟨v25, e_v25, h⟩ := h
          refine V_iald e_v25 dX7_mayCall_72 ?_
          refine V_pc (pc' := 73) rfl ?_
          refine V_iconst (v := 1) dX7_mayCall_73 (by decide) ?_
          refine V_iadd dX7_mayCall_74 ?_
          replace h := ob h
          obtain ⟨M26, e_M26, h⟩ := h
          refine V_iast e_M26 dX7_mayCall_75 ?_
          refine V_iload_n dX7_mayCall_76 rfl 0 rfl ?_
          replace h := ox h
          obtain ⟨c27, h⟩ := h
          cases h
          exact V_zret (ty := .boolean) rfl (by rcases c27 with e | e <;> rw [e] <;> rfl) hq dX7_mayCall_77
        · replace h := (oi h).1 c28
          refine V_iconst (v := 0) dX7_mayCall_40 (by decide) ?_
          cases h
          exact V_zret (ty := .boolean) rfl rfl hq dX7_mayCall_41
def f_X7_mayCall (a0 : Nat) (i1 : Int32) (M : zM) : Option (Int32 × zM) := f_X7_mayCall_0 a0 i1 M
theorem c_X7_mayCall {L : zL} {l : Launch} {a0 : Nat} {i1 : Int32} {M : zM} {r : Int32 × zM} (h : f_X7_mayCall a0 i1 M = some r) : CP L l yX7_mayCall cX7_mayCall 3 (some FieldType.boolean) 70 M [.ref (zad L (a0)), .int (i1)] (some (.int r.1)) r.2 :=
  CP.of ⟨by decide +kernel, by decide +kernel⟩ (Nat.le_of_ble_eq_true rfl) fun X Q hq => s_X7_mayCall_0 hq h
/-! WindsparlourModel.call(I)I -/
theorem dX7_call_0 : decode cX7_call 0 = .ok (.aload_n 0, 1) := by decide +kernel
theorem dX7_call_1 : decode cX7_call 1 = .ok (.iload_n 1, 1) := by decide +kernel
theorem dX7_call_2 : decode cX7_call 2 = .ok (.invokestatic 147, 3) := by decide +kernel
theorem dX7_call_5 : decode cX7_call 5 = .ok (.ifCond .ne 7, 3) := by decide +kernel
theorem dX7_call_8 : decode cX7_call 8 = .ok (.iconst 1, 1) := by decide +kernel
theorem dX7_call_9 : decode cX7_call 9 = .ok (.goto 4, 3) := by decide +kernel
theorem dX7_call_12 : decode cX7_call 12 = .ok (.iconst 0, 1) := by decide +kernel
theorem dX7_call_13 : decode cX7_call 13 = .ok (.iconst 1, 1) := by decide +kernel
theorem dX7_call_14 : decode cX7_call 14 = .ok (.invokevirtual 85, 3) := by decide +kernel
theorem dX7_call_17 : decode cX7_call 17 = .ok (.ifCond .ne 24, 3) := by decide +kernel
theorem dX7_call_20 : decode cX7_call 20 = .ok (.aload_n 0, 1) := by decide +kernel
theorem dX7_call_21 : decode cX7_call 21 = .ok (.aload_n 0, 1) := by decide +kernel
theorem dX7_call_22 : decode cX7_call 22 = .ok (.iload_n 1, 1) := by decide +kernel
theorem dX7_call_23 : decode cX7_call 23 = .ok (.invokevirtual 161, 3) := by decide +kernel
theorem dX7_call_26 : decode cX7_call 26 = .ok (.ifCond .ne 7, 3) := by decide +kernel
theorem dX7_call_29 : decode cX7_call 29 = .ok (.iconst 1, 1) := by decide +kernel
theorem dX7_call_30 : decode cX7_call 30 = .ok (.goto 4, 3) := by decide +kernel
theorem dX7_call_33 : decode cX7_call 33 = .ok (.iconst 0, 1) := by decide +kernel
theorem dX7_call_34 : decode cX7_call 34 = .ok (.iconst 2, 1) := by decide +kernel
theorem dX7_call_35 : decode cX7_call 35 = .ok (.invokevirtual 68, 3) := by decide +kernel
theorem dX7_call_38 : decode cX7_call 38 = .ok (.ifCond .eq 5, 3) := by decide +kernel
theorem dX7_call_41 : decode cX7_call 41 = .ok (.iconst 0, 1) := by decide +kernel
theorem dX7_call_42 : decode cX7_call 42 = .ok (.ireturn, 1) := by decide +kernel
theorem dX7_call_43 : decode cX7_call 43 = .ok (.aload_n 0, 1) := by decide +kernel
theorem dX7_call_44 : decode cX7_call 44 = .ok (.invokevirtual 104, 3) := by decide +kernel
theorem dX7_call_47 : decode cX7_call 47 = .ok (.astore_n 2, 1) := by decide +kernel
theorem dX7_call_48 : decode cX7_call 48 = .ok (.aload_n 2, 1) := by decide +kernel
theorem dX7_call_49 : decode cX7_call 49 = .ok (.iconst 1, 1) := by decide +kernel
theorem dX7_call_50 : decode cX7_call 50 = .ok (.putfield 151, 3) := by decide +kernel
theorem dX7_call_53 : decode cX7_call 53 = .ok (.aload_n 2, 1) := by decide +kernel
theorem dX7_call_54 : decode cX7_call 54 = .ok (.dup, 1) := by decide +kernel
theorem dX7_call_55 : decode cX7_call 55 = .ok (.getfield 112, 3) := by decide +kernel
theorem dX7_call_58 : decode cX7_call 58 = .ok (.bipush 10, 2) := by decide +kernel
theorem dX7_call_60 : decode cX7_call 60 = .ok (.isub, 1) := by decide +kernel
theorem dX7_call_61 : decode cX7_call 61 = .ok (.putfield 112, 3) := by decide +kernel
theorem dX7_call_64 : decode cX7_call 64 = .ok (.aload_n 0, 1) := by decide +kernel
theorem dX7_call_65 : decode cX7_call 65 = .ok (.dup, 1) := by decide +kernel
theorem dX7_call_66 : decode cX7_call 66 = .ok (.getfield 164, 3) := by decide +kernel
theorem dX7_call_69 : decode cX7_call 69 = .ok (.bipush 10, 2) := by decide +kernel
theorem dX7_call_71 : decode cX7_call 71 = .ok (.iadd, 1) := by decide +kernel
theorem dX7_call_72 : decode cX7_call 72 = .ok (.putfield 164, 3) := by decide +kernel
theorem dX7_call_75 : decode cX7_call 75 = .ok (.aload_n 0, 1) := by decide +kernel
theorem dX7_call_76 : decode cX7_call 76 = .ok (.iload_n 1, 1) := by decide +kernel
theorem dX7_call_77 : decode cX7_call 77 = .ok (.invokevirtual 155, 3) := by decide +kernel
theorem dX7_call_80 : decode cX7_call 80 = .ok (.pop, 1) := by decide +kernel
theorem dX7_call_81 : decode cX7_call 81 = .ok (.aload_n 2, 1) := by decide +kernel
theorem dX7_call_82 : decode cX7_call 82 = .ok (.getfield 112, 3) := by decide +kernel
theorem dX7_call_85 : decode cX7_call 85 = .ok (.ireturn, 1) := by decide +kernel
def f_X7_call_34 (a0 : Nat) (i1 : Int32) (i_0 : Int32) (a_1 : Nat) (M : zM) : Option (Int32 × zM) :=
  if mK M a_1 = 13 then
  (f_X7_refuse a_1 i_0 ((2 : Int32)) M).bind fun r1 =>
  if r1.1 = 0 then
  if mK r1.2 a0 = 13 then
  (f_X7_its a0 r1.2).bind fun r3 =>
  (pZ 12 6 r3.2 r3.1 ((1 : Int32))).bind fun M5 =>
  (gI 12 0 M5 r3.1).bind fun v6 =>
  (pI 12 0 M5 r3.1 ((v6 - ((10 : Int32))))).bind fun M7 =>
  (gI 13 11 M7 a0).bind fun v8 =>
  (pI 13 11 M7 a0 ((v8 + ((10 : Int32))))).bind fun M9 =>
  if mK M9 a0 = 13 then
  (f_X7_away a0 i1 M9).bind fun r10 =>
  (gI 12 0 r10.2 r3.1).bind fun v12 =>
  some (v12, r10.2)
  else none
  else none
  else
  some ((0 : Int32), r1.2)
  else none
set_option maxRecDepth 20000 in
set_option maxHeartbeats 4000000 in
theorem s_X7_call_34 {L : zL} {X : zX} {M0 : zM} {N : Nat × Nat} {Q : State → Prop} {r : Int32 × zM} (hq : vQ L X M0 N Q (some (.int r.1)) r.2) {a0 : Nat} {i1 : Int32} {i_0 : Int32} {a_1 : Nat} {M : zM} (h : f_X7_call_34 a0 i1 i_0 a_1 M = some r) : V L X yX7_call cX7_call 3 (some FieldType.int) 71 M0 N Q M 34 [(0, .ref (zad L (a0))), (1, .int (i1))] [.int (i_0), .ref (zad L (a_1))] := by
  unfold f_X7_call_34 at h
  refine V_iconst (v := 2) dX7_call_34 (by decide) ?_
  replace h := ox h
  obtain ⟨c2, h⟩ := h
  replace h := ob h
  obtain ⟨r1, e_r1, h⟩ := h
  refine V_callV_I (As := [.int (i_0), .int ((2 : Int32))]) (rest := []) (c_X7_refuse e_r1) zc_X7_refuse rfl (by decide) rfl (by decide) (Or.inl c2) zm_X7_68 (Nat.le_of_ble_eq_true rfl) rfl dX7_call_35 ?_
  refine V_pc (pc' := 38) rfl ?_
  refine V_if_eq (tgt := 43) dX7_call_38 (by decide) (fun c13 => ?_) (fun c13 => ?_)
  · replace h := (oi h).1 c13
    refine V_aload_n dX7_call_43 rfl 0 rfl ?_
    replace h := ox h
    obtain ⟨c4, h⟩ := h
    replace h := ob h
    obtain ⟨r3, e_r3, h⟩ := h
    refine V_callV_A (As := []) (rest := []) (c_X7_its e_r3) zc_X7_its rfl (by decide) rfl (by decide) (Or.inl c4) zm_X7_104 (Nat.le_of_ble_eq_true rfl) rfl dX7_call_44 ?_
    refine V_pc (pc' := 47) rfl ?_
    refine V_astore_n (ls' := [(2, .ref (zad L (r3.1))), (0, .ref (zad L (a0))), (1, .int (i1))]) dX7_call_47 rfl (by decide) rfl ?_
    refine V_aload_n dX7_call_48 rfl 0 rfl ?_
    refine V_iconst (v := 1) dX7_call_49 (by decide) ?_
    replace h := ob h
    obtain ⟨M5, e_M5, h⟩ := h
    refine V_putZ zf_12_6 zl_X7_151 (Or.inl rfl) rfl e_M5 dX7_call_50 ?_
    refine V_pc (pc' := 53) rfl ?_
    refine V_aload_n dX7_call_53 rfl 0 rfl ?_
    refine V_dup dX7_call_54 rfl ?_
    replace h := ob h
    obtain ⟨v6, e_v6, h⟩ := h
    refine V_getI zf_12_0 zl_X7_112 e_v6 dX7_call_55 ?_
    refine V_pc (pc' := 58) rfl ?_
    refine V_bipush (v := 10) dX7_call_58 (by decide) ?_
    refine V_isub dX7_call_60 ?_
    replace h := ob h
    obtain ⟨M7, e_M7, h⟩ := h
    refine V_putI zf_12_0 zl_X7_112 (Or.inl rfl) rfl e_M7 dX7_call_61 ?_
    refine V_pc (pc' := 64) rfl ?_
    refine V_aload_n dX7_call_64 rfl 1 rfl ?_
    refine V_dup dX7_call_65 rfl ?_
    replace h := ob h
    obtain ⟨v8, e_v8, h⟩ := h
    refine V_getI zf_13_11 zl_X7_164 e_v8 dX7_call_66 ?_
    refine V_pc (pc' := 69) rfl ?_
    refine V_bipush (v := 10) dX7_call_69 (by decide) ?_
    refine V_iadd dX7_call_71 ?_
    replace h := ob h
    obtain ⟨M9, e_M9, h⟩ := h
    refine V_putI zf_13_11 zl_X7_164 (Or.inl rfl) rfl e_M9 dX7_call_72 ?_
    refine V_pc (pc' := 75) rfl ?_
    refine V_aload_n dX7_call_75 rfl 1 rfl ?_
    refine V_iload_n dX7_call_76 rfl 2 rfl ?_
    replace h := ox h
    obtain ⟨c11, h⟩ := h
    replace h := ob h
    obtain ⟨r10, e_r10, h⟩ := h
    refine V_callV_I (As := [.int (i1)]) (rest := []) (c_X7_away e_r10) zc_X7_away rfl (by decide) rfl (by decide) (Or.inl c11) zm_X7_155 (Nat.le_of_ble_eq_true rfl) rfl dX7_call_77 ?_
    refine V_pc (pc' := 80) rfl ?_
    refine V_pop dX7_call_80 rfl ?_
    refine V_aload_n dX7_call_81 rfl 0 rfl ?_
    replace h := ob h
    obtain ⟨v12, e_v12, h⟩ := h
    refine V_getI zf_12_0 zl_X7_112 e_v12 dX7_call_82 ?_
    refine V_pc (pc' := 85) rfl ?_
    cases h
    exact V_iret rfl hq dX7_call_85
  · replace h := (oi h).2 c13
    refine V_iconst (v := 0) dX7_call_41 (by decide) ?_
    cases h
    exact V_iret rfl hq dX7_call_42
def f_X7_call_13 (a0 : Nat) (i1 : Int32) (i_0 : Int32) (a_1 : Nat) (M : zM) : Option (Int32 × zM) :=
  if mK M a_1 = 13 then
  (f_X7_start a_1 i_0 ((1 : Int32)) M).bind fun r1 =>
  if r1.1 = 0 then
  if mK r1.2 a0 = 13 then
  (f_X7_mayCall a0 i1 r1.2).bind fun r3 =>
  if r3.1 = 0 then
  f_X7_call_34 a0 i1 ((1 : Int32)) a0 r3.2
  else
  f_X7_call_34 a0 i1 ((0 : Int32)) a0 r3.2
  else none
  else
  some ((0 : Int32), r1.2)
  else none
set_option maxRecDepth 20000 in
set_option maxHeartbeats 4000000 in
theorem s_X7_call_13 {L : zL} {X : zX} {M0 : zM} {N : Nat × Nat} {Q : State → Prop} {r : Int32 × zM} (hq : vQ L X M0 N Q (some (.int r.1)) r.2) {a0 : Nat} {i1 : Int32} {i_0 : Int32} {a_1 : Nat} {M : zM} (h : f_X7_call_13 a0 i1 i_0 a_1 M = some r) : V L X yX7_call cX7_call 3 (some FieldType.int) 71 M0 N Q M 13 [(0, .ref (zad L (a0))), (1, .int (i1))] [.int (i_0), .ref (zad L (a_1))] := by
  unfold f_X7_call_13 at h
  refine V_iconst (v := 1) dX7_call_13 (by decide) ?_
  replace h := ox h
  obtain ⟨c2, h⟩ := h
  replace h := ob h
  obtain ⟨r1, e_r1, h⟩ := h
  refine V_callV_I (As := [.int (i_0), .int ((1 : Int32))]) (rest := []) (c_X7_start e_r1) zc_X7_start rfl (by decide) rfl (by decide) (Or.inl c2) zm_X7_85 (Nat.le_of_ble_eq_true rfl) rfl dX7_call_14 ?_
  refine V_pc (pc' := 17) rfl ?_
  refine V_if_ne (tgt := 41) dX7_call_17 (by decide) (fun c6 => ?_) (fun c6 => ?_)
  · replace h := (oi h).2 c6
    refine V_iconst (v := 0) dX7_call_41 (by decide) ?_
    cases h
    exact V_iret rfl hq dX7_call_42
  · replace h := (oi h).1 c6
    refine V_aload_n dX7_call_20 rfl 0 rfl ?_
    refine V_aload_n dX7_call_21 rfl 0 rfl ?_
    refine V_iload_n dX7_call_22 rfl 1 rfl ?_
    replace h := ox h
    obtain ⟨c4, h⟩ := h
    replace h := ob h
    obtain ⟨r3, e_r3, h⟩ := h
    refine V_callV_I (As := [.int (i1)]) (rest := [.ref (zad L (a0))]) (c_X7_mayCall e_r3) zc_X7_mayCall rfl (by decide) rfl (by decide) (Or.inl c4) zm_X7_161 (Nat.le_of_ble_eq_true rfl) rfl dX7_call_23 ?_
    refine V_pc (pc' := 26) rfl ?_
    refine V_if_ne (tgt := 33) dX7_call_26 (by decide) (fun c5 => ?_) (fun c5 => ?_)
    · replace h := (oi h).2 c5
      refine V_iconst (v := 0) dX7_call_33 (by decide) ?_
      exact s_X7_call_34 hq h
    · replace h := (oi h).1 c5
      refine V_iconst (v := 1) dX7_call_29 (by decide) ?_
      refine V_goto (tgt := 34) dX7_call_30 (by decide) ?_
      exact s_X7_call_34 hq h
def f_X7_call_0 (a0 : Nat) (i1 : Int32) (M : zM) : Option (Int32 × zM) :=
  (f_X7_isKind i1 M).bind fun r1 =>
  if r1.1 = 0 then
  f_X7_call_13 a0 i1 ((1 : Int32)) a0 r1.2
  else
  f_X7_call_13 a0 i1 ((0 : Int32)) a0 r1.2
set_option maxRecDepth 20000 in
set_option maxHeartbeats 4000000 in
theorem s_X7_call_0 {L : zL} {X : zX} {M0 : zM} {N : Nat × Nat} {Q : State → Prop} {r : Int32 × zM} (hq : vQ L X M0 N Q (some (.int r.1)) r.2) {a0 : Nat} {i1 : Int32} {M : zM} (h : f_X7_call_0 a0 i1 M = some r) : V L X yX7_call cX7_call 3 (some FieldType.int) 71 M0 N Q M 0 [(0, .ref (zad L (a0))), (1, .int (i1))] [] := by
  unfold f_X7_call_0 at h
  refine V_aload_n dX7_call_0 rfl 0 rfl ?_
  refine V_iload_n dX7_call_1 rfl 1 rfl ?_
  replace h := ob h
  obtain ⟨r1, e_r1, h⟩ := h
  refine V_callS_I (As := [.int (i1)]) (rest := [.ref (zad L (a0))]) (c_X7_isKind e_r1) zc_X7_isKind rfl (by decide) zm_X7_147 (Nat.le_of_ble_eq_true rfl) rfl dX7_call_2 ?_
  refine V_pc (pc' := 5) rfl ?_
  refine V_if_ne (tgt := 12) dX7_call_5 (by decide) (fun c2 => ?_) (fun c2 => ?_)
  · replace h := (oi h).2 c2
    refine V_iconst (v := 0) dX7_call_12 (by decide) ?_
    exact s_X7_call_13 hq h
  · replace h := (oi h).1 c2
    refine V_iconst (v := 1) dX7_call_8 (by decide) ?_
    refine V_goto (tgt := 13) dX7_call_9 (by decide) ?_
    exact s_X7_call_13 hq h
def f_X7_call (a0 : Nat) (i1 : Int32) (M : zM) : Option (Int32 × zM) := f_X7_call_0 a0 i1 M
theorem c_X7_call {L : zL} {l : Launch} {a0 : Nat} {i1 : Int32} {M : zM} {r : Int32 × zM} (h : f_X7_call a0 i1 M = some r) : CP L l yX7_call cX7_call 3 (some FieldType.int) 71 M [.ref (zad L (a0)), .int (i1)] (some (.int r.1)) r.2 :=
  CP.of ⟨by decide +kernel, by decide +kernel⟩ (Nat.le_of_ble_eq_true rfl) fun X Q hq => s_X7_call_0 hq h
/-! WindsparlourModel.mayFour()Z -/
theorem dX7_mayFour_0 : decode cX7_mayFour 0 = .ok (.aload_n 0, 1) := by decide +kernel
theorem dX7_mayFour_1 : decode cX7_mayFour 1 = .ok (.getfield 101, 3) := by decide +kernel
theorem dX7_mayFour_4 : decode cX7_mayFour 4 = .ok (.iconst 4, 1) := by decide +kernel
theorem dX7_mayFour_5 : decode cX7_mayFour 5 = .ok (.if_icmp .ge 14, 3) := by decide +kernel
theorem dX7_mayFour_8 : decode cX7_mayFour 8 = .ok (.aload_n 0, 1) := by decide +kernel
theorem dX7_mayFour_9 : decode cX7_mayFour 9 = .ok (.invokevirtual 115, 3) := by decide +kernel
theorem dX7_mayFour_12 : decode cX7_mayFour 12 = .ok (.ifCond .eq 7, 3) := by decide +kernel
theorem dX7_mayFour_15 : decode cX7_mayFour 15 = .ok (.iconst 1, 1) := by decide +kernel
theorem dX7_mayFour_16 : decode cX7_mayFour 16 = .ok (.goto 4, 3) := by decide +kernel
theorem dX7_mayFour_19 : decode cX7_mayFour 19 = .ok (.iconst 0, 1) := by decide +kernel
theorem dX7_mayFour_20 : decode cX7_mayFour 20 = .ok (.ireturn, 1) := by decide +kernel
def f_X7_mayFour_0 (a0 : Nat) (M : zM) : Option (Int32 × zM) :=
  (gI 13 10 M a0).bind fun v1 =>
  if ((4 : Int32)) ≤ v1 then
  some ((0 : Int32), M)
  else
  if mK M a0 = 13 then
  (f_X7_canDraw a0 M).bind fun r2 =>
  if r2.1 = 0 then
  some ((0 : Int32), r2.2)
  else
  some ((1 : Int32), r2.2)
  else none
set_option maxRecDepth 20000 in
set_option maxHeartbeats 4000000 in
theorem s_X7_mayFour_0 {L : zL} {X : zX} {M0 : zM} {N : Nat × Nat} {Q : State → Prop} {r : Int32 × zM} (hq : vQ L X M0 N Q (some (.int r.1)) r.2) {a0 : Nat} {M : zM} (h : f_X7_mayFour_0 a0 M = some r) : V L X yX7_mayFour cX7_mayFour 1 (some FieldType.boolean) 3 M0 N Q M 0 [(0, .ref (zad L (a0)))] [] := by
  unfold f_X7_mayFour_0 at h
  refine V_aload_n dX7_mayFour_0 rfl 0 rfl ?_
  replace h := ob h
  obtain ⟨v1, e_v1, h⟩ := h
  refine V_getI zf_13_10 zl_X7_101 e_v1 dX7_mayFour_1 ?_
  refine V_pc (pc' := 4) rfl ?_
  refine V_iconst (v := 4) dX7_mayFour_4 (by decide) ?_
  refine V_icmp_ge (tgt := 19) dX7_mayFour_5 (by decide) (fun c5 => ?_) (fun c5 => ?_)
  · replace h := (oi h).1 c5
    refine V_iconst (v := 0) dX7_mayFour_19 (by decide) ?_
    cases h
    exact V_zret (ty := .boolean) rfl rfl hq dX7_mayFour_20
  · replace h := (oi h).2 c5
    refine V_aload_n dX7_mayFour_8 rfl 0 rfl ?_
    replace h := ox h
    obtain ⟨c3, h⟩ := h
    replace h := ob h
    obtain ⟨r2, e_r2, h⟩ := h
    refine V_callV_I (As := []) (rest := []) (c_X7_canDraw e_r2) zc_X7_canDraw rfl (by decide) rfl (by decide) (Or.inl c3) zm_X7_115 (Nat.le_of_ble_eq_true rfl) rfl dX7_mayFour_9 ?_
    refine V_pc (pc' := 12) rfl ?_
    refine V_if_eq (tgt := 19) dX7_mayFour_12 (by decide) (fun c4 => ?_) (fun c4 => ?_)
    · replace h := (oi h).1 c4
      refine V_iconst (v := 0) dX7_mayFour_19 (by decide) ?_
      cases h
      exact V_zret (ty := .boolean) rfl rfl hq dX7_mayFour_20
    · replace h := (oi h).2 c4
      refine V_iconst (v := 1) dX7_mayFour_15 (by decide) ?_
      refine V_goto (tgt := 20) dX7_mayFour_16 (by decide) ?_
      cases h
      exact V_zret (ty := .boolean) rfl rfl hq dX7_mayFour_20
def f_X7_mayFour (a0 : Nat) (M : zM) : Option (Int32 × zM) := f_X7_mayFour_0 a0 M
theorem c_X7_mayFour {L : zL} {l : Launch} {a0 : Nat} {M : zM} {r : Int32 × zM} (h : f_X7_mayFour a0 M = some r) : CP L l yX7_mayFour cX7_mayFour 1 (some FieldType.boolean) 3 M [.ref (zad L (a0))] (some (.int r.1)) r.2 :=
  CP.of ⟨by decide +kernel, by decide +kernel⟩ (Nat.le_of_ble_eq_true rfl) fun X Q hq => s_X7_mayFour_0 hq h
/-! WindsparlourModel.mayClaim(III)Z -/
theorem dX7_mayClaim_0 : decode cX7_mayClaim 0 = .ok (.aload_n 0, 1) := by decide +kernel
theorem dX7_mayClaim_1 : decode cX7_mayClaim 1 = .ok (.getfield 50, 3) := by decide +kernel
theorem dX7_mayClaim_4 : decode cX7_mayClaim 4 = .ok (.iconst 2, 1) := by decide +kernel
theorem dX7_mayClaim_5 : decode cX7_mayClaim 5 = .ok (.if_icmp .ne 23, 3) := by decide +kernel
theorem dX7_mayClaim_8 : decode cX7_mayClaim 8 = .ok (.iload_n 1, 1) := by decide +kernel
theorem dX7_mayClaim_9 : decode cX7_mayClaim 9 = .ok (.aload_n 0, 1) := by decide +kernel
theorem dX7_mayClaim_10 : decode cX7_mayClaim 10 = .ok (.getfield 82, 3) := by decide +kernel
theorem dX7_mayClaim_13 : decode cX7_mayClaim 13 = .ok (.if_icmp .eq 15, 3) := by decide +kernel
theorem dX7_mayClaim_16 : decode cX7_mayClaim 16 = .ok (.aload_n 0, 1) := by decide +kernel
theorem dX7_mayClaim_17 : decode cX7_mayClaim 17 = .ok (.getfield 38, 3) := by decide +kernel
theorem dX7_mayClaim_20 : decode cX7_mayClaim 20 = .ok (.iload_n 1, 1) := by decide +kernel
theorem dX7_mayClaim_21 : decode cX7_mayClaim 21 = .ok (.aaload, 1) := by decide +kernel
theorem dX7_mayClaim_22 : decode cX7_mayClaim 22 = .ok (.getfield 151, 3) := by decide +kernel
theorem dX7_mayClaim_25 : decode cX7_mayClaim 25 = .ok (.ifCond .eq 5, 3) := by decide +kernel
theorem dX7_mayClaim_28 : decode cX7_mayClaim 28 = .ok (.iconst 0, 1) := by decide +kernel
theorem dX7_mayClaim_29 : decode cX7_mayClaim 29 = .ok (.ireturn, 1) := by decide +kernel
theorem dX7_mayClaim_30 : decode cX7_mayClaim 30 = .ok (.aload_n 0, 1) := by decide +kernel
theorem dX7_mayClaim_31 : decode cX7_mayClaim 31 = .ok (.getfield 38, 3) := by decide +kernel
theorem dX7_mayClaim_34 : decode cX7_mayClaim 34 = .ok (.iload_n 1, 1) := by decide +kernel
theorem dX7_mayClaim_35 : decode cX7_mayClaim 35 = .ok (.aaload, 1) := by decide +kernel
theorem dX7_mayClaim_36 : decode cX7_mayClaim 36 = .ok (.getfield 94, 3) := by decide +kernel
theorem dX7_mayClaim_39 : decode cX7_mayClaim 39 = .ok (.astore 4, 2) := by decide +kernel
theorem dX7_mayClaim_41 : decode cX7_mayClaim 41 = .ok (.iload_n 2, 1) := by decide +kernel
theorem dX7_mayClaim_42 : decode cX7_mayClaim 42 = .ok (.ifCond .ne 20, 3) := by decide +kernel
theorem dX7_mayClaim_45 : decode cX7_mayClaim 45 = .ok (.aload 4, 2) := by decide +kernel
theorem dX7_mayClaim_47 : decode cX7_mayClaim 47 = .ok (.aload_n 0, 1) := by decide +kernel
theorem dX7_mayClaim_48 : decode cX7_mayClaim 48 = .ok (.getfield 62, 3) := by decide +kernel
theorem dX7_mayClaim_51 : decode cX7_mayClaim 51 = .ok (.iaload, 1) := by decide +kernel
theorem dX7_mayClaim_52 : decode cX7_mayClaim 52 = .ok (.iconst 2, 1) := by decide +kernel
theorem dX7_mayClaim_53 : decode cX7_mayClaim 53 = .ok (.if_icmp .lt 7, 3) := by decide +kernel
theorem dX7_mayClaim_56 : decode cX7_mayClaim 56 = .ok (.iconst 1, 1) := by decide +kernel
theorem dX7_mayClaim_57 : decode cX7_mayClaim 57 = .ok (.goto 4, 3) := by decide +kernel
theorem dX7_mayClaim_60 : decode cX7_mayClaim 60 = .ok (.iconst 0, 1) := by decide +kernel
theorem dX7_mayClaim_61 : decode cX7_mayClaim 61 = .ok (.ireturn, 1) := by decide +kernel
theorem dX7_mayClaim_62 : decode cX7_mayClaim 62 = .ok (.iload_n 2, 1) := by decide +kernel
theorem dX7_mayClaim_63 : decode cX7_mayClaim 63 = .ok (.iconst 2, 1) := by decide +kernel
theorem dX7_mayClaim_64 : decode cX7_mayClaim 64 = .ok (.if_icmp .ne 27, 3) := by decide +kernel
theorem dX7_mayClaim_67 : decode cX7_mayClaim 67 = .ok (.aload 4, 2) := by decide +kernel
theorem dX7_mayClaim_69 : decode cX7_mayClaim 69 = .ok (.aload_n 0, 1) := by decide +kernel
theorem dX7_mayClaim_70 : decode cX7_mayClaim 70 = .ok (.getfield 62, 3) := by decide +kernel
theorem dX7_mayClaim_73 : decode cX7_mayClaim 73 = .ok (.iaload, 1) := by decide +kernel
theorem dX7_mayClaim_74 : decode cX7_mayClaim 74 = .ok (.iconst 3, 1) := by decide +kernel
theorem dX7_mayClaim_75 : decode cX7_mayClaim 75 = .ok (.if_icmp .lt 14, 3) := by decide +kernel
theorem dX7_mayClaim_78 : decode cX7_mayClaim 78 = .ok (.aload_n 0, 1) := by decide +kernel
theorem dX7_mayClaim_79 : decode cX7_mayClaim 79 = .ok (.invokevirtual 167, 3) := by decide +kernel
theorem dX7_mayClaim_82 : decode cX7_mayClaim 82 = .ok (.ifCond .eq 7, 3) := by decide +kernel
theorem dX7_mayClaim_85 : decode cX7_mayClaim 85 = .ok (.iconst 1, 1) := by decide +kernel
theorem dX7_mayClaim_86 : decode cX7_mayClaim 86 = .ok (.goto 4, 3) := by decide +kernel
theorem dX7_mayClaim_89 : decode cX7_mayClaim 89 = .ok (.iconst 0, 1) := by decide +kernel
theorem dX7_mayClaim_90 : decode cX7_mayClaim 90 = .ok (.ireturn, 1) := by decide +kernel
theorem dX7_mayClaim_91 : decode cX7_mayClaim 91 = .ok (.iload_n 1, 1) := by decide +kernel
theorem dX7_mayClaim_92 : decode cX7_mayClaim 92 = .ok (.aload_n 0, 1) := by decide +kernel
theorem dX7_mayClaim_93 : decode cX7_mayClaim 93 = .ok (.getfield 82, 3) := by decide +kernel
theorem dX7_mayClaim_96 : decode cX7_mayClaim 96 = .ok (.iconst 1, 1) := by decide +kernel
theorem dX7_mayClaim_97 : decode cX7_mayClaim 97 = .ok (.iadd, 1) := by decide +kernel
theorem dX7_mayClaim_98 : decode cX7_mayClaim 98 = .ok (.iconst 4, 1) := by decide +kernel
theorem dX7_mayClaim_99 : decode cX7_mayClaim 99 = .ok (.irem, 1) := by decide +kernel
theorem dX7_mayClaim_100 : decode cX7_mayClaim 100 = .ok (.if_icmp .ne 25, 3) := by decide +kernel
theorem dX7_mayClaim_103 : decode cX7_mayClaim 103 = .ok (.iload_n 3, 1) := by decide +kernel
theorem dX7_mayClaim_104 : decode cX7_mayClaim 104 = .ok (.iconst 3, 1) := by decide +kernel
theorem dX7_mayClaim_105 : decode cX7_mayClaim 105 = .ok (.invokestatic 17, 3) := by decide +kernel
theorem dX7_mayClaim_108 : decode cX7_mayClaim 108 = .ok (.ifCond .eq 17, 3) := by decide +kernel
theorem dX7_mayClaim_111 : decode cX7_mayClaim 111 = .ok (.aload_n 0, 1) := by decide +kernel
theorem dX7_mayClaim_112 : decode cX7_mayClaim 112 = .ok (.getfield 62, 3) := by decide +kernel
theorem dX7_mayClaim_115 : decode cX7_mayClaim 115 = .ok (.iload_n 3, 1) := by decide +kernel
theorem dX7_mayClaim_116 : decode cX7_mayClaim 116 = .ok (.iload_n 3, 1) := by decide +kernel
theorem dX7_mayClaim_117 : decode cX7_mayClaim 117 = .ok (.iconst 2, 1) := by decide +kernel
theorem dX7_mayClaim_118 : decode cX7_mayClaim 118 = .ok (.iadd, 1) := by decide +kernel
theorem dX7_mayClaim_119 : decode cX7_mayClaim 119 = .ok (.invokestatic 3, 3) := by decide +kernel
theorem dX7_mayClaim_122 : decode cX7_mayClaim 122 = .ok (.ifCond .ne 5, 3) := by decide +kernel
theorem dX7_mayClaim_125 : decode cX7_mayClaim 125 = .ok (.iconst 0, 1) := by decide +kernel
theorem dX7_mayClaim_126 : decode cX7_mayClaim 126 = .ok (.ireturn, 1) := by decide +kernel
theorem dX7_mayClaim_127 : decode cX7_mayClaim 127 = .ok (.iload_n 3, 1) := by decide +kernel
theorem dX7_mayClaim_128 : decode cX7_mayClaim 128 = .ok (.istore 5, 2) := by decide +kernel
theorem dX7_mayClaim_130 : decode cX7_mayClaim 130 = .ok (.iload 5, 2) := by decide +kernel
theorem dX7_mayClaim_132 : decode cX7_mayClaim 132 = .ok (.iload_n 3, 1) := by decide +kernel
theorem dX7_mayClaim_133 : decode cX7_mayClaim 133 = .ok (.iconst 3, 1) := by decide +kernel
theorem dX7_mayClaim_134 : decode cX7_mayClaim 134 = .ok (.iadd, 1) := by decide +kernel
theorem dX7_mayClaim_135 : decode cX7_mayClaim 135 = .ok (.if_icmp .ge 28, 3) := by decide +kernel
theorem dX7_mayClaim_138 : decode cX7_mayClaim 138 = .ok (.iload 5, 2) := by decide +kernel
theorem dX7_mayClaim_140 : decode cX7_mayClaim 140 = .ok (.aload_n 0, 1) := by decide +kernel
theorem dX7_mayClaim_141 : decode cX7_mayClaim 141 = .ok (.getfield 62, 3) := by decide +kernel
theorem dX7_mayClaim_144 : decode cX7_mayClaim 144 = .ok (.if_icmp .eq 13, 3) := by decide +kernel
theorem dX7_mayClaim_147 : decode cX7_mayClaim 147 = .ok (.aload 4, 2) := by decide +kernel
theorem dX7_mayClaim_149 : decode cX7_mayClaim 149 = .ok (.iload 5, 2) := by decide +kernel
theorem dX7_mayClaim_151 : decode cX7_mayClaim 151 = .ok (.iaload, 1) := by decide +kernel
theorem dX7_mayClaim_152 : decode cX7_mayClaim 152 = .ok (.ifCond .ne 5, 3) := by decide +kernel
theorem dX7_mayClaim_155 : decode cX7_mayClaim 155 = .ok (.iconst 0, 1) := by decide +kernel
theorem dX7_mayClaim_156 : decode cX7_mayClaim 156 = .ok (.ireturn, 1) := by decide +kernel
theorem dX7_mayClaim_157 : decode cX7_mayClaim 157 = .ok (.iinc 5 1, 3) := by decide +kernel
theorem dX7_mayClaim_160 : decode cX7_mayClaim 160 = .ok (.goto (-30), 3) := by decide +kernel
theorem dX7_mayClaim_163 : decode cX7_mayClaim 163 = .ok (.iconst 1, 1) := by decide +kernel
theorem dX7_mayClaim_164 : decode cX7_mayClaim 164 = .ok (.ireturn, 1) := by decide +kernel
def f_X7_mayClaim_130 (n : Nat) (a0 : Nat) (i3 : Int32) (a4 : Nat) (i5 : Int32) (M : zM) : Option (Int32 × zM) := match n with
  | 0 => none
  | n + 1 =>
    if ((i3 + ((3 : Int32)))) ≤ i5 then
    some ((1 : Int32), M)
    else
    (gI 13 14 M a0).bind fun v1 =>
    if i5 = v1 then
    f_X7_mayClaim_130 n a0 i3 a4 ((i5 + (1 : Int32))) M
    else
    (lA 0 M a4 i5).bind fun v2 =>
    if v2 = 0 then
    some ((0 : Int32), M)
    else
    f_X7_mayClaim_130 n a0 i3 a4 ((i5 + (1 : Int32))) M
set_option maxRecDepth 20000 in
set_option maxHeartbeats 4000000 in
theorem s_X7_mayClaim_130 {L : zL} {X : zX} {M0 : zM} {N : Nat × Nat} {Q : State → Prop} {r : Int32 × zM} (hq : vQ L X M0 N Q (some (.int r.1)) r.2) {n : Nat} {a0 : Nat} {i3 : Int32} {a4 : Nat} {i5 : Int32} {M : zM} : f_X7_mayClaim_130 n a0 i3 a4 i5 M = some r → V L X yX7_mayClaim cX7_mayClaim 6 (some FieldType.boolean) 4 M0 N Q M 130 [(0, .ref (zad L (a0))), (3, .int (i3)), (4, .ref (zad L (a4))), (5, .int (i5))] [] := by
  induction n generalizing a0 i3 a4 i5 M with
  | zero =>
    intro h
    rw [f_X7_mayClaim_130] at h
    cases h
  | succ n ih0 =>
    intro h
    have ih : ∀ (a0 : Nat) (i3 : Int32) (a4 : Nat) (i5 : Int32) (M : zM), f_X7_mayClaim_130 n a0 i3 a4 i5 M = some r → V L X yX7_mayClaim cX7_mayClaim 6 (some FieldType.boolean) 4 M0 N Q M 130 [(0, .ref (zad L (a0))), (3, .int (i3)), (4, .ref (zad L (a4))), (5, .int (i5))] [] := fun a0 i3 a4 i5 M h => ih0 h
    rw [f_X7_mayClaim_130] at h
    refine V_iload dX7_mayClaim_130 3 rfl ?_
    refine V_iload_n dX7_mayClaim_132 rfl 1 rfl ?_
    refine V_iconst (v := 3) dX7_mayClaim_133 (by decide) ?_
    refine V_iadd dX7_mayClaim_134 ?_
    refine V_icmp_ge (tgt := 163) dX7_mayClaim_135 (by decide) (fun c5 => ?_) (fun c5 => ?_)
    · replace h := (oi h).1 c5
      refine V_iconst (v := 1) dX7_mayClaim_163 (by decide) ?_
      cases h
      exact V_zret (ty := .boolean) rfl rfl hq dX7_mayClaim_164
    · replace h := (oi h).2 c5
      refine V_iload dX7_mayClaim_138 3 rfl ?_
      refine V_aload_n dX7_mayClaim_140 rfl 0 rfl ?_
      replace h := ob h
      obtain ⟨v1, e_v1, h⟩ := h
      refine V_getI zf_13_14 zl_X7_62 e_v1 dX7_mayClaim_141 ?_
      refine V_pc (pc' := 144) rfl ?_
      refine V_icmp_eq (tgt := 157) dX7_mayClaim_144 (by decide) (fun c4 => ?_) (fun c4 => ?_)
      · replace h := (oi h).1 c4
        refine V_iinc (v := i5 + (1 : Int32)) (ls' := [(5, .int ((i5 + (1 : Int32)))), (0, .ref (zad L (a0))), (3, .int (i3)), (4, .ref (zad L (a4)))]) dX7_mayClaim_157 3 rfl (by rfl) (by decide) rfl ?_
        refine V_goto (tgt := 130) dX7_mayClaim_160 (by decide) ?_
        refine V_sub [1, 2, 3, 0] rfl ?_
        exact ih _ _ _ _ _ h
      · replace h := (oi h).2 c4
        refine V_aload dX7_mayClaim_147 2 rfl ?_
        refine V_iload dX7_mayClaim_149 3 rfl ?_
        replace h := ob h
        obtain ⟨v2, e_v2, h⟩ := h
        refine V_iald e_v2 dX7_mayClaim_151 ?_
        refine V_pc (pc' := 152) rfl ?_
        refine V_if_ne (tgt := 157) dX7_mayClaim_152 (by decide) (fun c3 => ?_) (fun c3 => ?_)
        · replace h := (oi h).2 c3
          refine V_iinc (v := i5 + (1 : Int32)) (ls' := [(5, .int ((i5 + (1 : Int32)))), (0, .ref (zad L (a0))), (3, .int (i3)), (4, .ref (zad L (a4)))]) dX7_mayClaim_157 3 rfl (by rfl) (by decide) rfl ?_
          refine V_goto (tgt := 130) dX7_mayClaim_160 (by decide) ?_
          refine V_sub [1, 2, 3, 0] rfl ?_
          exact ih _ _ _ _ _ h
        · replace h := (oi h).1 c3
          refine V_iconst (v := 0) dX7_mayClaim_155 (by decide) ?_
          cases h
          exact V_zret (ty := .boolean) rfl rfl hq dX7_mayClaim_156
def f_X7_mayClaim_0 (a0 : Nat) (i1 : Int32) (i2 : Int32) (i3 : Int32) (M : zM) : Option (Int32 × zM) :=
  (gI 13 6 M a0).bind fun v1 =>
  if v1 = ((2 : Int32)) then
  (gI 13 7 M a0).bind fun v2 =>
  if i1 = v2 then
  some ((0 : Int32), M)
  else
  (gR 13 1 M a0).bind fun v3 =>
  (lQ 2 M v3 i1).bind fun v4 =>
  (gI 12 6 M v4).bind fun v5 =>
  if v5 = 0 then
  (gR 13 1 M a0).bind fun v6 =>
  (lQ 2 M v6 i1).bind fun v7 =>
  (gR 12 2 M v7).bind fun v8 =>
  if i2 = 0 then
  (gI 13 14 M a0).bind fun v23 =>
  (lA 0 M v8 v23).bind fun v24 =>
  if v24 < ((2 : Int32)) then
  some ((0 : Int32), M)
  else
  some ((1 : Int32), M)
  else
  if i2 = ((2 : Int32)) then
  (gI 13 14 M a0).bind fun v16 =>
  (lA 0 M v8 v16).bind fun v17 =>
  if v17 < ((3 : Int32)) then
  some ((0 : Int32), M)
  else
  if mK M a0 = 13 then
  (f_X7_mayFour a0 M).bind fun r18 =>
  if r18.1 = 0 then
  some ((0 : Int32), r18.2)
  else
  some ((1 : Int32), r18.2)
  else none
  else
  (gI 13 7 M a0).bind fun v9 =>
  if i1 = ((zmd ((v9 + ((1 : Int32)))) ((4 : Int32)))) then
  (f_X7_isRun i3 ((3 : Int32)) M).bind fun r10 =>
  if r10.1 = 0 then
  some ((0 : Int32), r10.2)
  else
  (gI 13 14 r10.2 a0).bind fun v11 =>
  (f_X7_isIn v11 i3 ((i3 + ((2 : Int32)))) r10.2).bind fun r12 =>
  if r12.1 = 0 then
  some ((0 : Int32), r12.2)
  else
  f_X7_mayClaim_130 zN a0 i3 v8 i3 r12.2
  else
  some ((0 : Int32), M)
  else
  some ((0 : Int32), M)
  else
  some ((0 : Int32), M)
set_option maxRecDepth 20000 in
set_option maxHeartbeats 4000000 in
theorem s_X7_mayClaim_0 {L : zL} {X : zX} {M0 : zM} {N : Nat × Nat} {Q : State → Prop} {r : Int32 × zM} (hq : vQ L X M0 N Q (some (.int r.1)) r.2) {a0 : Nat} {i1 : Int32} {i2 : Int32} {i3 : Int32} {M : zM} (h : f_X7_mayClaim_0 a0 i1 i2 i3 M = some r) : V L X yX7_mayClaim cX7_mayClaim 6 (some FieldType.boolean) 4 M0 N Q M 0 [(0, .ref (zad L (a0))), (1, .int (i1)), (2, .int (i2)), (3, .int (i3))] [] := by
  unfold f_X7_mayClaim_0 at h
  refine V_aload_n dX7_mayClaim_0 rfl 0 rfl ?_
  replace h := ob h
  obtain ⟨v1, e_v1, h⟩ := h
  refine V_getI zf_13_6 zl_X7_50 e_v1 dX7_mayClaim_1 ?_
  refine V_pc (pc' := 4) rfl ?_
  refine V_iconst (v := 2) dX7_mayClaim_4 (by decide) ?_
  refine V_icmp_ne (tgt := 28) dX7_mayClaim_5 (by decide) (fun c29 => ?_) (fun c29 => ?_)
  · replace h := (oi h).2 c29
    refine V_iconst (v := 0) dX7_mayClaim_28 (by decide) ?_
    cases h
    exact V_zret (ty := .boolean) rfl rfl hq dX7_mayClaim_29
  · replace h := (oi h).1 c29
    refine V_iload_n dX7_mayClaim_8 rfl 1 rfl ?_
    refine V_aload_n dX7_mayClaim_9 rfl 0 rfl ?_
    replace h := ob h
    obtain ⟨v2, e_v2, h⟩ := h
    refine V_getI zf_13_7 zl_X7_82 e_v2 dX7_mayClaim_10 ?_
    refine V_pc (pc' := 13) rfl ?_
    refine V_icmp_eq (tgt := 28) dX7_mayClaim_13 (by decide) (fun c28 => ?_) (fun c28 => ?_)
    · replace h := (oi h).1 c28
      refine V_iconst (v := 0) dX7_mayClaim_28 (by decide) ?_
      cases h
      exact V_zret (ty := .boolean) rfl rfl hq dX7_mayClaim_29
    · replace h := (oi h).2 c28
      refine V_aload_n dX7_mayClaim_16 rfl 0 rfl ?_
      replace h := ob h
      obtain ⟨v3, e_v3, h⟩ := h
      refine V_getR zf_13_1 zl_X7_38 e_v3 dX7_mayClaim_17 ?_
      refine V_pc (pc' := 20) rfl ?_
      refine V_iload_n dX7_mayClaim_20 rfl 1 rfl ?_
      replace h := ob h
      obtain ⟨v4, e_v4, h⟩ := h
      refine V_aald (by decide) e_v4 dX7_mayClaim_21 ?_
      refine V_pc (pc' := 22) rfl ?_
      replace h := ob h
      obtain ⟨v5, e_v5, h⟩ := h
      refine V_getI zf_12_6 zl_X7_151 e_v5 dX7_mayClaim_22 ?_
      refine V_pc (pc' := 25) rfl ?_
      refine V_if_eq (tgt := 30) dX7_mayClaim_25 (by decide) (fun c27 => ?_) (fun c27 => ?_)
      · replace h := (oi h).1 c27
        refine V_aload_n dX7_mayClaim_30 rfl 0 rfl ?_
        replace h := ob h
        obtain ⟨v6, e_v6, h⟩ := h
        refine V_getR zf_13_1 zl_X7_38 e_v6 dX7_mayClaim_31 ?_
        refine V_pc (pc' := 34) rfl ?_
        refine V_iload_n dX7_mayClaim_34 rfl 1 rfl ?_
        replace h := ob h
        obtain ⟨v7, e_v7, h⟩ := h
        refine V_aald (by decide) e_v7 dX7_mayClaim_35 ?_
        refine V_pc (pc' := 36) rfl ?_
        replace h := ob h
        obtain ⟨v8, e_v8, h⟩ := h
        refine V_getR zf_12_2 zl_X7_94 e_v8 dX7_mayClaim_36 ?_
        refine V_pc (pc' := 39) rfl ?_
        refine V_astore (ls' := [(4, .ref (zad L (v8))), (0, .ref (zad L (a0))), (1, .int (i1)), (2, .int (i2)), (3, .int (i3))]) dX7_mayClaim_39 (by decide) rfl ?_
        refine V_iload_n dX7_mayClaim_41 rfl 3 rfl ?_
        refine V_if_ne (tgt := 62) dX7_mayClaim_42 (by decide) (fun c26 => ?_) (fun c26 => ?_)
        · replace h := (oi h).2 c26
          refine V_iload_n dX7_mayClaim_62 rfl 3 rfl ?_
          refine V_iconst (v := 2) dX7_mayClaim_63 (by decide) ?_
          refine V_icmp_ne (tgt := 91) dX7_mayClaim_64 (by decide) (fun c22 => ?_) (fun c22 => ?_)
          · replace h := (oi h).2 c22
            refine V_iload_n dX7_mayClaim_91 rfl 2 rfl ?_
            refine V_aload_n dX7_mayClaim_92 rfl 1 rfl ?_
            replace h := ob h
            obtain ⟨v9, e_v9, h⟩ := h
            refine V_getI zf_13_7 zl_X7_82 e_v9 dX7_mayClaim_93 ?_
            refine V_pc (pc' := 96) rfl ?_
            refine V_iconst (v := 1) dX7_mayClaim_96 (by decide) ?_
            refine V_iadd dX7_mayClaim_97 ?_
            refine V_iconst (v := 4) dX7_mayClaim_98 (by decide) ?_
            refine V_irem dX7_mayClaim_99 (by decide) ?_
            refine V_icmp_ne (tgt := 125) dX7_mayClaim_100 (by decide) (fun c15 => ?_) (fun c15 => ?_)
            · replace h := (oi h).2 c15
              refine V_iconst (v := 0) dX7_mayClaim_125 (by decide) ?_
              cases h
              exact V_zret (ty := .boolean) rfl rfl hq dX7_mayClaim_126
            · replace h := (oi h).1 c15
              refine V_iload_n dX7_mayClaim_103 rfl 4 rfl ?_
              refine V_iconst (v := 3) dX7_mayClaim_104 (by decide) ?_
              replace h := ob h
              obtain ⟨r10, e_r10, h⟩ := h
              refine V_callS_I (As := [.int (i3), .int ((3 : Int32))]) (rest := []) (c_X7_isRun e_r10) zc_X7_isRun rfl (by decide) zm_X7_17 (Nat.le_of_ble_eq_true rfl) rfl dX7_mayClaim_105 ?_
              refine V_pc (pc' := 108) rfl ?_
              refine V_if_eq (tgt := 125) dX7_mayClaim_108 (by decide) (fun c14 => ?_) (fun c14 => ?_)
              · replace h := (oi h).1 c14
                refine V_iconst (v := 0) dX7_mayClaim_125 (by decide) ?_
                cases h
                exact V_zret (ty := .boolean) rfl rfl hq dX7_mayClaim_126
              · replace h := (oi h).2 c14
                refine V_aload_n dX7_mayClaim_111 rfl 1 rfl ?_
                replace h := ob h
                obtain ⟨v11, e_v11, h⟩ := h
                refine V_getI zf_13_14 zl_X7_62 e_v11 dX7_mayClaim_112 ?_
                refine V_pc (pc' := 115) rfl ?_
                refine V_iload_n dX7_mayClaim_115 rfl 4 rfl ?_
                refine V_iload_n dX7_mayClaim_116 rfl 4 rfl ?_
                refine V_iconst (v := 2) dX7_mayClaim_117 (by decide) ?_
                refine V_iadd dX7_mayClaim_118 ?_
                replace h := ob h
                obtain ⟨r12, e_r12, h⟩ := h
                refine V_callS_I (As := [.int (v11), .int (i3), .int ((i3 + ((2 : Int32))))]) (rest := []) (c_X7_isIn e_r12) zc_X7_isIn rfl (by decide) zm_X7_3 (Nat.le_of_ble_eq_true rfl) rfl dX7_mayClaim_119 ?_
                refine V_pc (pc' := 122) rfl ?_
                refine V_if_ne (tgt := 127) dX7_mayClaim_122 (by decide) (fun c13 => ?_) (fun c13 => ?_)
                · replace h := (oi h).2 c13
                  refine V_iload_n dX7_mayClaim_127 rfl 4 rfl ?_
                  refine V_istore (ls' := [(5, .int (i3)), (4, .ref (zad L (v8))), (0, .ref (zad L (a0))), (1, .int (i1)), (2, .int (i2)), (3, .int (i3))]) dX7_mayClaim_128 (by decide) rfl ?_
                  refine V_sub [2, 5, 1, 0] rfl ?_
                  exact s_X7_mayClaim_130 hq h
                · replace h := (oi h).1 c13
                  refine V_iconst (v := 0) dX7_mayClaim_125 (by decide) ?_
                  cases h
                  exact V_zret (ty := .boolean) rfl rfl hq dX7_mayClaim_126
          · replace h := (oi h).1 c22
            refine V_aload dX7_mayClaim_67 0 rfl ?_
            refine V_aload_n dX7_mayClaim_69 rfl 1 rfl ?_
            replace h := ob h
            obtain ⟨v16, e_v16, h⟩ := h
            refine V_getI zf_13_14 zl_X7_62 e_v16 dX7_mayClaim_70 ?_
            refine V_pc (pc' := 73) rfl ?_
            replace h := ob h
            obtain ⟨v17, e_v17, h⟩ := h
            refine V_iald e_v17 dX7_mayClaim_73 ?_
            refine V_pc (pc' := 74) rfl ?_
            refine V_iconst (v := 3) dX7_mayClaim_74 (by decide) ?_
            refine V_icmp_lt (tgt := 89) dX7_mayClaim_75 (by decide) (fun c21 => ?_) (fun c21 => ?_)
            · replace h := (oi h).1 c21
              refine V_iconst (v := 0) dX7_mayClaim_89 (by decide) ?_
              cases h
              exact V_zret (ty := .boolean) rfl rfl hq dX7_mayClaim_90
            · replace h := (oi h).2 c21
              refine V_aload_n dX7_mayClaim_78 rfl 1 rfl ?_
              replace h := ox h
              obtain ⟨c19, h⟩ := h
              replace h := ob h
              obtain ⟨r18, e_r18, h⟩ := h
              refine V_callV_I (As := []) (rest := []) (c_X7_mayFour e_r18) zc_X7_mayFour rfl (by decide) rfl (by decide) (Or.inl c19) zm_X7_167 (Nat.le_of_ble_eq_true rfl) rfl dX7_mayClaim_79 ?_
              refine V_pc (pc' := 82) rfl ?_
              refine V_if_eq (tgt := 89) dX7_mayClaim_82 (by decide) (fun c20 => ?_) (fun c20 => ?_)
              · replace h := (oi h).1 c20
                refine V_iconst (v := 0) dX7_mayClaim_89 (by decide) ?_
                cases h
                exact V_zret (ty := .boolean) rfl rfl hq dX7_mayClaim_90
              · replace h := (oi h).2 c20
                refine V_iconst (v := 1) dX7_mayClaim_85 (by decide) ?_
                refine V_goto (tgt := 90) dX7_mayClaim_86 (by decide) ?_
                cases h
                exact V_zret (ty := .boolean) rfl rfl hq dX7_mayClaim_90
        · replace h := (oi h).1 c26
          refine V_aload dX7_mayClaim_45 0 rfl ?_
          refine V_aload_n dX7_mayClaim_47 rfl 1 rfl ?_
          replace h := ob h
          obtain ⟨v23, e_v23, h⟩ := h
          refine V_getI zf_13_14 zl_X7_62 e_v23 dX7_mayClaim_48 ?_
          refine V_pc (pc' := 51) rfl ?_
          replace h := ob h
          obtain ⟨v24, e_v24, h⟩ := h
          refine V_iald e_v24 dX7_mayClaim_51 ?_
          refine V_pc (pc' := 52) rfl ?_
          refine V_iconst (v := 2) dX7_mayClaim_52 (by decide) ?_
          refine V_icmp_lt (tgt := 60) dX7_mayClaim_53 (by decide) (fun c25 => ?_) (fun c25 => ?_)
          · replace h := (oi h).1 c25
            refine V_iconst (v := 0) dX7_mayClaim_60 (by decide) ?_
            cases h
            exact V_zret (ty := .boolean) rfl rfl hq dX7_mayClaim_61
          · replace h := (oi h).2 c25
            refine V_iconst (v := 1) dX7_mayClaim_56 (by decide) ?_
            refine V_goto (tgt := 61) dX7_mayClaim_57 (by decide) ?_
            cases h
            exact V_zret (ty := .boolean) rfl rfl hq dX7_mayClaim_61
      · replace h := (oi h).2 c27
        refine V_iconst (v := 0) dX7_mayClaim_28 (by decide) ?_
        cases h
        exact V_zret (ty := .boolean) rfl rfl hq dX7_mayClaim_29
def f_X7_mayClaim (a0 : Nat) (i1 : Int32) (i2 : Int32) (i3 : Int32) (M : zM) : Option (Int32 × zM) := f_X7_mayClaim_0 a0 i1 i2 i3 M
theorem c_X7_mayClaim {L : zL} {l : Launch} {a0 : Nat} {i1 : Int32} {i2 : Int32} {i3 : Int32} {M : zM} {r : Int32 × zM} (h : f_X7_mayClaim a0 i1 i2 i3 M = some r) : CP L l yX7_mayClaim cX7_mayClaim 6 (some FieldType.boolean) 4 M [.ref (zad L (a0)), .int (i1), .int (i2), .int (i3)] (some (.int r.1)) r.2 :=
  CP.of ⟨by decide +kernel, by decide +kernel⟩ (Nat.le_of_ble_eq_true rfl) fun X Q hq => s_X7_mayClaim_0 hq h
/-! WindsparlourModel.leave()V -/
theorem dX7_leave_0 : decode cX7_leave 0 = .ok (.aload_n 0, 1) := by decide +kernel
theorem dX7_leave_1 : decode cX7_leave 1 = .ok (.invokevirtual 104, 3) := by decide +kernel
theorem dX7_leave_4 : decode cX7_leave 4 = .ok (.getfield 124, 3) := by decide +kernel
theorem dX7_leave_7 : decode cX7_leave 7 = .ok (.aload_n 0, 1) := by decide +kernel
theorem dX7_leave_8 : decode cX7_leave 8 = .ok (.invokevirtual 104, 3) := by decide +kernel
theorem dX7_leave_11 : decode cX7_leave 11 = .ok (.getfield 124, 3) := by decide +kernel
theorem dX7_leave_14 : decode cX7_leave 14 = .ok (.invokevirtual 144, 3) := by decide +kernel
theorem dX7_leave_17 : decode cX7_leave 17 = .ok (.iconst 1, 1) := by decide +kernel
theorem dX7_leave_18 : decode cX7_leave 18 = .ok (.isub, 1) := by decide +kernel
theorem dX7_leave_19 : decode cX7_leave 19 = .ok (.invokevirtual 170, 3) := by decide +kernel
theorem dX7_leave_22 : decode cX7_leave 22 = .ok (.pop, 1) := by decide +kernel
theorem dX7_leave_23 : decode cX7_leave 23 = .ok (.return_, 1) := by decide +kernel
def f_X7_leave_0 (a0 : Nat) (M : zM) : Option (Unit × zM) :=
  if mK M a0 = 13 then
  (f_X7_its a0 M).bind fun r1 =>
  (gR 12 4 r1.2 r1.1).bind fun v3 =>
  if mK r1.2 a0 = 13 then
  (f_X7_its a0 r1.2).bind fun r4 =>
  (gR 12 4 r4.2 r4.1).bind fun v6 =>
  none
  else none
  else none
set_option maxRecDepth 20000 in
set_option maxHeartbeats 4000000 in
theorem s_X7_leave_0 {L : zL} {X : zX} {M0 : zM} {N : Nat × Nat} {Q : State → Prop} {r : Unit × zM} (hq : vQ L X M0 N Q none r.2) {a0 : Nat} {M : zM} (h : f_X7_leave_0 a0 M = some r) : V L X yX7_leave cX7_leave 1 (none : Option FieldType) 2 M0 N Q M 0 [(0, .ref (zad L (a0)))] [] := by
  unfold f_X7_leave_0 at h
  refine V_aload_n dX7_leave_0 rfl 0 rfl ?_
  replace h := ox h
  obtain ⟨c2, h⟩ := h
  replace h := ob h
  obtain ⟨r1, e_r1, h⟩ := h
  refine V_callV_A (As := []) (rest := []) (c_X7_its e_r1) zc_X7_its rfl (by decide) rfl (by decide) (Or.inl c2) zm_X7_104 (Nat.le_of_ble_eq_true rfl) rfl dX7_leave_1 ?_
  refine V_pc (pc' := 4) rfl ?_
  replace h := ob h
  obtain ⟨v3, e_v3, h⟩ := h
  refine V_getR zf_12_4 zl_X7_124 e_v3 dX7_leave_4 ?_
  refine V_pc (pc' := 7) rfl ?_
  refine V_aload_n dX7_leave_7 rfl 0 rfl ?_
  replace h := ox h
  obtain ⟨c5, h⟩ := h
  replace h := ob h
  obtain ⟨r4, e_r4, h⟩ := h
  refine V_callV_A (As := []) (rest := [.ref (zad L (v3))]) (c_X7_its e_r4) zc_X7_its rfl (by decide) rfl (by decide) (Or.inl c5) zm_X7_104 (Nat.le_of_ble_eq_true rfl) rfl dX7_leave_8 ?_
  refine V_pc (pc' := 11) rfl ?_
  replace h := ob h
  obtain ⟨v6, e_v6, h⟩ := h
  refine V_getR zf_12_4 zl_X7_124 e_v6 dX7_leave_11 ?_
  refine V_pc (pc' := 14) rfl ?_
  cases h
def f_X7_leave (a0 : Nat) (M : zM) : Option (Unit × zM) := f_X7_leave_0 a0 M
theorem c_X7_leave {L : zL} {l : Launch} {a0 : Nat} {M : zM} {r : Unit × zM} (h : f_X7_leave a0 M = some r) : CP L l yX7_leave cX7_leave 1 (none : Option FieldType) 2 M [.ref (zad L (a0))] none r.2 :=
  CP.of ⟨by decide +kernel, by decide +kernel⟩ (Nat.le_of_ble_eq_true rfl) fun X Q hq => s_X7_leave_0 hq h
/-! WindsparlourModel.drawLast()I -/
theorem dX7_drawLast_0 : decode cX7_drawLast 0 = .ok (.aload_n 0, 1) := by decide +kernel
theorem dX7_drawLast_1 : decode cX7_drawLast 1 = .ok (.dup, 1) := by decide +kernel
theorem dX7_drawLast_2 : decode cX7_drawLast 2 = .ok (.getfield 101, 3) := by decide +kernel
theorem dX7_drawLast_5 : decode cX7_drawLast 5 = .ok (.iconst 1, 1) := by decide +kernel
theorem dX7_drawLast_6 : decode cX7_drawLast 6 = .ok (.iadd, 1) := by decide +kernel
theorem dX7_drawLast_7 : decode cX7_drawLast 7 = .ok (.putfield 101, 3) := by decide +kernel
theorem dX7_drawLast_10 : decode cX7_drawLast 10 = .ok (.aload_n 0, 1) := by decide +kernel
theorem dX7_drawLast_11 : decode cX7_drawLast 11 = .ok (.aload_n 0, 1) := by decide +kernel
theorem dX7_drawLast_12 : decode cX7_drawLast 12 = .ok (.getfield 42, 3) := by decide +kernel
theorem dX7_drawLast_15 : decode cX7_drawLast 15 = .ok (.aload_n 0, 1) := by decide +kernel
theorem dX7_drawLast_16 : decode cX7_drawLast 16 = .ok (.dup, 1) := by decide +kernel
theorem dX7_drawLast_17 : decode cX7_drawLast 17 = .ok (.getfield 72, 3) := by decide +kernel
theorem dX7_drawLast_20 : decode cX7_drawLast 20 = .ok (.dup_x1, 1) := by decide +kernel
theorem dX7_drawLast_21 : decode cX7_drawLast 21 = .ok (.iconst 1, 1) := by decide +kernel
theorem dX7_drawLast_22 : decode cX7_drawLast 22 = .ok (.isub, 1) := by decide +kernel
theorem dX7_drawLast_23 : decode cX7_drawLast 23 = .ok (.putfield 72, 3) := by decide +kernel
theorem dX7_drawLast_26 : decode cX7_drawLast 26 = .ok (.iaload, 1) := by decide +kernel
theorem dX7_drawLast_27 : decode cX7_drawLast 27 = .ok (.invokevirtual 118, 3) := by decide +kernel
theorem dX7_drawLast_30 : decode cX7_drawLast 30 = .ok (.ireturn, 1) := by decide +kernel
def f_X7_drawLast_0 (a0 : Nat) (M : zM) : Option (Int32 × zM) :=
  (gI 13 10 M a0).bind fun v1 =>
  (pI 13 10 M a0 ((v1 + ((1 : Int32))))).bind fun M2 =>
  (gR 13 2 M2 a0).bind fun v3 =>
  (gI 13 4 M2 a0).bind fun v4 =>
  (pI 13 4 M2 a0 ((v4 - ((1 : Int32))))).bind fun M5 =>
  (lA 0 M5 v3 v4).bind fun v6 =>
  if mK M5 a0 = 13 then
  (f_X7_take a0 v6 M5).bind fun r7 =>
  some (r7.1, r7.2)
  else none
set_option maxRecDepth 20000 in
set_option maxHeartbeats 4000000 in
theorem s_X7_drawLast_0 {L : zL} {X : zX} {M0 : zM} {N : Nat × Nat} {Q : State → Prop} {r : Int32 × zM} (hq : vQ L X M0 N Q (some (.int r.1)) r.2) {a0 : Nat} {M : zM} (h : f_X7_drawLast_0 a0 M = some r) : V L X yX7_drawLast cX7_drawLast 1 (some FieldType.int) 3 M0 N Q M 0 [(0, .ref (zad L (a0)))] [] := by
  unfold f_X7_drawLast_0 at h
  refine V_aload_n dX7_drawLast_0 rfl 0 rfl ?_
  refine V_dup dX7_drawLast_1 rfl ?_
  replace h := ob h
  obtain ⟨v1, e_v1, h⟩ := h
  refine V_getI zf_13_10 zl_X7_101 e_v1 dX7_drawLast_2 ?_
  refine V_pc (pc' := 5) rfl ?_
  refine V_iconst (v := 1) dX7_drawLast_5 (by decide) ?_
  refine V_iadd dX7_drawLast_6 ?_
  replace h := ob h
  obtain ⟨M2, e_M2, h⟩ := h
  refine V_putI zf_13_10 zl_X7_101 (Or.inl rfl) rfl e_M2 dX7_drawLast_7 ?_
  refine V_pc (pc' := 10) rfl ?_
  refine V_aload_n dX7_drawLast_10 rfl 0 rfl ?_
  refine V_aload_n dX7_drawLast_11 rfl 0 rfl ?_
  replace h := ob h
  obtain ⟨v3, e_v3, h⟩ := h
  refine V_getR zf_13_2 zl_X7_42 e_v3 dX7_drawLast_12 ?_
  refine V_pc (pc' := 15) rfl ?_
  refine V_aload_n dX7_drawLast_15 rfl 0 rfl ?_
  refine V_dup dX7_drawLast_16 rfl ?_
  replace h := ob h
  obtain ⟨v4, e_v4, h⟩ := h
  refine V_getI zf_13_4 zl_X7_72 e_v4 dX7_drawLast_17 ?_
  refine V_pc (pc' := 20) rfl ?_
  refine V_dup_x1 dX7_drawLast_20 rfl rfl ?_
  refine V_iconst (v := 1) dX7_drawLast_21 (by decide) ?_
  refine V_isub dX7_drawLast_22 ?_
  replace h := ob h
  obtain ⟨M5, e_M5, h⟩ := h
  refine V_putI zf_13_4 zl_X7_72 (Or.inl rfl) rfl e_M5 dX7_drawLast_23 ?_
  refine V_pc (pc' := 26) rfl ?_
  replace h := ob h
  obtain ⟨v6, e_v6, h⟩ := h
  refine V_iald e_v6 dX7_drawLast_26 ?_
  refine V_pc (pc' := 27) rfl ?_
  replace h := ox h
  obtain ⟨c8, h⟩ := h
  replace h := ob h
  obtain ⟨r7, e_r7, h⟩ := h
  refine V_callV_I (As := [.int (v6)]) (rest := []) (c_X7_take e_r7) zc_X7_take rfl (by decide) rfl (by decide) (Or.inl c8) zm_X7_118 (Nat.le_of_ble_eq_true rfl) rfl dX7_drawLast_27 ?_
  refine V_pc (pc' := 30) rfl ?_
  cases h
  exact V_iret rfl hq dX7_drawLast_30
def f_X7_drawLast (a0 : Nat) (M : zM) : Option (Int32 × zM) := f_X7_drawLast_0 a0 M
theorem c_X7_drawLast {L : zL} {l : Launch} {a0 : Nat} {M : zM} {r : Int32 × zM} (h : f_X7_drawLast a0 M = some r) : CP L l yX7_drawLast cX7_drawLast 1 (some FieldType.int) 3 M [.ref (zad L (a0))] (some (.int r.1)) r.2 :=
  CP.of ⟨by decide +kernel, by decide +kernel⟩ (Nat.le_of_ble_eq_true rfl) fun X Q hq => s_X7_drawLast_0 hq h
/-! WindsparlourModel.claim(III)I -/
theorem dX7_claim_0 : decode cX7_claim 0 = .ok (.aload_n 0, 1) := by decide +kernel
theorem dX7_claim_1 : decode cX7_claim 1 = .ok (.iload_n 1, 1) := by decide +kernel
theorem dX7_claim_2 : decode cX7_claim 2 = .ok (.invokestatic 174, 3) := by decide +kernel
theorem dX7_claim_5 : decode cX7_claim 5 = .ok (.iconst 1, 1) := by decide +kernel
theorem dX7_claim_6 : decode cX7_claim 6 = .ok (.invokevirtual 85, 3) := by decide +kernel
theorem dX7_claim_9 : decode cX7_claim 9 = .ok (.ifCond .ne 48, 3) := by decide +kernel
theorem dX7_claim_12 : decode cX7_claim 12 = .ok (.aload_n 0, 1) := by decide +kernel
theorem dX7_claim_13 : decode cX7_claim 13 = .ok (.iload_n 2, 1) := by decide +kernel
theorem dX7_claim_14 : decode cX7_claim 14 = .ok (.iconst 0, 1) := by decide +kernel
theorem dX7_claim_15 : decode cX7_claim 15 = .ok (.iconst 2, 1) := by decide +kernel
theorem dX7_claim_16 : decode cX7_claim 16 = .ok (.invokestatic 3, 3) := by decide +kernel
theorem dX7_claim_19 : decode cX7_claim 19 = .ok (.ifCond .ne 7, 3) := by decide +kernel
theorem dX7_claim_22 : decode cX7_claim 22 = .ok (.iconst 1, 1) := by decide +kernel
theorem dX7_claim_23 : decode cX7_claim 23 = .ok (.goto 4, 3) := by decide +kernel
theorem dX7_claim_26 : decode cX7_claim 26 = .ok (.iconst 0, 1) := by decide +kernel
theorem dX7_claim_27 : decode cX7_claim 27 = .ok (.iconst 2, 1) := by decide +kernel
theorem dX7_claim_28 : decode cX7_claim 28 = .ok (.invokevirtual 68, 3) := by decide +kernel
theorem dX7_claim_31 : decode cX7_claim 31 = .ok (.ifCond .ne 26, 3) := by decide +kernel
theorem dX7_claim_34 : decode cX7_claim 34 = .ok (.aload_n 0, 1) := by decide +kernel
theorem dX7_claim_35 : decode cX7_claim 35 = .ok (.aload_n 0, 1) := by decide +kernel
theorem dX7_claim_36 : decode cX7_claim 36 = .ok (.iload_n 1, 1) := by decide +kernel
theorem dX7_claim_37 : decode cX7_claim 37 = .ok (.iload_n 2, 1) := by decide +kernel
theorem dX7_claim_38 : decode cX7_claim 38 = .ok (.iload_n 3, 1) := by decide +kernel
theorem dX7_claim_39 : decode cX7_claim 39 = .ok (.invokevirtual 177, 3) := by decide +kernel
theorem dX7_claim_42 : decode cX7_claim 42 = .ok (.ifCond .ne 7, 3) := by decide +kernel
theorem dX7_claim_45 : decode cX7_claim 45 = .ok (.iconst 1, 1) := by decide +kernel
theorem dX7_claim_46 : decode cX7_claim 46 = .ok (.goto 4, 3) := by decide +kernel
theorem dX7_claim_49 : decode cX7_claim 49 = .ok (.iconst 0, 1) := by decide +kernel
theorem dX7_claim_50 : decode cX7_claim 50 = .ok (.iconst 3, 1) := by decide +kernel
theorem dX7_claim_51 : decode cX7_claim 51 = .ok (.invokevirtual 68, 3) := by decide +kernel
theorem dX7_claim_54 : decode cX7_claim 54 = .ok (.ifCond .eq 5, 3) := by decide +kernel
theorem dX7_claim_57 : decode cX7_claim 57 = .ok (.iconst 0, 1) := by decide +kernel
theorem dX7_claim_58 : decode cX7_claim 58 = .ok (.ireturn, 1) := by decide +kernel
theorem dX7_claim_59 : decode cX7_claim 59 = .ok (.aload_n 0, 1) := by decide +kernel
theorem dX7_claim_60 : decode cX7_claim 60 = .ok (.invokevirtual 180, 3) := by decide +kernel
theorem dX7_claim_63 : decode cX7_claim 63 = .ok (.aload_n 0, 1) := by decide +kernel
theorem dX7_claim_64 : decode cX7_claim 64 = .ok (.getfield 38, 3) := by decide +kernel
theorem dX7_claim_67 : decode cX7_claim 67 = .ok (.iload_n 1, 1) := by decide +kernel
theorem dX7_claim_68 : decode cX7_claim 68 = .ok (.aaload, 1) := by decide +kernel
theorem dX7_claim_69 : decode cX7_claim 69 = .ok (.astore 4, 2) := by decide +kernel
theorem dX7_claim_71 : decode cX7_claim 71 = .ok (.aload 4, 2) := by decide +kernel
theorem dX7_claim_73 : decode cX7_claim 73 = .ok (.getfield 94, 3) := by decide +kernel
theorem dX7_claim_76 : decode cX7_claim 76 = .ok (.aload_n 0, 1) := by decide +kernel
theorem dX7_claim_77 : decode cX7_claim 77 = .ok (.getfield 62, 3) := by decide +kernel
theorem dX7_claim_80 : decode cX7_claim 80 = .ok (.dup2, 1) := by decide +kernel
theorem dX7_claim_81 : decode cX7_claim 81 = .ok (.iaload, 1) := by decide +kernel
theorem dX7_claim_82 : decode cX7_claim 82 = .ok (.iconst 1, 1) := by decide +kernel
theorem dX7_claim_83 : decode cX7_claim 83 = .ok (.iadd, 1) := by decide +kernel
theorem dX7_claim_84 : decode cX7_claim 84 = .ok (.iastore, 1) := by decide +kernel
theorem dX7_claim_85 : decode cX7_claim 85 = .ok (.iload_n 2, 1) := by decide +kernel
theorem dX7_claim_86 : decode cX7_claim 86 = .ok (.iconst 1, 1) := by decide +kernel
theorem dX7_claim_87 : decode cX7_claim 87 = .ok (.if_icmp .ne 7, 3) := by decide +kernel
theorem dX7_claim_90 : decode cX7_claim 90 = .ok (.iload_n 3, 1) := by decide +kernel
theorem dX7_claim_91 : decode cX7_claim 91 = .ok (.goto 7, 3) := by decide +kernel
theorem dX7_claim_94 : decode cX7_claim 94 = .ok (.aload_n 0, 1) := by decide +kernel
theorem dX7_claim_95 : decode cX7_claim 95 = .ok (.getfield 62, 3) := by decide +kernel
theorem dX7_claim_98 : decode cX7_claim 98 = .ok (.istore 5, 2) := by decide +kernel
theorem dX7_claim_100 : decode cX7_claim 100 = .ok (.aload 4, 2) := by decide +kernel
theorem dX7_claim_102 : decode cX7_claim 102 = .ok (.getfield 183, 3) := by decide +kernel
theorem dX7_claim_105 : decode cX7_claim 105 = .ok (.new 186, 3) := by decide +kernel
theorem dX7_claim_108 : decode cX7_claim 108 = .ok (.dup, 1) := by decide +kernel
theorem dX7_claim_109 : decode cX7_claim 109 = .ok (.iload 5, 2) := by decide +kernel
theorem dX7_claim_111 : decode cX7_claim 111 = .ok (.iload_n 2, 1) := by decide +kernel
theorem dX7_claim_112 : decode cX7_claim 112 = .ok (.invokespecial 188, 3) := by decide +kernel
theorem dX7_claim_115 : decode cX7_claim 115 = .ok (.invokevirtual 134, 3) := by decide +kernel
theorem dX7_claim_118 : decode cX7_claim 118 = .ok (.pop, 1) := by decide +kernel
theorem dX7_claim_119 : decode cX7_claim 119 = .ok (.iconst 0, 1) := by decide +kernel
theorem dX7_claim_120 : decode cX7_claim 120 = .ok (.istore 6, 2) := by decide +kernel
theorem dX7_claim_122 : decode cX7_claim 122 = .ok (.iload 6, 2) := by decide +kernel
theorem dX7_claim_124 : decode cX7_claim 124 = .ok (.iload_n 2, 1) := by decide +kernel
theorem dX7_claim_125 : decode cX7_claim 125 = .ok (.iconst 2, 1) := by decide +kernel
theorem dX7_claim_126 : decode cX7_claim 126 = .ok (.if_icmp .ne 7, 3) := by decide +kernel
theorem dX7_claim_129 : decode cX7_claim 129 = .ok (.iconst 4, 1) := by decide +kernel
theorem dX7_claim_130 : decode cX7_claim 130 = .ok (.goto 4, 3) := by decide +kernel
theorem dX7_claim_133 : decode cX7_claim 133 = .ok (.iconst 3, 1) := by decide +kernel
theorem dX7_claim_134 : decode cX7_claim 134 = .ok (.if_icmp .ge 34, 3) := by decide +kernel
theorem dX7_claim_137 : decode cX7_claim 137 = .ok (.aload 4, 2) := by decide +kernel
theorem dX7_claim_139 : decode cX7_claim 139 = .ok (.getfield 94, 3) := by decide +kernel
theorem dX7_claim_142 : decode cX7_claim 142 = .ok (.iload_n 2, 1) := by decide +kernel
theorem dX7_claim_143 : decode cX7_claim 143 = .ok (.iconst 1, 1) := by decide +kernel
theorem dX7_claim_144 : decode cX7_claim 144 = .ok (.if_icmp .ne 11, 3) := by decide +kernel
theorem dX7_claim_147 : decode cX7_claim 147 = .ok (.iload 5, 2) := by decide +kernel
theorem dX7_claim_149 : decode cX7_claim 149 = .ok (.iload 6, 2) := by decide +kernel
theorem dX7_claim_151 : decode cX7_claim 151 = .ok (.iadd, 1) := by decide +kernel
theorem dX7_claim_152 : decode cX7_claim 152 = .ok (.goto 5, 3) := by decide +kernel
theorem dX7_claim_155 : decode cX7_claim 155 = .ok (.iload 5, 2) := by decide +kernel
theorem dX7_claim_157 : decode cX7_claim 157 = .ok (.dup2, 1) := by decide +kernel
theorem dX7_claim_158 : decode cX7_claim 158 = .ok (.iaload, 1) := by decide +kernel
theorem dX7_claim_159 : decode cX7_claim 159 = .ok (.iconst 1, 1) := by decide +kernel
theorem dX7_claim_160 : decode cX7_claim 160 = .ok (.isub, 1) := by decide +kernel
theorem dX7_claim_161 : decode cX7_claim 161 = .ok (.iastore, 1) := by decide +kernel
theorem dX7_claim_162 : decode cX7_claim 162 = .ok (.iinc 6 1, 3) := by decide +kernel
theorem dX7_claim_165 : decode cX7_claim 165 = .ok (.goto (-43), 3) := by decide +kernel
theorem dX7_claim_168 : decode cX7_claim 168 = .ok (.aload_n 0, 1) := by decide +kernel
theorem dX7_claim_169 : decode cX7_claim 169 = .ok (.iload_n 1, 1) := by decide +kernel
theorem dX7_claim_170 : decode cX7_claim 170 = .ok (.putfield 82, 3) := by decide +kernel
theorem dX7_claim_173 : decode cX7_claim 173 = .ok (.aload_n 0, 1) := by decide +kernel
theorem dX7_claim_174 : decode cX7_claim 174 = .ok (.iconst (-1), 1) := by decide +kernel
theorem dX7_claim_175 : decode cX7_claim 175 = .ok (.putfield 59, 3) := by decide +kernel
theorem dX7_claim_178 : decode cX7_claim 178 = .ok (.aload_n 0, 1) := by decide +kernel
theorem dX7_claim_179 : decode cX7_claim 179 = .ok (.iconst 1, 1) := by decide +kernel
theorem dX7_claim_180 : decode cX7_claim 180 = .ok (.putfield 50, 3) := by decide +kernel
theorem dX7_claim_183 : decode cX7_claim 183 = .ok (.iload_n 2, 1) := by decide +kernel
theorem dX7_claim_184 : decode cX7_claim 184 = .ok (.iconst 2, 1) := by decide +kernel
theorem dX7_claim_185 : decode cX7_claim 185 = .ok (.if_icmp .ne 8, 3) := by decide +kernel
theorem dX7_claim_188 : decode cX7_claim 188 = .ok (.aload_n 0, 1) := by decide +kernel
theorem dX7_claim_189 : decode cX7_claim 189 = .ok (.invokevirtual 191, 3) := by decide +kernel
theorem dX7_claim_192 : decode cX7_claim 192 = .ok (.pop, 1) := by decide +kernel
theorem dX7_claim_193 : decode cX7_claim 193 = .ok (.aload 4, 2) := by decide +kernel
theorem dX7_claim_195 : decode cX7_claim 195 = .ok (.getfield 183, 3) := by decide +kernel
theorem dX7_claim_198 : decode cX7_claim 198 = .ok (.invokevirtual 144, 3) := by decide +kernel
theorem dX7_claim_201 : decode cX7_claim 201 = .ok (.ireturn, 1) := by decide +kernel
def f_X7_claim_98 (a0 : Nat) (i1 : Int32) (i2 : Int32) (a4 : Nat) (i_0 : Int32) (M : zM) : Option (Int32 × zM) :=
  (gR 12 3 M a4).bind fun v1 =>
  (f_X5_init (mX M) i_0 i2 (nO M 11 2)).bind fun r2 =>
  none
set_option maxRecDepth 20000 in
set_option maxHeartbeats 4000000 in
theorem s_X7_claim_98 {L : zL} {X : zX} {M0 : zM} {N : Nat × Nat} {Q : State → Prop} {r : Int32 × zM} (hq : vQ L X M0 N Q (some (.int r.1)) r.2) {a0 : Nat} {i1 : Int32} {i2 : Int32} {a4 : Nat} {i_0 : Int32} {M : zM} (h : f_X7_claim_98 a0 i1 i2 a4 i_0 M = some r) : V L X yX7_claim cX7_claim 7 (some FieldType.int) 5 M0 N Q M 98 [(0, .ref (zad L (a0))), (1, .int (i1)), (2, .int (i2)), (4, .ref (zad L (a4)))] [.int (i_0)] := by
  unfold f_X7_claim_98 at h
  refine V_istore (ls' := [(5, .int (i_0)), (0, .ref (zad L (a0))), (1, .int (i1)), (2, .int (i2)), (4, .ref (zad L (a4)))]) dX7_claim_98 (by decide) rfl ?_
  refine V_aload dX7_claim_100 4 rfl ?_
  replace h := ob h
  obtain ⟨v1, e_v1, h⟩ := h
  refine V_getR zf_12_3 zl_X7_183 e_v1 dX7_claim_102 ?_
  refine V_pc (pc' := 105) rfl ?_
  refine V_new (by decide) rfl zin11 zty11 zdf11 zn_X7_186 dX7_claim_105 ?_
  refine V_dup dX7_claim_108 rfl ?_
  refine V_iload dX7_claim_109 0 rfl ?_
  refine V_iload_n dX7_claim_111 rfl 3 rfl ?_
  replace h := ob h
  obtain ⟨r2, e_r2, h⟩ := h
  refine V_callI_V (As := [.int (i_0), .int (i2)]) (rest := [.ref (zad L (mX M)), .ref (zad L (v1))]) (c_X5_init e_r2) zc_X5_init rfl (by decide) zm_X7_188 rfl (Nat.le_of_ble_eq_true rfl) rfl dX7_claim_112 ?_
  refine V_pc (pc' := 115) rfl ?_
  cases h
def f_X7_claim_50 (a0 : Nat) (i1 : Int32) (i2 : Int32) (i3 : Int32) (i_0 : Int32) (a_1 : Nat) (M : zM) : Option (Int32 × zM) :=
  if mK M a_1 = 13 then
  (f_X7_refuse a_1 i_0 ((3 : Int32)) M).bind fun r1 =>
  if r1.1 = 0 then
  if mK r1.2 a0 = 13 then
  (f_X7_leave a0 r1.2).bind fun r3 =>
  (gR 13 1 r3.2 a0).bind fun v5 =>
  (lQ 2 r3.2 v5 i1).bind fun v6 =>
  (gR 12 2 r3.2 v6).bind fun v7 =>
  (gI 13 14 r3.2 a0).bind fun v8 =>
  (lA 0 r3.2 v7 v8).bind fun v9 =>
  (tA r3.2 v7 v8 ((v9 + ((1 : Int32))))).bind fun M10 =>
  if i2 = ((1 : Int32)) then
  f_X7_claim_98 a0 i1 i2 v6 i3 M10
  else
  (gI 13 14 M10 a0).bind fun v11 =>
  f_X7_claim_98 a0 i1 i2 v6 v11 M10
  else none
  else
  some ((0 : Int32), r1.2)
  else none
set_option maxRecDepth 20000 in
set_option maxHeartbeats 4000000 in
theorem s_X7_claim_50 {L : zL} {X : zX} {M0 : zM} {N : Nat × Nat} {Q : State → Prop} {r : Int32 × zM} (hq : vQ L X M0 N Q (some (.int r.1)) r.2) {a0 : Nat} {i1 : Int32} {i2 : Int32} {i3 : Int32} {i_0 : Int32} {a_1 : Nat} {M : zM} (h : f_X7_claim_50 a0 i1 i2 i3 i_0 a_1 M = some r) : V L X yX7_claim cX7_claim 7 (some FieldType.int) 5 M0 N Q M 50 [(0, .ref (zad L (a0))), (1, .int (i1)), (2, .int (i2)), (3, .int (i3))] [.int (i_0), .ref (zad L (a_1))] := by
  unfold f_X7_claim_50 at h
  refine V_iconst (v := 3) dX7_claim_50 (by decide) ?_
  replace h := ox h
  obtain ⟨c2, h⟩ := h
  replace h := ob h
  obtain ⟨r1, e_r1, h⟩ := h
  refine V_callV_I (As := [.int (i_0), .int ((3 : Int32))]) (rest := []) (c_X7_refuse e_r1) zc_X7_refuse rfl (by decide) rfl (by decide) (Or.inl c2) zm_X7_68 (Nat.le_of_ble_eq_true rfl) rfl dX7_claim_51 ?_
  refine V_pc (pc' := 54) rfl ?_
  refine V_if_eq (tgt := 59) dX7_claim_54 (by decide) (fun c13 => ?_) (fun c13 => ?_)
  · replace h := (oi h).1 c13
    refine V_aload_n dX7_claim_59 rfl 0 rfl ?_
    replace h := ox h
    obtain ⟨c4, h⟩ := h
    replace h := ob h
    obtain ⟨r3, e_r3, h⟩ := h
    refine V_callV_V (As := []) (rest := []) (c_X7_leave e_r3) zc_X7_leave rfl (by decide) rfl (by decide) (Or.inl c4) zm_X7_180 (Nat.le_of_ble_eq_true rfl) rfl dX7_claim_60 ?_
    refine V_pc (pc' := 63) rfl ?_
    refine V_aload_n dX7_claim_63 rfl 0 rfl ?_
    replace h := ob h
    obtain ⟨v5, e_v5, h⟩ := h
    refine V_getR zf_13_1 zl_X7_38 e_v5 dX7_claim_64 ?_
    refine V_pc (pc' := 67) rfl ?_
    refine V_iload_n dX7_claim_67 rfl 1 rfl ?_
    replace h := ob h
    obtain ⟨v6, e_v6, h⟩ := h
    refine V_aald (by decide) e_v6 dX7_claim_68 ?_
    refine V_pc (pc' := 69) rfl ?_
    refine V_astore (ls' := [(4, .ref (zad L (v6))), (0, .ref (zad L (a0))), (1, .int (i1)), (2, .int (i2)), (3, .int (i3))]) dX7_claim_69 (by decide) rfl ?_
    refine V_aload dX7_claim_71 0 rfl ?_
    replace h := ob h
    obtain ⟨v7, e_v7, h⟩ := h
    refine V_getR zf_12_2 zl_X7_94 e_v7 dX7_claim_73 ?_
    refine V_pc (pc' := 76) rfl ?_
    refine V_aload_n dX7_claim_76 rfl 1 rfl ?_
    replace h := ob h
    obtain ⟨v8, e_v8, h⟩ := h
    refine V_getI zf_13_14 zl_X7_62 e_v8 dX7_claim_77 ?_
    refine V_pc (pc' := 80) rfl ?_
    refine V_dup2 dX7_claim_80 rfl rfl ?_
    replace h := ob h
    obtain ⟨v9, e_v9, h⟩ := h
    refine V_iald e_v9 dX7_claim_81 ?_
    refine V_pc (pc' := 82) rfl ?_
    refine V_iconst (v := 1) dX7_claim_82 (by decide) ?_
    refine V_iadd dX7_claim_83 ?_
    replace h := ob h
    obtain ⟨M10, e_M10, h⟩ := h
    refine V_iast e_M10 dX7_claim_84 ?_
    refine V_iload_n dX7_claim_85 rfl 3 rfl ?_
    refine V_iconst (v := 1) dX7_claim_86 (by decide) ?_
    refine V_icmp_ne (tgt := 94) dX7_claim_87 (by decide) (fun c12 => ?_) (fun c12 => ?_)
    · replace h := (oi h).2 c12
      refine V_aload_n dX7_claim_94 rfl 1 rfl ?_
      replace h := ob h
      obtain ⟨v11, e_v11, h⟩ := h
      refine V_getI zf_13_14 zl_X7_62 e_v11 dX7_claim_95 ?_
      refine V_pc (pc' := 98) rfl ?_
      refine V_sub [1, 2, 3, 0] rfl ?_
      exact s_X7_claim_98 hq h
    · replace h := (oi h).1 c12
      refine V_iload_n dX7_claim_90 rfl 4 rfl ?_
      refine V_goto (tgt := 98) dX7_claim_91 (by decide) ?_
      refine V_sub [1, 2, 3, 0] rfl ?_
      exact s_X7_claim_98 hq h
  · replace h := (oi h).2 c13
    refine V_iconst (v := 0) dX7_claim_57 (by decide) ?_
    cases h
    exact V_iret rfl hq dX7_claim_58
def f_X7_claim_27 (a0 : Nat) (i1 : Int32) (i2 : Int32) (i3 : Int32) (i_0 : Int32) (a_1 : Nat) (M : zM) : Option (Int32 × zM) :=
  if mK M a_1 = 13 then
  (f_X7_refuse a_1 i_0 ((2 : Int32)) M).bind fun r1 =>
  if r1.1 = 0 then
  if mK r1.2 a0 = 13 then
  (f_X7_mayClaim a0 i1 i2 i3 r1.2).bind fun r3 =>
  if r3.1 = 0 then
  f_X7_claim_50 a0 i1 i2 i3 ((1 : Int32)) a0 r3.2
  else
  f_X7_claim_50 a0 i1 i2 i3 ((0 : Int32)) a0 r3.2
  else none
  else
  some ((0 : Int32), r1.2)
  else none
set_option maxRecDepth 20000 in
set_option maxHeartbeats 4000000 in
theorem s_X7_claim_27 {L : zL} {X : zX} {M0 : zM} {N : Nat × Nat} {Q : State → Prop} {r : Int32 × zM} (hq : vQ L X M0 N Q (some (.int r.1)) r.2) {a0 : Nat} {i1 : Int32} {i2 : Int32} {i3 : Int32} {i_0 : Int32} {a_1 : Nat} {M : zM} (h : f_X7_claim_27 a0 i1 i2 i3 i_0 a_1 M = some r) : V L X yX7_claim cX7_claim 7 (some FieldType.int) 5 M0 N Q M 27 [(0, .ref (zad L (a0))), (1, .int (i1)), (2, .int (i2)), (3, .int (i3))] [.int (i_0), .ref (zad L (a_1))] := by
  unfold f_X7_claim_27 at h
  refine V_iconst (v := 2) dX7_claim_27 (by decide) ?_
  replace h := ox h
  obtain ⟨c2, h⟩ := h
  replace h := ob h
  obtain ⟨r1, e_r1, h⟩ := h
  refine V_callV_I (As := [.int (i_0), .int ((2 : Int32))]) (rest := []) (c_X7_refuse e_r1) zc_X7_refuse rfl (by decide) rfl (by decide) (Or.inl c2) zm_X7_68 (Nat.le_of_ble_eq_true rfl) rfl dX7_claim_28 ?_
  refine V_pc (pc' := 31) rfl ?_
  refine V_if_ne (tgt := 57) dX7_claim_31 (by decide) (fun c6 => ?_) (fun c6 => ?_)
  · replace h := (oi h).2 c6
    refine V_iconst (v := 0) dX7_claim_57 (by decide) ?_
    cases h
    exact V_iret rfl hq dX7_claim_58
  · replace h := (oi h).1 c6
    refine V_aload_n dX7_claim_34 rfl 0 rfl ?_
    refine V_aload_n dX7_claim_35 rfl 0 rfl ?_
    refine V_iload_n dX7_claim_36 rfl 1 rfl ?_
    refine V_iload_n dX7_claim_37 rfl 2 rfl ?_
    refine V_iload_n dX7_claim_38 rfl 3 rfl ?_
    replace h := ox h
    obtain ⟨c4, h⟩ := h
    replace h := ob h
    obtain ⟨r3, e_r3, h⟩ := h
    refine V_callV_I (As := [.int (i1), .int (i2), .int (i3)]) (rest := [.ref (zad L (a0))]) (c_X7_mayClaim e_r3) zc_X7_mayClaim rfl (by decide) rfl (by decide) (Or.inl c4) zm_X7_177 (Nat.le_of_ble_eq_true rfl) rfl dX7_claim_39 ?_
    refine V_pc (pc' := 42) rfl ?_
    refine V_if_ne (tgt := 49) dX7_claim_42 (by decide) (fun c5 => ?_) (fun c5 => ?_)
    · replace h := (oi h).2 c5
      refine V_iconst (v := 0) dX7_claim_49 (by decide) ?_
      exact s_X7_claim_50 hq h
    · replace h := (oi h).1 c5
      refine V_iconst (v := 1) dX7_claim_45 (by decide) ?_
      refine V_goto (tgt := 50) dX7_claim_46 (by decide) ?_
      exact s_X7_claim_50 hq h
def f_X7_claim_0 (a0 : Nat) (i1 : Int32) (i2 : Int32) (i3 : Int32) (M : zM) : Option (Int32 × zM) :=
  (f_X7_isNoPlayer i1 M).bind fun r1 =>
  if mK r1.2 a0 = 13 then
  (f_X7_start a0 r1.1 ((1 : Int32)) r1.2).bind fun r2 =>
  if r2.1 = 0 then
  (f_X7_isIn i2 ((0 : Int32)) ((2 : Int32)) r2.2).bind fun r4 =>
  if r4.1 = 0 then
  f_X7_claim_27 a0 i1 i2 i3 ((1 : Int32)) a0 r4.2
  else
  f_X7_claim_27 a0 i1 i2 i3 ((0 : Int32)) a0 r4.2
  else
  some ((0 : Int32), r2.2)
  else none
set_option maxRecDepth 20000 in
set_option maxHeartbeats 4000000 in
theorem s_X7_claim_0 {L : zL} {X : zX} {M0 : zM} {N : Nat × Nat} {Q : State → Prop} {r : Int32 × zM} (hq : vQ L X M0 N Q (some (.int r.1)) r.2) {a0 : Nat} {i1 : Int32} {i2 : Int32} {i3 : Int32} {M : zM} (h : f_X7_claim_0 a0 i1 i2 i3 M = some r) : V L X yX7_claim cX7_claim 7 (some FieldType.int) 5 M0 N Q M 0 [(0, .ref (zad L (a0))), (1, .int (i1)), (2, .int (i2)), (3, .int (i3))] [] := by
  unfold f_X7_claim_0 at h
  refine V_aload_n dX7_claim_0 rfl 0 rfl ?_
  refine V_iload_n dX7_claim_1 rfl 1 rfl ?_
  replace h := ob h
  obtain ⟨r1, e_r1, h⟩ := h
  refine V_callS_I (As := [.int (i1)]) (rest := [.ref (zad L (a0))]) (c_X7_isNoPlayer e_r1) zc_X7_isNoPlayer rfl (by decide) zm_X7_174 (Nat.le_of_ble_eq_true rfl) rfl dX7_claim_2 ?_
  refine V_pc (pc' := 5) rfl ?_
  refine V_iconst (v := 1) dX7_claim_5 (by decide) ?_
  replace h := ox h
  obtain ⟨c3, h⟩ := h
  replace h := ob h
  obtain ⟨r2, e_r2, h⟩ := h
  refine V_callV_I (As := [.int (r1.1), .int ((1 : Int32))]) (rest := []) (c_X7_start e_r2) zc_X7_start rfl (by decide) rfl (by decide) (Or.inl c3) zm_X7_85 (Nat.le_of_ble_eq_true rfl) rfl dX7_claim_6 ?_
  refine V_pc (pc' := 9) rfl ?_
  refine V_if_ne (tgt := 57) dX7_claim_9 (by decide) (fun c6 => ?_) (fun c6 => ?_)
  · replace h := (oi h).2 c6
    refine V_iconst (v := 0) dX7_claim_57 (by decide) ?_
    cases h
    exact V_iret rfl hq dX7_claim_58
  · replace h := (oi h).1 c6
    refine V_aload_n dX7_claim_12 rfl 0 rfl ?_
    refine V_iload_n dX7_claim_13 rfl 2 rfl ?_
    refine V_iconst (v := 0) dX7_claim_14 (by decide) ?_
    refine V_iconst (v := 2) dX7_claim_15 (by decide) ?_
    replace h := ob h
    obtain ⟨r4, e_r4, h⟩ := h
    refine V_callS_I (As := [.int (i2), .int ((0 : Int32)), .int ((2 : Int32))]) (rest := [.ref (zad L (a0))]) (c_X7_isIn e_r4) zc_X7_isIn rfl (by decide) zm_X7_3 (Nat.le_of_ble_eq_true rfl) rfl dX7_claim_16 ?_
    refine V_pc (pc' := 19) rfl ?_
    refine V_if_ne (tgt := 26) dX7_claim_19 (by decide) (fun c5 => ?_) (fun c5 => ?_)
    · replace h := (oi h).2 c5
      refine V_iconst (v := 0) dX7_claim_26 (by decide) ?_
      exact s_X7_claim_27 hq h
    · replace h := (oi h).1 c5
      refine V_iconst (v := 1) dX7_claim_22 (by decide) ?_
      refine V_goto (tgt := 27) dX7_claim_23 (by decide) ?_
      exact s_X7_claim_27 hq h
def f_X7_claim (a0 : Nat) (i1 : Int32) (i2 : Int32) (i3 : Int32) (M : zM) : Option (Int32 × zM) := f_X7_claim_0 a0 i1 i2 i3 M
theorem c_X7_claim {L : zL} {l : Launch} {a0 : Nat} {i1 : Int32} {i2 : Int32} {i3 : Int32} {M : zM} {r : Int32 × zM} (h : f_X7_claim a0 i1 i2 i3 M = some r) : CP L l yX7_claim cX7_claim 7 (some FieldType.int) 5 M [.ref (zad L (a0)), .int (i1), .int (i2), .int (i3)] (some (.int r.1)) r.2 :=
  CP.of ⟨by decide +kernel, by decide +kernel⟩ (Nat.le_of_ble_eq_true rfl) fun X Q hq => s_X7_claim_0 hq h
/-! WindsparlourModel.four(I)I -/
theorem dX7_four_0 : decode cX7_four 0 = .ok (.aload_n 0, 1) := by decide +kernel
theorem dX7_four_1 : decode cX7_four 1 = .ok (.iload_n 1, 1) := by decide +kernel
theorem dX7_four_2 : decode cX7_four 2 = .ok (.invokestatic 147, 3) := by decide +kernel
theorem dX7_four_5 : decode cX7_four 5 = .ok (.ifCond .ne 7, 3) := by decide +kernel
theorem dX7_four_8 : decode cX7_four 8 = .ok (.iconst 1, 1) := by decide +kernel
theorem dX7_four_9 : decode cX7_four 9 = .ok (.goto 4, 3) := by decide +kernel
theorem dX7_four_12 : decode cX7_four 12 = .ok (.iconst 0, 1) := by decide +kernel
theorem dX7_four_13 : decode cX7_four 13 = .ok (.iconst 1, 1) := by decide +kernel
theorem dX7_four_14 : decode cX7_four 14 = .ok (.invokevirtual 85, 3) := by decide +kernel
theorem dX7_four_17 : decode cX7_four 17 = .ok (.ifCond .eq 5, 3) := by decide +kernel
theorem dX7_four_20 : decode cX7_four 20 = .ok (.iconst 0, 1) := by decide +kernel
theorem dX7_four_21 : decode cX7_four 21 = .ok (.ireturn, 1) := by decide +kernel
theorem dX7_four_22 : decode cX7_four 22 = .ok (.aload_n 0, 1) := by decide +kernel
theorem dX7_four_23 : decode cX7_four 23 = .ok (.getfield 50, 3) := by decide +kernel
theorem dX7_four_26 : decode cX7_four 26 = .ok (.iconst 1, 1) := by decide +kernel
theorem dX7_four_27 : decode cX7_four 27 = .ok (.if_icmp .ne 37, 3) := by decide +kernel
theorem dX7_four_30 : decode cX7_four 30 = .ok (.aload_n 0, 1) := by decide +kernel
theorem dX7_four_31 : decode cX7_four 31 = .ok (.invokevirtual 104, 3) := by decide +kernel
theorem dX7_four_34 : decode cX7_four 34 = .ok (.getfield 151, 3) := by decide +kernel
theorem dX7_four_37 : decode cX7_four 37 = .ok (.ifCond .ne 27, 3) := by decide +kernel
theorem dX7_four_40 : decode cX7_four 40 = .ok (.aload_n 0, 1) := by decide +kernel
theorem dX7_four_41 : decode cX7_four 41 = .ok (.invokevirtual 104, 3) := by decide +kernel
theorem dX7_four_44 : decode cX7_four 44 = .ok (.getfield 94, 3) := by decide +kernel
theorem dX7_four_47 : decode cX7_four 47 = .ok (.iload_n 1, 1) := by decide +kernel
theorem dX7_four_48 : decode cX7_four 48 = .ok (.iaload, 1) := by decide +kernel
theorem dX7_four_49 : decode cX7_four 49 = .ok (.iconst 4, 1) := by decide +kernel
theorem dX7_four_50 : decode cX7_four 50 = .ok (.if_icmp .ne 14, 3) := by decide +kernel
theorem dX7_four_53 : decode cX7_four 53 = .ok (.aload_n 0, 1) := by decide +kernel
theorem dX7_four_54 : decode cX7_four 54 = .ok (.invokevirtual 167, 3) := by decide +kernel
theorem dX7_four_57 : decode cX7_four 57 = .ok (.ifCond .eq 7, 3) := by decide +kernel
theorem dX7_four_60 : decode cX7_four 60 = .ok (.iconst 1, 1) := by decide +kernel
theorem dX7_four_61 : decode cX7_four 61 = .ok (.goto 4, 3) := by decide +kernel
theorem dX7_four_64 : decode cX7_four 64 = .ok (.iconst 0, 1) := by decide +kernel
theorem dX7_four_65 : decode cX7_four 65 = .ok (.istore_n 2, 1) := by decide +kernel
theorem dX7_four_66 : decode cX7_four 66 = .ok (.aload_n 0, 1) := by decide +kernel
theorem dX7_four_67 : decode cX7_four 67 = .ok (.iload_n 2, 1) := by decide +kernel
theorem dX7_four_68 : decode cX7_four 68 = .ok (.ifCond .ne 7, 3) := by decide +kernel
theorem dX7_four_71 : decode cX7_four 71 = .ok (.iconst 1, 1) := by decide +kernel
theorem dX7_four_72 : decode cX7_four 72 = .ok (.goto 4, 3) := by decide +kernel
theorem dX7_four_75 : decode cX7_four 75 = .ok (.iconst 0, 1) := by decide +kernel
theorem dX7_four_76 : decode cX7_four 76 = .ok (.iconst 2, 1) := by decide +kernel
theorem dX7_four_77 : decode cX7_four 77 = .ok (.invokevirtual 68, 3) := by decide +kernel
theorem dX7_four_80 : decode cX7_four 80 = .ok (.ifCond .eq 5, 3) := by decide +kernel
theorem dX7_four_83 : decode cX7_four 83 = .ok (.iconst 0, 1) := by decide +kernel
theorem dX7_four_84 : decode cX7_four 84 = .ok (.ireturn, 1) := by decide +kernel
theorem dX7_four_85 : decode cX7_four 85 = .ok (.aload_n 0, 1) := by decide +kernel
theorem dX7_four_86 : decode cX7_four 86 = .ok (.invokevirtual 104, 3) := by decide +kernel
theorem dX7_four_89 : decode cX7_four 89 = .ok (.getfield 94, 3) := by decide +kernel
theorem dX7_four_92 : decode cX7_four 92 = .ok (.iload_n 1, 1) := by decide +kernel
theorem dX7_four_93 : decode cX7_four 93 = .ok (.dup2, 1) := by decide +kernel
theorem dX7_four_94 : decode cX7_four 94 = .ok (.iaload, 1) := by decide +kernel
theorem dX7_four_95 : decode cX7_four 95 = .ok (.iconst 4, 1) := by decide +kernel
theorem dX7_four_96 : decode cX7_four 96 = .ok (.isub, 1) := by decide +kernel
theorem dX7_four_97 : decode cX7_four 97 = .ok (.iastore, 1) := by decide +kernel
theorem dX7_four_98 : decode cX7_four 98 = .ok (.aload_n 0, 1) := by decide +kernel
theorem dX7_four_99 : decode cX7_four 99 = .ok (.invokevirtual 104, 3) := by decide +kernel
theorem dX7_four_102 : decode cX7_four 102 = .ok (.getfield 183, 3) := by decide +kernel
theorem dX7_four_105 : decode cX7_four 105 = .ok (.new 186, 3) := by decide +kernel
theorem dX7_four_108 : decode cX7_four 108 = .ok (.dup, 1) := by decide +kernel
theorem dX7_four_109 : decode cX7_four 109 = .ok (.iload_n 1, 1) := by decide +kernel
theorem dX7_four_110 : decode cX7_four 110 = .ok (.iconst 3, 1) := by decide +kernel
theorem dX7_four_111 : decode cX7_four 111 = .ok (.invokespecial 188, 3) := by decide +kernel
theorem dX7_four_114 : decode cX7_four 114 = .ok (.invokevirtual 134, 3) := by decide +kernel
theorem dX7_four_117 : decode cX7_four 117 = .ok (.pop, 1) := by decide +kernel
theorem dX7_four_118 : decode cX7_four 118 = .ok (.aload_n 0, 1) := by decide +kernel
theorem dX7_four_119 : decode cX7_four 119 = .ok (.invokevirtual 191, 3) := by decide +kernel
theorem dX7_four_122 : decode cX7_four 122 = .ok (.ireturn, 1) := by decide +kernel
def f_X7_four_76 (a0 : Nat) (i1 : Int32) (i_0 : Int32) (a_1 : Nat) (M : zM) : Option (Int32 × zM) :=
  if mK M a_1 = 13 then
  (f_X7_refuse a_1 i_0 ((2 : Int32)) M).bind fun r1 =>
  if r1.1 = 0 then
  if mK r1.2 a0 = 13 then
  (f_X7_its a0 r1.2).bind fun r3 =>
  (gR 12 2 r3.2 r3.1).bind fun v5 =>
  (lA 0 r3.2 v5 i1).bind fun v6 =>
  (tA r3.2 v5 i1 ((v6 - ((4 : Int32))))).bind fun M7 =>
  if mK M7 a0 = 13 then
  (f_X7_its a0 M7).bind fun r8 =>
  (gR 12 3 r8.2 r8.1).bind fun v10 =>
  (f_X5_init (mX r8.2) i1 ((3 : Int32)) (nO r8.2 11 2)).bind fun r11 =>
  none
  else none
  else none
  else
  some ((0 : Int32), r1.2)
  else none
set_option maxRecDepth 20000 in
set_option maxHeartbeats 4000000 in
theorem s_X7_four_76 {L : zL} {X : zX} {M0 : zM} {N : Nat × Nat} {Q : State → Prop} {r : Int32 × zM} (hq : vQ L X M0 N Q (some (.int r.1)) r.2) {a0 : Nat} {i1 : Int32} {i_0 : Int32} {a_1 : Nat} {M : zM} (h : f_X7_four_76 a0 i1 i_0 a_1 M = some r) : V L X yX7_four cX7_four 3 (some FieldType.int) 4 M0 N Q M 76 [(0, .ref (zad L (a0))), (1, .int (i1))] [.int (i_0), .ref (zad L (a_1))] := by
  unfold f_X7_four_76 at h
  refine V_iconst (v := 2) dX7_four_76 (by decide) ?_
  replace h := ox h
  obtain ⟨c2, h⟩ := h
  replace h := ob h
  obtain ⟨r1, e_r1, h⟩ := h
  refine V_callV_I (As := [.int (i_0), .int ((2 : Int32))]) (rest := []) (c_X7_refuse e_r1) zc_X7_refuse rfl (by decide) rfl (by decide) (Or.inl c2) zm_X7_68 (Nat.le_of_ble_eq_true rfl) rfl dX7_four_77 ?_
  refine V_pc (pc' := 80) rfl ?_
  refine V_if_eq (tgt := 85) dX7_four_80 (by decide) (fun c12 => ?_) (fun c12 => ?_)
  · replace h := (oi h).1 c12
    refine V_aload_n dX7_four_85 rfl 0 rfl ?_
    replace h := ox h
    obtain ⟨c4, h⟩ := h
    replace h := ob h
    obtain ⟨r3, e_r3, h⟩ := h
    refine V_callV_A (As := []) (rest := []) (c_X7_its e_r3) zc_X7_its rfl (by decide) rfl (by decide) (Or.inl c4) zm_X7_104 (Nat.le_of_ble_eq_true rfl) rfl dX7_four_86 ?_
    refine V_pc (pc' := 89) rfl ?_
    replace h := ob h
    obtain ⟨v5, e_v5, h⟩ := h
    refine V_getR zf_12_2 zl_X7_94 e_v5 dX7_four_89 ?_
    refine V_pc (pc' := 92) rfl ?_
    refine V_iload_n dX7_four_92 rfl 1 rfl ?_
    refine V_dup2 dX7_four_93 rfl rfl ?_
    replace h := ob h
    obtain ⟨v6, e_v6, h⟩ := h
    refine V_iald e_v6 dX7_four_94 ?_
    refine V_pc (pc' := 95) rfl ?_
    refine V_iconst (v := 4) dX7_four_95 (by decide) ?_
    refine V_isub dX7_four_96 ?_
    replace h := ob h
    obtain ⟨M7, e_M7, h⟩ := h
    refine V_iast e_M7 dX7_four_97 ?_
    refine V_aload_n dX7_four_98 rfl 0 rfl ?_
    replace h := ox h
    obtain ⟨c9, h⟩ := h
    replace h := ob h
    obtain ⟨r8, e_r8, h⟩ := h
    refine V_callV_A (As := []) (rest := []) (c_X7_its e_r8) zc_X7_its rfl (by decide) rfl (by decide) (Or.inl c9) zm_X7_104 (Nat.le_of_ble_eq_true rfl) rfl dX7_four_99 ?_
    refine V_pc (pc' := 102) rfl ?_
    replace h := ob h
    obtain ⟨v10, e_v10, h⟩ := h
    refine V_getR zf_12_3 zl_X7_183 e_v10 dX7_four_102 ?_
    refine V_pc (pc' := 105) rfl ?_
    refine V_new (by decide) rfl zin11 zty11 zdf11 zn_X7_186 dX7_four_105 ?_
    refine V_dup dX7_four_108 rfl ?_
    refine V_iload_n dX7_four_109 rfl 1 rfl ?_
    refine V_iconst (v := 3) dX7_four_110 (by decide) ?_
    replace h := ob h
    obtain ⟨r11, e_r11, h⟩ := h
    refine V_callI_V (As := [.int (i1), .int ((3 : Int32))]) (rest := [.ref (zad L (mX r8.2)), .ref (zad L (v10))]) (c_X5_init e_r11) zc_X5_init rfl (by decide) zm_X7_188 rfl (Nat.le_of_ble_eq_true rfl) rfl dX7_four_111 ?_
    refine V_pc (pc' := 114) rfl ?_
    cases h
  · replace h := (oi h).2 c12
    refine V_iconst (v := 0) dX7_four_83 (by decide) ?_
    cases h
    exact V_iret rfl hq dX7_four_84
def f_X7_four_65 (a0 : Nat) (i1 : Int32) (i_0 : Int32) (M : zM) : Option (Int32 × zM) :=
  if i_0 = 0 then
  f_X7_four_76 a0 i1 ((1 : Int32)) a0 M
  else
  f_X7_four_76 a0 i1 ((0 : Int32)) a0 M
set_option maxRecDepth 20000 in
set_option maxHeartbeats 4000000 in
theorem s_X7_four_65 {L : zL} {X : zX} {M0 : zM} {N : Nat × Nat} {Q : State → Prop} {r : Int32 × zM} (hq : vQ L X M0 N Q (some (.int r.1)) r.2) {a0 : Nat} {i1 : Int32} {i_0 : Int32} {M : zM} (h : f_X7_four_65 a0 i1 i_0 M = some r) : V L X yX7_four cX7_four 3 (some FieldType.int) 4 M0 N Q M 65 [(0, .ref (zad L (a0))), (1, .int (i1))] [.int (i_0)] := by
  unfold f_X7_four_65 at h
  refine V_istore_n (ls' := [(2, .int (i_0)), (0, .ref (zad L (a0))), (1, .int (i1))]) dX7_four_65 rfl (by decide) rfl ?_
  refine V_aload_n dX7_four_66 rfl 1 rfl ?_
  refine V_iload_n dX7_four_67 rfl 0 rfl ?_
  refine V_if_ne (tgt := 75) dX7_four_68 (by decide) (fun c1 => ?_) (fun c1 => ?_)
  · replace h := (oi h).2 c1
    refine V_iconst (v := 0) dX7_four_75 (by decide) ?_
    refine V_sub [1, 2] rfl ?_
    exact s_X7_four_76 hq h
  · replace h := (oi h).1 c1
    refine V_iconst (v := 1) dX7_four_71 (by decide) ?_
    refine V_goto (tgt := 76) dX7_four_72 (by decide) ?_
    refine V_sub [1, 2] rfl ?_
    exact s_X7_four_76 hq h
def f_X7_four_64 (a0 : Nat) (i1 : Int32) (M : zM) : Option (Int32 × zM) :=
  f_X7_four_65 a0 i1 ((0 : Int32)) M
set_option maxRecDepth 20000 in
set_option maxHeartbeats 4000000 in
theorem s_X7_four_64 {L : zL} {X : zX} {M0 : zM} {N : Nat × Nat} {Q : State → Prop} {r : Int32 × zM} (hq : vQ L X M0 N Q (some (.int r.1)) r.2) {a0 : Nat} {i1 : Int32} {M : zM} (h : f_X7_four_64 a0 i1 M = some r) : V L X yX7_four cX7_four 3 (some FieldType.int) 4 M0 N Q M 64 [(0, .ref (zad L (a0))), (1, .int (i1))] [] := by
  unfold f_X7_four_64 at h
  refine V_iconst (v := 0) dX7_four_64 (by decide) ?_
  exact s_X7_four_65 hq h
def f_X7_four_13 (a0 : Nat) (i1 : Int32) (i_0 : Int32) (a_1 : Nat) (M : zM) : Option (Int32 × zM) :=
  if mK M a_1 = 13 then
  (f_X7_start a_1 i_0 ((1 : Int32)) M).bind fun r1 =>
  if r1.1 = 0 then
  (gI 13 6 r1.2 a0).bind fun v3 =>
  if v3 = ((1 : Int32)) then
  if mK r1.2 a0 = 13 then
  (f_X7_its a0 r1.2).bind fun r4 =>
  (gI 12 6 r4.2 r4.1).bind fun v6 =>
  if v6 = 0 then
  if mK r4.2 a0 = 13 then
  (f_X7_its a0 r4.2).bind fun r7 =>
  (gR 12 2 r7.2 r7.1).bind fun v9 =>
  (lA 0 r7.2 v9 i1).bind fun v10 =>
  if v10 = ((4 : Int32)) then
  if mK r7.2 a0 = 13 then
  (f_X7_mayFour a0 r7.2).bind fun r11 =>
  if r11.1 = 0 then
  f_X7_four_64 a0 i1 r11.2
  else
  f_X7_four_65 a0 i1 ((1 : Int32)) r11.2
  else none
  else
  f_X7_four_64 a0 i1 r7.2
  else none
  else
  f_X7_four_64 a0 i1 r4.2
  else none
  else
  f_X7_four_64 a0 i1 r1.2
  else
  some ((0 : Int32), r1.2)
  else none
set_option maxRecDepth 20000 in
set_option maxHeartbeats 4000000 in
theorem s_X7_four_13 {L : zL} {X : zX} {M0 : zM} {N : Nat × Nat} {Q : State → Prop} {r : Int32 × zM} (hq : vQ L X M0 N Q (some (.int r.1)) r.2) {a0 : Nat} {i1 : Int32} {i_0 : Int32} {a_1 : Nat} {M : zM} (h : f_X7_four_13 a0 i1 i_0 a_1 M = some r) : V L X yX7_four cX7_four 3 (some FieldType.int) 4 M0 N Q M 13 [(0, .ref (zad L (a0))), (1, .int (i1))] [.int (i_0), .ref (zad L (a_1))] := by
  unfold f_X7_four_13 at h
  refine V_iconst (v := 1) dX7_four_13 (by decide) ?_
  replace h := ox h
  obtain ⟨c2, h⟩ := h
  replace h := ob h
  obtain ⟨r1, e_r1, h⟩ := h
  refine V_callV_I (As := [.int (i_0), .int ((1 : Int32))]) (rest := []) (c_X7_start e_r1) zc_X7_start rfl (by decide) rfl (by decide) (Or.inl c2) zm_X7_85 (Nat.le_of_ble_eq_true rfl) rfl dX7_four_14 ?_
  refine V_pc (pc' := 17) rfl ?_
  refine V_if_eq (tgt := 22) dX7_four_17 (by decide) (fun c17 => ?_) (fun c17 => ?_)
  · replace h := (oi h).1 c17
    refine V_aload_n dX7_four_22 rfl 0 rfl ?_
    replace h := ob h
    obtain ⟨v3, e_v3, h⟩ := h
    refine V_getI zf_13_6 zl_X7_50 e_v3 dX7_four_23 ?_
    refine V_pc (pc' := 26) rfl ?_
    refine V_iconst (v := 1) dX7_four_26 (by decide) ?_
    refine V_icmp_ne (tgt := 64) dX7_four_27 (by decide) (fun c16 => ?_) (fun c16 => ?_)
    · replace h := (oi h).2 c16
      exact s_X7_four_64 hq h
    · replace h := (oi h).1 c16
      refine V_aload_n dX7_four_30 rfl 0 rfl ?_
      replace h := ox h
      obtain ⟨c5, h⟩ := h
      replace h := ob h
      obtain ⟨r4, e_r4, h⟩ := h
      refine V_callV_A (As := []) (rest := []) (c_X7_its e_r4) zc_X7_its rfl (by decide) rfl (by decide) (Or.inl c5) zm_X7_104 (Nat.le_of_ble_eq_true rfl) rfl dX7_four_31 ?_
      refine V_pc (pc' := 34) rfl ?_
      replace h := ob h
      obtain ⟨v6, e_v6, h⟩ := h
      refine V_getI zf_12_6 zl_X7_151 e_v6 dX7_four_34 ?_
      refine V_pc (pc' := 37) rfl ?_
      refine V_if_ne (tgt := 64) dX7_four_37 (by decide) (fun c15 => ?_) (fun c15 => ?_)
      · replace h := (oi h).2 c15
        exact s_X7_four_64 hq h
      · replace h := (oi h).1 c15
        refine V_aload_n dX7_four_40 rfl 0 rfl ?_
        replace h := ox h
        obtain ⟨c8, h⟩ := h
        replace h := ob h
        obtain ⟨r7, e_r7, h⟩ := h
        refine V_callV_A (As := []) (rest := []) (c_X7_its e_r7) zc_X7_its rfl (by decide) rfl (by decide) (Or.inl c8) zm_X7_104 (Nat.le_of_ble_eq_true rfl) rfl dX7_four_41 ?_
        refine V_pc (pc' := 44) rfl ?_
        replace h := ob h
        obtain ⟨v9, e_v9, h⟩ := h
        refine V_getR zf_12_2 zl_X7_94 e_v9 dX7_four_44 ?_
        refine V_pc (pc' := 47) rfl ?_
        refine V_iload_n dX7_four_47 rfl 1 rfl ?_
        replace h := ob h
        obtain ⟨v10, e_v10, h⟩ := h
        refine V_iald e_v10 dX7_four_48 ?_
        refine V_pc (pc' := 49) rfl ?_
        refine V_iconst (v := 4) dX7_four_49 (by decide) ?_
        refine V_icmp_ne (tgt := 64) dX7_four_50 (by decide) (fun c14 => ?_) (fun c14 => ?_)
        · replace h := (oi h).2 c14
          exact s_X7_four_64 hq h
        · replace h := (oi h).1 c14
          refine V_aload_n dX7_four_53 rfl 0 rfl ?_
          replace h := ox h
          obtain ⟨c12, h⟩ := h
          replace h := ob h
          obtain ⟨r11, e_r11, h⟩ := h
          refine V_callV_I (As := []) (rest := []) (c_X7_mayFour e_r11) zc_X7_mayFour rfl (by decide) rfl (by decide) (Or.inl c12) zm_X7_167 (Nat.le_of_ble_eq_true rfl) rfl dX7_four_54 ?_
          refine V_pc (pc' := 57) rfl ?_
          refine V_if_eq (tgt := 64) dX7_four_57 (by decide) (fun c13 => ?_) (fun c13 => ?_)
          · replace h := (oi h).1 c13
            exact s_X7_four_64 hq h
          · replace h := (oi h).2 c13
            refine V_iconst (v := 1) dX7_four_60 (by decide) ?_
            refine V_goto (tgt := 65) dX7_four_61 (by decide) ?_
            exact s_X7_four_65 hq h
  · replace h := (oi h).2 c17
    refine V_iconst (v := 0) dX7_four_20 (by decide) ?_
    cases h
    exact V_iret rfl hq dX7_four_21
def f_X7_four_0 (a0 : Nat) (i1 : Int32) (M : zM) : Option (Int32 × zM) :=
  (f_X7_isKind i1 M).bind fun r1 =>
  if r1.1 = 0 then
  f_X7_four_13 a0 i1 ((1 : Int32)) a0 r1.2
  else
  f_X7_four_13 a0 i1 ((0 : Int32)) a0 r1.2
set_option maxRecDepth 20000 in
set_option maxHeartbeats 4000000 in
theorem s_X7_four_0 {L : zL} {X : zX} {M0 : zM} {N : Nat × Nat} {Q : State → Prop} {r : Int32 × zM} (hq : vQ L X M0 N Q (some (.int r.1)) r.2) {a0 : Nat} {i1 : Int32} {M : zM} (h : f_X7_four_0 a0 i1 M = some r) : V L X yX7_four cX7_four 3 (some FieldType.int) 4 M0 N Q M 0 [(0, .ref (zad L (a0))), (1, .int (i1))] [] := by
  unfold f_X7_four_0 at h
  refine V_aload_n dX7_four_0 rfl 0 rfl ?_
  refine V_iload_n dX7_four_1 rfl 1 rfl ?_
  replace h := ob h
  obtain ⟨r1, e_r1, h⟩ := h
  refine V_callS_I (As := [.int (i1)]) (rest := [.ref (zad L (a0))]) (c_X7_isKind e_r1) zc_X7_isKind rfl (by decide) zm_X7_147 (Nat.le_of_ble_eq_true rfl) rfl dX7_four_2 ?_
  refine V_pc (pc' := 5) rfl ?_
  refine V_if_ne (tgt := 12) dX7_four_5 (by decide) (fun c2 => ?_) (fun c2 => ?_)
  · replace h := (oi h).2 c2
    refine V_iconst (v := 0) dX7_four_12 (by decide) ?_
    exact s_X7_four_13 hq h
  · replace h := (oi h).1 c2
    refine V_iconst (v := 1) dX7_four_8 (by decide) ?_
    refine V_goto (tgt := 13) dX7_four_9 (by decide) ?_
    exact s_X7_four_13 hq h
def f_X7_four (a0 : Nat) (i1 : Int32) (M : zM) : Option (Int32 × zM) := f_X7_four_0 a0 i1 M
theorem c_X7_four {L : zL} {l : Launch} {a0 : Nat} {i1 : Int32} {M : zM} {r : Int32 × zM} (h : f_X7_four a0 i1 M = some r) : CP L l yX7_four cX7_four 3 (some FieldType.int) 4 M [.ref (zad L (a0)), .int (i1)] (some (.int r.1)) r.2 :=
  CP.of ⟨by decide +kernel, by decide +kernel⟩ (Nat.le_of_ble_eq_true rfl) fun X Q hq => s_X7_four_0 hq h
/-! WindsparlourModel.pass()I -/
theorem dX7_pass_0 : decode cX7_pass 0 = .ok (.aload_n 0, 1) := by decide +kernel
theorem dX7_pass_1 : decode cX7_pass 1 = .ok (.aload_n 0, 1) := by decide +kernel
theorem dX7_pass_2 : decode cX7_pass 2 = .ok (.getfield 50, 3) := by decide +kernel
theorem dX7_pass_5 : decode cX7_pass 5 = .ok (.iconst 2, 1) := by decide +kernel
theorem dX7_pass_6 : decode cX7_pass 6 = .ok (.if_icmp .eq 7, 3) := by decide +kernel
theorem dX7_pass_9 : decode cX7_pass 9 = .ok (.iconst 1, 1) := by decide +kernel
theorem dX7_pass_10 : decode cX7_pass 10 = .ok (.goto 4, 3) := by decide +kernel
theorem dX7_pass_13 : decode cX7_pass 13 = .ok (.iconst 0, 1) := by decide +kernel
theorem dX7_pass_14 : decode cX7_pass 14 = .ok (.iconst 1, 1) := by decide +kernel
theorem dX7_pass_15 : decode cX7_pass 15 = .ok (.invokevirtual 85, 3) := by decide +kernel
theorem dX7_pass_18 : decode cX7_pass 18 = .ok (.ifCond .eq 5, 3) := by decide +kernel
theorem dX7_pass_21 : decode cX7_pass 21 = .ok (.iconst 0, 1) := by decide +kernel
theorem dX7_pass_22 : decode cX7_pass 22 = .ok (.ireturn, 1) := by decide +kernel
theorem dX7_pass_23 : decode cX7_pass 23 = .ok (.aload_n 0, 1) := by decide +kernel
theorem dX7_pass_24 : decode cX7_pass 24 = .ok (.aload_n 0, 1) := by decide +kernel
theorem dX7_pass_25 : decode cX7_pass 25 = .ok (.getfield 82, 3) := by decide +kernel
theorem dX7_pass_28 : decode cX7_pass 28 = .ok (.iconst 1, 1) := by decide +kernel
theorem dX7_pass_29 : decode cX7_pass 29 = .ok (.iadd, 1) := by decide +kernel
theorem dX7_pass_30 : decode cX7_pass 30 = .ok (.iconst 4, 1) := by decide +kernel
theorem dX7_pass_31 : decode cX7_pass 31 = .ok (.irem, 1) := by decide +kernel
theorem dX7_pass_32 : decode cX7_pass 32 = .ok (.putfield 82, 3) := by decide +kernel
theorem dX7_pass_35 : decode cX7_pass 35 = .ok (.aload_n 0, 1) := by decide +kernel
theorem dX7_pass_36 : decode cX7_pass 36 = .ok (.iconst 0, 1) := by decide +kernel
theorem dX7_pass_37 : decode cX7_pass 37 = .ok (.putfield 50, 3) := by decide +kernel
theorem dX7_pass_40 : decode cX7_pass 40 = .ok (.aload_n 0, 1) := by decide +kernel
theorem dX7_pass_41 : decode cX7_pass 41 = .ok (.getfield 82, 3) := by decide +kernel
theorem dX7_pass_44 : decode cX7_pass 44 = .ok (.ireturn, 1) := by decide +kernel
def f_X7_pass_14 (a0 : Nat) (i_0 : Int32) (a_1 : Nat) (M : zM) : Option (Int32 × zM) :=
  if mK M a_1 = 13 then
  (f_X7_start a_1 i_0 ((1 : Int32)) M).bind fun r1 =>
  if r1.1 = 0 then
  (gI 13 7 r1.2 a0).bind fun v3 =>
  (pI 13 7 r1.2 a0 ((zmd ((v3 + ((1 : Int32)))) ((4 : Int32))))).bind fun M4 =>
  (pI 13 6 M4 a0 ((0 : Int32))).bind fun M5 =>
  (gI 13 7 M5 a0).bind fun v6 =>
  some (v6, M5)
  else
  some ((0 : Int32), r1.2)
  else none
set_option maxRecDepth 20000 in
set_option maxHeartbeats 4000000 in
theorem s_X7_pass_14 {L : zL} {X : zX} {M0 : zM} {N : Nat × Nat} {Q : State → Prop} {r : Int32 × zM} (hq : vQ L X M0 N Q (some (.int r.1)) r.2) {a0 : Nat} {i_0 : Int32} {a_1 : Nat} {M : zM} (h : f_X7_pass_14 a0 i_0 a_1 M = some r) : V L X yX7_pass cX7_pass 1 (some FieldType.int) 3 M0 N Q M 14 [(0, .ref (zad L (a0)))] [.int (i_0), .ref (zad L (a_1))] := by
  unfold f_X7_pass_14 at h
  refine V_iconst (v := 1) dX7_pass_14 (by decide) ?_
  replace h := ox h
  obtain ⟨c2, h⟩ := h
  replace h := ob h
  obtain ⟨r1, e_r1, h⟩ := h
  refine V_callV_I (As := [.int (i_0), .int ((1 : Int32))]) (rest := []) (c_X7_start e_r1) zc_X7_start rfl (by decide) rfl (by decide) (Or.inl c2) zm_X7_85 (Nat.le_of_ble_eq_true rfl) rfl dX7_pass_15 ?_
  refine V_pc (pc' := 18) rfl ?_
  refine V_if_eq (tgt := 23) dX7_pass_18 (by decide) (fun c7 => ?_) (fun c7 => ?_)
  · replace h := (oi h).1 c7
    refine V_aload_n dX7_pass_23 rfl 0 rfl ?_
    refine V_aload_n dX7_pass_24 rfl 0 rfl ?_
    replace h := ob h
    obtain ⟨v3, e_v3, h⟩ := h
    refine V_getI zf_13_7 zl_X7_82 e_v3 dX7_pass_25 ?_
    refine V_pc (pc' := 28) rfl ?_
    refine V_iconst (v := 1) dX7_pass_28 (by decide) ?_
    refine V_iadd dX7_pass_29 ?_
    refine V_iconst (v := 4) dX7_pass_30 (by decide) ?_
    refine V_irem dX7_pass_31 (by decide) ?_
    replace h := ob h
    obtain ⟨M4, e_M4, h⟩ := h
    refine V_putI zf_13_7 zl_X7_82 (Or.inl rfl) rfl e_M4 dX7_pass_32 ?_
    refine V_pc (pc' := 35) rfl ?_
    refine V_aload_n dX7_pass_35 rfl 0 rfl ?_
    refine V_iconst (v := 0) dX7_pass_36 (by decide) ?_
    replace h := ob h
    obtain ⟨M5, e_M5, h⟩ := h
    refine V_putI zf_13_6 zl_X7_50 (Or.inl rfl) rfl e_M5 dX7_pass_37 ?_
    refine V_pc (pc' := 40) rfl ?_
    refine V_aload_n dX7_pass_40 rfl 0 rfl ?_
    replace h := ob h
    obtain ⟨v6, e_v6, h⟩ := h
    refine V_getI zf_13_7 zl_X7_82 e_v6 dX7_pass_41 ?_
    refine V_pc (pc' := 44) rfl ?_
    cases h
    exact V_iret rfl hq dX7_pass_44
  · replace h := (oi h).2 c7
    refine V_iconst (v := 0) dX7_pass_21 (by decide) ?_
    cases h
    exact V_iret rfl hq dX7_pass_22
def f_X7_pass_0 (a0 : Nat) (M : zM) : Option (Int32 × zM) :=
  (gI 13 6 M a0).bind fun v1 =>
  if v1 = ((2 : Int32)) then
  f_X7_pass_14 a0 ((0 : Int32)) a0 M
  else
  f_X7_pass_14 a0 ((1 : Int32)) a0 M
set_option maxRecDepth 20000 in
set_option maxHeartbeats 4000000 in
theorem s_X7_pass_0 {L : zL} {X : zX} {M0 : zM} {N : Nat × Nat} {Q : State → Prop} {r : Int32 × zM} (hq : vQ L X M0 N Q (some (.int r.1)) r.2) {a0 : Nat} {M : zM} (h : f_X7_pass_0 a0 M = some r) : V L X yX7_pass cX7_pass 1 (some FieldType.int) 3 M0 N Q M 0 [(0, .ref (zad L (a0)))] [] := by
  unfold f_X7_pass_0 at h
  refine V_aload_n dX7_pass_0 rfl 0 rfl ?_
  refine V_aload_n dX7_pass_1 rfl 0 rfl ?_
  replace h := ob h
  obtain ⟨v1, e_v1, h⟩ := h
  refine V_getI zf_13_6 zl_X7_50 e_v1 dX7_pass_2 ?_
  refine V_pc (pc' := 5) rfl ?_
  refine V_iconst (v := 2) dX7_pass_5 (by decide) ?_
  refine V_icmp_eq (tgt := 13) dX7_pass_6 (by decide) (fun c2 => ?_) (fun c2 => ?_)
  · replace h := (oi h).1 c2
    refine V_iconst (v := 0) dX7_pass_13 (by decide) ?_
    exact s_X7_pass_14 hq h
  · replace h := (oi h).2 c2
    refine V_iconst (v := 1) dX7_pass_9 (by decide) ?_
    refine V_goto (tgt := 14) dX7_pass_10 (by decide) ?_
    exact s_X7_pass_14 hq h
def f_X7_pass (a0 : Nat) (M : zM) : Option (Int32 × zM) := f_X7_pass_0 a0 M
theorem c_X7_pass {L : zL} {l : Launch} {a0 : Nat} {M : zM} {r : Int32 × zM} (h : f_X7_pass a0 M = some r) : CP L l yX7_pass cX7_pass 1 (some FieldType.int) 3 M [.ref (zad L (a0))] (some (.int r.1)) r.2 :=
  CP.of ⟨by decide +kernel, by decide +kernel⟩ (Nat.le_of_ble_eq_true rfl) fun X Q hq => s_X7_pass_0 hq h
/-! java/lang/Math.floorMod(II)I -/
theorem dJ9_floorMod_7cf53_0 : decode cJ9_floorMod_7cf53 0 = .ok (.iload_n 0, 1) := by decide +kernel
theorem dJ9_floorMod_7cf53_1 : decode cJ9_floorMod_7cf53 1 = .ok (.iload_n 1, 1) := by decide +kernel
theorem dJ9_floorMod_7cf53_2 : decode cJ9_floorMod_7cf53 2 = .ok (.irem, 1) := by decide +kernel
theorem dJ9_floorMod_7cf53_3 : decode cJ9_floorMod_7cf53 3 = .ok (.istore_n 2, 1) := by decide +kernel
theorem dJ9_floorMod_7cf53_4 : decode cJ9_floorMod_7cf53 4 = .ok (.iload_n 0, 1) := by decide +kernel
theorem dJ9_floorMod_7cf53_5 : decode cJ9_floorMod_7cf53 5 = .ok (.iload_n 1, 1) := by decide +kernel
theorem dJ9_floorMod_7cf53_6 : decode cJ9_floorMod_7cf53 6 = .ok (.ixor, 1) := by decide +kernel
theorem dJ9_floorMod_7cf53_7 : decode cJ9_floorMod_7cf53 7 = .ok (.ifCond .ge 11, 3) := by decide +kernel
theorem dJ9_floorMod_7cf53_10 : decode cJ9_floorMod_7cf53 10 = .ok (.iload_n 2, 1) := by decide +kernel
theorem dJ9_floorMod_7cf53_11 : decode cJ9_floorMod_7cf53 11 = .ok (.ifCond .eq 7, 3) := by decide +kernel
theorem dJ9_floorMod_7cf53_14 : decode cJ9_floorMod_7cf53 14 = .ok (.iload_n 2, 1) := by decide +kernel
theorem dJ9_floorMod_7cf53_15 : decode cJ9_floorMod_7cf53 15 = .ok (.iload_n 1, 1) := by decide +kernel
theorem dJ9_floorMod_7cf53_16 : decode cJ9_floorMod_7cf53 16 = .ok (.iadd, 1) := by decide +kernel
theorem dJ9_floorMod_7cf53_17 : decode cJ9_floorMod_7cf53 17 = .ok (.ireturn, 1) := by decide +kernel
theorem dJ9_floorMod_7cf53_18 : decode cJ9_floorMod_7cf53 18 = .ok (.iload_n 2, 1) := by decide +kernel
theorem dJ9_floorMod_7cf53_19 : decode cJ9_floorMod_7cf53 19 = .ok (.ireturn, 1) := by decide +kernel
def f_J9_floorMod_7cf53_0 (i0 : Int32) (i1 : Int32) (M : zM) : Option (Int32 × zM) :=
  if i1 = 0 then none else
  if 0 ≤ ((i0 ^^^ i1)) then
  some ((zmd i0 i1), M)
  else
  if ((zmd i0 i1)) = 0 then
  some ((zmd i0 i1), M)
  else
  some ((((zmd i0 i1)) + i1), M)
set_option maxRecDepth 20000 in
set_option maxHeartbeats 4000000 in
theorem s_J9_floorMod_7cf53_0 {L : zL} {X : zX} {M0 : zM} {N : Nat × Nat} {Q : State → Prop} {r : Int32 × zM} (hq : vQ L X M0 N Q (some (.int r.1)) r.2) {i0 : Int32} {i1 : Int32} {M : zM} (h : f_J9_floorMod_7cf53_0 i0 i1 M = some r) : V L X yJ9_floorMod_7cf53 cJ9_floorMod_7cf53 3 (some FieldType.int) 1 M0 N Q M 0 [(0, .int (i0)), (1, .int (i1))] [] := by
  unfold f_J9_floorMod_7cf53_0 at h
  refine V_iload_n dJ9_floorMod_7cf53_0 rfl 0 rfl ?_
  refine V_iload_n dJ9_floorMod_7cf53_1 rfl 1 rfl ?_
  replace h := on h
  obtain ⟨c1, h⟩ := h
  refine V_irem dJ9_floorMod_7cf53_2 c1 ?_
  refine V_istore_n (ls' := [(2, .int ((zmd i0 i1))), (0, .int (i0)), (1, .int (i1))]) dJ9_floorMod_7cf53_3 rfl (by decide) rfl ?_
  refine V_iload_n dJ9_floorMod_7cf53_4 rfl 1 rfl ?_
  refine V_iload_n dJ9_floorMod_7cf53_5 rfl 2 rfl ?_
  refine V_ixor dJ9_floorMod_7cf53_6 ?_
  refine V_if_ge (tgt := 18) dJ9_floorMod_7cf53_7 (by decide) (fun c3 => ?_) (fun c3 => ?_)
  · replace h := (oi h).1 c3
    refine V_iload_n dJ9_floorMod_7cf53_18 rfl 0 rfl ?_
    cases h
    exact V_iret rfl hq dJ9_floorMod_7cf53_19
  · replace h := (oi h).2 c3
    refine V_iload_n dJ9_floorMod_7cf53_10 rfl 0 rfl ?_
    refine V_if_eq (tgt := 18) dJ9_floorMod_7cf53_11 (by decide) (fun c2 => ?_) (fun c2 => ?_)
    · replace h := (oi h).1 c2
      refine V_iload_n dJ9_floorMod_7cf53_18 rfl 0 rfl ?_
      cases h
      exact V_iret rfl hq dJ9_floorMod_7cf53_19
    · replace h := (oi h).2 c2
      refine V_iload_n dJ9_floorMod_7cf53_14 rfl 0 rfl ?_
      refine V_iload_n dJ9_floorMod_7cf53_15 rfl 2 rfl ?_
      refine V_iadd dJ9_floorMod_7cf53_16 ?_
      cases h
      exact V_iret rfl hq dJ9_floorMod_7cf53_17
def f_J9_floorMod_7cf53 (i0 : Int32) (i1 : Int32) (M : zM) : Option (Int32 × zM) := f_J9_floorMod_7cf53_0 i0 i1 M
theorem c_J9_floorMod_7cf53 {L : zL} {l : Launch} {i0 : Int32} {i1 : Int32} {M : zM} {r : Int32 × zM} (h : f_J9_floorMod_7cf53 i0 i1 M = some r) : CP L l yJ9_floorMod_7cf53 cJ9_floorMod_7cf53 3 (some FieldType.int) 1 M [.int (i0), .int (i1)] (some (.int r.1)) r.2 :=
  CP.of ⟨by decide +kernel, by decide +kernel⟩ (Nat.le_of_ble_eq_true rfl) fun X Q hq => s_J9_floorMod_7cf53_0 hq h
/-! WindsparlourModel.wind(I)I -/
theorem dX7_wind_0 : decode cX7_wind 0 = .ok (.iload_n 1, 1) := by decide +kernel
theorem dX7_wind_1 : decode cX7_wind 1 = .ok (.aload_n 0, 1) := by decide +kernel
theorem dX7_wind_2 : decode cX7_wind 2 = .ok (.getfield 53, 3) := by decide +kernel
theorem dX7_wind_5 : decode cX7_wind 5 = .ok (.isub, 1) := by decide +kernel
theorem dX7_wind_6 : decode cX7_wind 6 = .ok (.iconst 4, 1) := by decide +kernel
theorem dX7_wind_7 : decode cX7_wind 7 = .ok (.invokestatic 194, 3) := by decide +kernel
theorem dX7_wind_10 : decode cX7_wind 10 = .ok (.ireturn, 1) := by decide +kernel
def f_X7_wind_0 (a0 : Nat) (i1 : Int32) (M : zM) : Option (Int32 × zM) :=
  (gI 13 8 M a0).bind fun v1 =>
  (f_J9_floorMod_7cf53 ((i1 - v1)) ((4 : Int32)) M).bind fun r2 =>
  some (r2.1, r2.2)
set_option maxRecDepth 20000 in
set_option maxHeartbeats 4000000 in
theorem s_X7_wind_0 {L : zL} {X : zX} {M0 : zM} {N : Nat × Nat} {Q : State → Prop} {r : Int32 × zM} (hq : vQ L X M0 N Q (some (.int r.1)) r.2) {a0 : Nat} {i1 : Int32} {M : zM} (h : f_X7_wind_0 a0 i1 M = some r) : V L X yX7_wind cX7_wind 2 (some FieldType.int) 2 M0 N Q M 0 [(0, .ref (zad L (a0))), (1, .int (i1))] [] := by
  unfold f_X7_wind_0 at h
  refine V_iload_n dX7_wind_0 rfl 1 rfl ?_
  refine V_aload_n dX7_wind_1 rfl 0 rfl ?_
  replace h := ob h
  obtain ⟨v1, e_v1, h⟩ := h
  refine V_getI zf_13_8 zl_X7_53 e_v1 dX7_wind_2 ?_
  refine V_pc (pc' := 5) rfl ?_
  refine V_isub dX7_wind_5 ?_
  refine V_iconst (v := 4) dX7_wind_6 (by decide) ?_
  replace h := ob h
  obtain ⟨r2, e_r2, h⟩ := h
  refine V_callS_I (As := [.int ((i1 - v1)), .int ((4 : Int32))]) (rest := []) (c_J9_floorMod_7cf53 e_r2) zc_J9_floorMod_7cf53 rfl (by decide) zm_X7_194 (Nat.le_of_ble_eq_true rfl) rfl dX7_wind_7 ?_
  refine V_pc (pc' := 10) rfl ?_
  cases h
  exact V_iret rfl hq dX7_wind_10
def f_X7_wind (a0 : Nat) (i1 : Int32) (M : zM) : Option (Int32 × zM) := f_X7_wind_0 a0 i1 M
theorem c_X7_wind {L : zL} {l : Launch} {a0 : Nat} {i1 : Int32} {M : zM} {r : Int32 × zM} (h : f_X7_wind a0 i1 M = some r) : CP L l yX7_wind cX7_wind 2 (some FieldType.int) 2 M [.ref (zad L (a0)), .int (i1)] (some (.int r.1)) r.2 :=
  CP.of ⟨by decide +kernel, by decide +kernel⟩ (Nat.le_of_ble_eq_true rfl) fun X Q hq => s_X7_wind_0 hq h
/-! WindsparlourModel.areAll([III)Z -/
theorem dX7_areAll_0 : decode cX7_areAll 0 = .ok (.iconst 0, 1) := by decide +kernel
theorem dX7_areAll_1 : decode cX7_areAll 1 = .ok (.istore_n 3, 1) := by decide +kernel
theorem dX7_areAll_2 : decode cX7_areAll 2 = .ok (.iload_n 3, 1) := by decide +kernel
theorem dX7_areAll_3 : decode cX7_areAll 3 = .ok (.bipush 25, 2) := by decide +kernel
theorem dX7_areAll_5 : decode cX7_areAll 5 = .ok (.if_icmp .ge 26, 3) := by decide +kernel
theorem dX7_areAll_8 : decode cX7_areAll 8 = .ok (.aload_n 0, 1) := by decide +kernel
theorem dX7_areAll_9 : decode cX7_areAll 9 = .ok (.iload_n 3, 1) := by decide +kernel
theorem dX7_areAll_10 : decode cX7_areAll 10 = .ok (.iaload, 1) := by decide +kernel
theorem dX7_areAll_11 : decode cX7_areAll 11 = .ok (.ifCond .le 14, 3) := by decide +kernel
theorem dX7_areAll_14 : decode cX7_areAll 14 = .ok (.iload_n 3, 1) := by decide +kernel
theorem dX7_areAll_15 : decode cX7_areAll 15 = .ok (.iload_n 1, 1) := by decide +kernel
theorem dX7_areAll_16 : decode cX7_areAll 16 = .ok (.iload_n 2, 1) := by decide +kernel
theorem dX7_areAll_17 : decode cX7_areAll 17 = .ok (.invokestatic 3, 3) := by decide +kernel
theorem dX7_areAll_20 : decode cX7_areAll 20 = .ok (.ifCond .ne 5, 3) := by decide +kernel
theorem dX7_areAll_23 : decode cX7_areAll 23 = .ok (.iconst 0, 1) := by decide +kernel
theorem dX7_areAll_24 : decode cX7_areAll 24 = .ok (.ireturn, 1) := by decide +kernel
theorem dX7_areAll_25 : decode cX7_areAll 25 = .ok (.iinc 3 1, 3) := by decide +kernel
theorem dX7_areAll_28 : decode cX7_areAll 28 = .ok (.goto (-26), 3) := by decide +kernel
theorem dX7_areAll_31 : decode cX7_areAll 31 = .ok (.iconst 1, 1) := by decide +kernel
theorem dX7_areAll_32 : decode cX7_areAll 32 = .ok (.ireturn, 1) := by decide +kernel
def f_X7_areAll_2 (n : Nat) (a0 : Nat) (i1 : Int32) (i2 : Int32) (i3 : Int32) (M : zM) : Option (Int32 × zM) := match n with
  | 0 => none
  | n + 1 =>
    if ((25 : Int32)) ≤ i3 then
    some ((1 : Int32), M)
    else
    (lA 0 M a0 i3).bind fun v1 =>
    if v1 ≤ 0 then
    f_X7_areAll_2 n a0 i1 i2 ((i3 + (1 : Int32))) M
    else
    (f_X7_isIn i3 i1 i2 M).bind fun r2 =>
    if r2.1 = 0 then
    some ((0 : Int32), r2.2)
    else
    f_X7_areAll_2 n a0 i1 i2 ((i3 + (1 : Int32))) r2.2
set_option maxRecDepth 20000 in
set_option maxHeartbeats 4000000 in
theorem s_X7_areAll_2 {L : zL} {X : zX} {M0 : zM} {N : Nat × Nat} {Q : State → Prop} {r : Int32 × zM} (hq : vQ L X M0 N Q (some (.int r.1)) r.2) {n : Nat} {a0 : Nat} {i1 : Int32} {i2 : Int32} {i3 : Int32} {M : zM} : f_X7_areAll_2 n a0 i1 i2 i3 M = some r → V L X yX7_areAll cX7_areAll 4 (some FieldType.boolean) 2 M0 N Q M 2 [(0, .ref (zad L (a0))), (1, .int (i1)), (2, .int (i2)), (3, .int (i3))] [] := by
  induction n generalizing a0 i1 i2 i3 M with
  | zero =>
    intro h
    rw [f_X7_areAll_2] at h
    cases h
  | succ n ih0 =>
    intro h
    have ih : ∀ (a0 : Nat) (i1 : Int32) (i2 : Int32) (i3 : Int32) (M : zM), f_X7_areAll_2 n a0 i1 i2 i3 M = some r → V L X yX7_areAll cX7_areAll 4 (some FieldType.boolean) 2 M0 N Q M 2 [(0, .ref (zad L (a0))), (1, .int (i1)), (2, .int (i2)), (3, .int (i3))] [] := fun a0 i1 i2 i3 M h => ih0 h
    rw [f_X7_areAll_2] at h
    refine V_iload_n dX7_areAll_2 rfl 3 rfl ?_
    refine V_bipush (v := 25) dX7_areAll_3 (by decide) ?_
    refine V_icmp_ge (tgt := 31) dX7_areAll_5 (by decide) (fun c5 => ?_) (fun c5 => ?_)
    · replace h := (oi h).1 c5
      refine V_iconst (v := 1) dX7_areAll_31 (by decide) ?_
      cases h
      exact V_zret (ty := .boolean) rfl rfl hq dX7_areAll_32
    · replace h := (oi h).2 c5
      refine V_aload_n dX7_areAll_8 rfl 0 rfl ?_
      refine V_iload_n dX7_areAll_9 rfl 3 rfl ?_
      replace h := ob h
      obtain ⟨v1, e_v1, h⟩ := h
      refine V_iald e_v1 dX7_areAll_10 ?_
      refine V_pc (pc' := 11) rfl ?_
      refine V_if_le (tgt := 25) dX7_areAll_11 (by decide) (fun c4 => ?_) (fun c4 => ?_)
      · replace h := (oi h).1 c4
        refine V_iinc (v := i3 + (1 : Int32)) (ls' := [(3, .int ((i3 + (1 : Int32)))), (0, .ref (zad L (a0))), (1, .int (i1)), (2, .int (i2))]) dX7_areAll_25 3 rfl (by rfl) (by decide) rfl ?_
        refine V_goto (tgt := 2) dX7_areAll_28 (by decide) ?_
        refine V_sub [1, 2, 3, 0] rfl ?_
        exact ih _ _ _ _ _ h
      · replace h := (oi h).2 c4
        refine V_iload_n dX7_areAll_14 rfl 3 rfl ?_
        refine V_iload_n dX7_areAll_15 rfl 1 rfl ?_
        refine V_iload_n dX7_areAll_16 rfl 2 rfl ?_
        replace h := ob h
        obtain ⟨r2, e_r2, h⟩ := h
        refine V_callS_I (As := [.int (i3), .int (i1), .int (i2)]) (rest := []) (c_X7_isIn e_r2) zc_X7_isIn rfl (by decide) zm_X7_3 (Nat.le_of_ble_eq_true rfl) rfl dX7_areAll_17 ?_
        refine V_pc (pc' := 20) rfl ?_
        refine V_if_ne (tgt := 25) dX7_areAll_20 (by decide) (fun c3 => ?_) (fun c3 => ?_)
        · replace h := (oi h).2 c3
          refine V_iinc (v := i3 + (1 : Int32)) (ls' := [(3, .int ((i3 + (1 : Int32)))), (0, .ref (zad L (a0))), (1, .int (i1)), (2, .int (i2))]) dX7_areAll_25 3 rfl (by rfl) (by decide) rfl ?_
          refine V_goto (tgt := 2) dX7_areAll_28 (by decide) ?_
          refine V_sub [1, 2, 3, 0] rfl ?_
          exact ih _ _ _ _ _ h
        · replace h := (oi h).1 c3
          refine V_iconst (v := 0) dX7_areAll_23 (by decide) ?_
          cases h
          exact V_zret (ty := .boolean) rfl rfl hq dX7_areAll_24
def f_X7_areAll_0 (a0 : Nat) (i1 : Int32) (i2 : Int32) (M : zM) : Option (Int32 × zM) :=
  f_X7_areAll_2 zN a0 i1 i2 ((0 : Int32)) M
set_option maxRecDepth 20000 in
set_option maxHeartbeats 4000000 in
theorem s_X7_areAll_0 {L : zL} {X : zX} {M0 : zM} {N : Nat × Nat} {Q : State → Prop} {r : Int32 × zM} (hq : vQ L X M0 N Q (some (.int r.1)) r.2) {a0 : Nat} {i1 : Int32} {i2 : Int32} {M : zM} (h : f_X7_areAll_0 a0 i1 i2 M = some r) : V L X yX7_areAll cX7_areAll 4 (some FieldType.boolean) 2 M0 N Q M 0 [(0, .ref (zad L (a0))), (1, .int (i1)), (2, .int (i2))] [] := by
  unfold f_X7_areAll_0 at h
  refine V_iconst (v := 0) dX7_areAll_0 (by decide) ?_
  refine V_istore_n (ls' := [(3, .int ((0 : Int32))), (0, .ref (zad L (a0))), (1, .int (i1)), (2, .int (i2))]) dX7_areAll_1 rfl (by decide) rfl ?_
  refine V_sub [1, 2, 3, 0] rfl ?_
  exact s_X7_areAll_2 hq h
def f_X7_areAll (a0 : Nat) (i1 : Int32) (i2 : Int32) (M : zM) : Option (Int32 × zM) := f_X7_areAll_0 a0 i1 i2 M
theorem c_X7_areAll {L : zL} {l : Launch} {a0 : Nat} {i1 : Int32} {i2 : Int32} {M : zM} {r : Int32 × zM} (h : f_X7_areAll a0 i1 i2 M = some r) : CP L l yX7_areAll cX7_areAll 4 (some FieldType.boolean) 2 M [.ref (zad L (a0)), .int (i1), .int (i2)] (some (.int r.1)) r.2 :=
  CP.of ⟨by decide +kernel, by decide +kernel⟩ (Nat.le_of_ble_eq_true rfl) fun X Q hq => s_X7_areAll_0 hq h
