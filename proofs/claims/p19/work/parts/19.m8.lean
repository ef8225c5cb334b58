/-! ===== METHODS, by program ===== -/
/-! WindsparlourModel.draw()I -/
theorem dX7_draw_0 : decode cX7_draw 0 = .ok (.aload_n 0, 1) := by decide +kernel
theorem dX7_draw_1 : decode cX7_draw 1 = .ok (.aload_n 0, 1) := by decide +kernel
theorem dX7_draw_2 : decode cX7_draw 2 = .ok (.getfield 50, 3) := by decide +kernel
theorem dX7_draw_5 : decode cX7_draw 5 = .ok (.ifCond .eq 7, 3) := by decide +kernel
theorem dX7_draw_8 : decode cX7_draw 8 = .ok (.iconst 1, 1) := by decide +kernel
theorem dX7_draw_9 : decode cX7_draw 9 = .ok (.goto 4, 3) := by decide +kernel
theorem dX7_draw_12 : decode cX7_draw 12 = .ok (.iconst 0, 1) := by decide +kernel
theorem dX7_draw_13 : decode cX7_draw 13 = .ok (.iconst 1, 1) := by decide +kernel
theorem dX7_draw_14 : decode cX7_draw 14 = .ok (.invokevirtual 85, 3) := by decide +kernel
theorem dX7_draw_17 : decode cX7_draw 17 = .ok (.ifCond .eq 5, 3) := by decide +kernel
theorem dX7_draw_20 : decode cX7_draw 20 = .ok (.iconst 0, 1) := by decide +kernel
theorem dX7_draw_21 : decode cX7_draw 21 = .ok (.ireturn, 1) := by decide +kernel
theorem dX7_draw_22 : decode cX7_draw 22 = .ok (.aload_n 0, 1) := by decide +kernel
theorem dX7_draw_23 : decode cX7_draw 23 = .ok (.invokevirtual 115, 3) := by decide +kernel
theorem dX7_draw_26 : decode cX7_draw 26 = .ok (.ifCond .eq 24, 3) := by decide +kernel
theorem dX7_draw_29 : decode cX7_draw 29 = .ok (.aload_n 0, 1) := by decide +kernel
theorem dX7_draw_30 : decode cX7_draw 30 = .ok (.aload_n 0, 1) := by decide +kernel
theorem dX7_draw_31 : decode cX7_draw 31 = .ok (.getfield 42, 3) := by decide +kernel
theorem dX7_draw_34 : decode cX7_draw 34 = .ok (.aload_n 0, 1) := by decide +kernel
theorem dX7_draw_35 : decode cX7_draw 35 = .ok (.dup, 1) := by decide +kernel
theorem dX7_draw_36 : decode cX7_draw 36 = .ok (.getfield 75, 3) := by decide +kernel
theorem dX7_draw_39 : decode cX7_draw 39 = .ok (.dup_x1, 1) := by decide +kernel
theorem dX7_draw_40 : decode cX7_draw 40 = .ok (.iconst 1, 1) := by decide +kernel
theorem dX7_draw_41 : decode cX7_draw 41 = .ok (.iadd, 1) := by decide +kernel
theorem dX7_draw_42 : decode cX7_draw 42 = .ok (.putfield 75, 3) := by decide +kernel
theorem dX7_draw_45 : decode cX7_draw 45 = .ok (.iaload, 1) := by decide +kernel
theorem dX7_draw_46 : decode cX7_draw 46 = .ok (.invokevirtual 118, 3) := by decide +kernel
theorem dX7_draw_49 : decode cX7_draw 49 = .ok (.ireturn, 1) := by decide +kernel
theorem dX7_draw_50 : decode cX7_draw 50 = .ok (.aload_n 0, 1) := by decide +kernel
theorem dX7_draw_51 : decode cX7_draw 51 = .ok (.invokevirtual 121, 3) := by decide +kernel
theorem dX7_draw_54 : decode cX7_draw 54 = .ok (.aload_n 0, 1) := by decide +kernel
theorem dX7_draw_55 : decode cX7_draw 55 = .ok (.iconst (-1), 1) := by decide +kernel
theorem dX7_draw_56 : decode cX7_draw 56 = .ok (.putfield 56, 3) := by decide +kernel
theorem dX7_draw_59 : decode cX7_draw 59 = .ok (.aload_n 0, 1) := by decide +kernel
theorem dX7_draw_60 : decode cX7_draw 60 = .ok (.iconst 3, 1) := by decide +kernel
theorem dX7_draw_61 : decode cX7_draw 61 = .ok (.putfield 50, 3) := by decide +kernel
theorem dX7_draw_64 : decode cX7_draw 64 = .ok (.iconst (-1), 1) := by decide +kernel
theorem dX7_draw_65 : decode cX7_draw 65 = .ok (.ireturn, 1) := by decide +kernel
def f_X7_draw_13 (a0 : Nat) (i_0 : Int32) (a_1 : Nat) (M : zM) : Option (Int32 × zM) :=
  if mK M a_1 = 13 then
  (f_X7_start a_1 i_0 ((1 : Int32)) M).bind fun r1 =>
  if r1.1 = 0 then
  if mK r1.2 a0 = 13 then
  (f_X7_canDraw a0 r1.2).bind fun r3 =>
  if r3.1 = 0 then
  if mK r3.2 a0 = 13 then
  (f_X7_settle a0 r3.2).bind fun r5 =>
  (pI 13 12 r5.2 a0 ((-1 : Int32))).bind fun M7 =>
  (pI 13 6 M7 a0 ((3 : Int32))).bind fun M8 =>
  some ((-1 : Int32), M8)
  else none
  else
  (gR 13 2 r3.2 a0).bind fun v9 =>
  (gI 13 3 r3.2 a0).bind fun v10 =>
  (pI 13 3 r3.2 a0 ((v10 + ((1 : Int32))))).bind fun M11 =>
  (lA 0 M11 v9 v10).bind fun v12 =>
  if mK M11 a0 = 13 then
  (f_X7_take a0 v12 M11).bind fun r13 =>
  some (r13.1, r13.2)
  else none
  else none
  else
  some ((0 : Int32), r1.2)
  else none
set_option maxRecDepth 20000 in
set_option maxHeartbeats 4000000 in
theorem s_X7_draw_13 {L : zL} {X : zX} {M0 : zM} {N : Nat × Nat} {Q : State → Prop} {r : Int32 × zM} (hq : vQ L X M0 N Q (some (.int r.1)) r.2) {a0 : Nat} {i_0 : Int32} {a_1 : Nat} {M : zM} (h : f_X7_draw_13 a0 i_0 a_1 M = some r) : V L X yX7_draw cX7_draw 1 (some FieldType.int) 71 M0 N Q M 13 [(0, .ref (zad L (a0)))] [.int (i_0), .ref (zad L (a_1))] := by
  unfold f_X7_draw_13 at h
  refine V_iconst (v := 1) dX7_draw_13 (by decide) ?_
  replace h := ox h
  obtain ⟨c2, h⟩ := h
  replace h := ob h
  obtain ⟨r1, e_r1, h⟩ := h
  refine V_callV_I (As := [.int (i_0), .int ((1 : Int32))]) (rest := []) (c_X7_start e_r1) zc_X7_start rfl (by decide) rfl (by decide) (Or.inl c2) zm_X7_85 (Nat.le_of_ble_eq_true rfl) rfl dX7_draw_14 ?_
  refine V_pc (pc' := 17) rfl ?_
  refine V_if_eq (tgt := 22) dX7_draw_17 (by decide) (fun c16 => ?_) (fun c16 => ?_)
  · replace h := (oi h).1 c16
    refine V_aload_n dX7_draw_22 rfl 0 rfl ?_
    replace h := ox h
    obtain ⟨c4, h⟩ := h
    replace h := ob h
    obtain ⟨r3, e_r3, h⟩ := h
    refine V_callV_I (As := []) (rest := []) (c_X7_canDraw e_r3) zc_X7_canDraw rfl (by decide) rfl (by decide) (Or.inl c4) zm_X7_115 (Nat.le_of_ble_eq_true rfl) rfl dX7_draw_23 ?_
    refine V_pc (pc' := 26) rfl ?_
    refine V_if_eq (tgt := 50) dX7_draw_26 (by decide) (fun c15 => ?_) (fun c15 => ?_)
    · replace h := (oi h).1 c15
      refine V_aload_n dX7_draw_50 rfl 0 rfl ?_
      replace h := ox h
      obtain ⟨c6, h⟩ := h
      replace h := ob h
      obtain ⟨r5, e_r5, h⟩ := h
      refine V_callV_V (As := []) (rest := []) (c_X7_settle e_r5) zc_X7_settle rfl (by decide) rfl (by decide) (Or.inl c6) zm_X7_121 (Nat.le_of_ble_eq_true rfl) rfl dX7_draw_51 ?_
      refine V_pc (pc' := 54) rfl ?_
      refine V_aload_n dX7_draw_54 rfl 0 rfl ?_
      refine V_iconst (v := -1) dX7_draw_55 (by decide) ?_
      replace h := ob h
      obtain ⟨M7, e_M7, h⟩ := h
      refine V_putI zf_13_12 zl_X7_56 (Or.inl rfl) rfl e_M7 dX7_draw_56 ?_
      refine V_pc (pc' := 59) rfl ?_
      refine V_aload_n dX7_draw_59 rfl 0 rfl ?_
      refine V_iconst (v := 3) dX7_draw_60 (by decide) ?_
      replace h := ob h
      obtain ⟨M8, e_M8, h⟩ := h
      refine V_putI zf_13_6 zl_X7_50 (Or.inl rfl) rfl e_M8 dX7_draw_61 ?_
      refine V_pc (pc' := 64) rfl ?_
      refine V_iconst (v := -1) dX7_draw_64 (by decide) ?_
      obtain rfl := Option.some.inj h
      exact V_iret rfl hq dX7_draw_65
    · replace h := (oi h).2 c15
      refine V_aload_n dX7_draw_29 rfl 0 rfl ?_
      refine V_aload_n dX7_draw_30 rfl 0 rfl ?_
      replace h := ob h
      obtain ⟨v9, e_v9, h⟩ := h
      refine V_getR zf_13_2 zl_X7_42 e_v9 dX7_draw_31 ?_
      refine V_pc (pc' := 34) rfl ?_
      refine V_aload_n dX7_draw_34 rfl 0 rfl ?_
      refine V_dup dX7_draw_35 rfl ?_
      replace h := ob h
      obtain ⟨v10, e_v10, h⟩ := h
      refine V_getI zf_13_3 zl_X7_75 e_v10 dX7_draw_36 ?_
      refine V_pc (pc' := 39) rfl ?_
      refine V_dup_x1 dX7_draw_39 rfl rfl ?_
      refine V_iconst (v := 1) dX7_draw_40 (by decide) ?_
      refine V_iadd dX7_draw_41 ?_
      replace h := ob h
      obtain ⟨M11, e_M11, h⟩ := h
      refine V_putI zf_13_3 zl_X7_75 (Or.inl rfl) rfl e_M11 dX7_draw_42 ?_
      refine V_pc (pc' := 45) rfl ?_
      replace h := ob h
      obtain ⟨v12, e_v12, h⟩ := h
      refine V_iald e_v12 dX7_draw_45 ?_
      refine V_pc (pc' := 46) rfl ?_
      replace h := ox h
      obtain ⟨c14, h⟩ := h
      replace h := ob h
      obtain ⟨r13, e_r13, h⟩ := h
      refine V_callV_I (As := [.int (v12)]) (rest := []) (c_X7_take e_r13) zc_X7_take rfl (by decide) rfl (by decide) (Or.inl c14) zm_X7_118 (Nat.le_of_ble_eq_true rfl) rfl dX7_draw_46 ?_
      refine V_pc (pc' := 49) rfl ?_
      obtain rfl := Option.some.inj h
      exact V_iret rfl hq dX7_draw_49
  · replace h := (oi h).2 c16
    refine V_iconst (v := 0) dX7_draw_20 (by decide) ?_
    obtain rfl := Option.some.inj h
    exact V_iret rfl hq dX7_draw_21
def f_X7_draw_0 (a0 : Nat) (M : zM) : Option (Int32 × zM) :=
  (gI 13 6 M a0).bind fun v1 =>
  if v1 = 0 then
  f_X7_draw_13 a0 ((0 : Int32)) a0 M
  else
  f_X7_draw_13 a0 ((1 : Int32)) a0 M
set_option maxRecDepth 20000 in
set_option maxHeartbeats 4000000 in
theorem s_X7_draw_0 {L : zL} {X : zX} {M0 : zM} {N : Nat × Nat} {Q : State → Prop} {r : Int32 × zM} (hq : vQ L X M0 N Q (some (.int r.1)) r.2) {a0 : Nat} {M : zM} (h : f_X7_draw_0 a0 M = some r) : V L X yX7_draw cX7_draw 1 (some FieldType.int) 71 M0 N Q M 0 [(0, .ref (zad L (a0)))] [] := by
  unfold f_X7_draw_0 at h
  refine V_aload_n dX7_draw_0 rfl 0 rfl ?_
  refine V_aload_n dX7_draw_1 rfl 0 rfl ?_
  replace h := ob h
  obtain ⟨v1, e_v1, h⟩ := h
  refine V_getI zf_13_6 zl_X7_50 e_v1 dX7_draw_2 ?_
  refine V_pc (pc' := 5) rfl ?_
  refine V_if_eq (tgt := 12) dX7_draw_5 (by decide) (fun c2 => ?_) (fun c2 => ?_)
  · replace h := (oi h).1 c2
    refine V_iconst (v := 0) dX7_draw_12 (by decide) ?_
    exact s_X7_draw_13 hq h
  · replace h := (oi h).2 c2
    refine V_iconst (v := 1) dX7_draw_8 (by decide) ?_
    refine V_goto (tgt := 13) dX7_draw_9 (by decide) ?_
    exact s_X7_draw_13 hq h
def f_X7_draw (a0 : Nat) (M : zM) : Option (Int32 × zM) := f_X7_draw_0 a0 M
theorem c_X7_draw {L : zL} {l : Launch} {a0 : Nat} {M : zM} {r : Int32 × zM} (h : f_X7_draw a0 M = some r) : CP L l yX7_draw cX7_draw 1 (some FieldType.int) 71 M [.ref (zad L (a0))] (some (.int r.1)) r.2 :=
  CP.of ⟨by decide +kernel, by decide +kernel⟩ (Nat.le_of_ble_eq_true rfl) fun X Q hq => s_X7_draw_0 hq h
/-! java/lang/Number.<init>()V -/
theorem dJxd2413_init_da8c8_0 : decode cJxd2413_init_da8c8 0 = .ok (.aload_n 0, 1) := by decide +kernel
theorem dJxd2413_init_da8c8_1 : decode cJxd2413_init_da8c8 1 = .ok (.invokespecial 1, 3) := by decide +kernel
theorem dJxd2413_init_da8c8_4 : decode cJxd2413_init_da8c8 4 = .ok (.return_, 1) := by decide +kernel
def f_Jxd2413_init_da8c8_0 (a0 : Nat) (M : zM) : Option (Unit × zM) :=
  some ((), M)
set_option maxRecDepth 20000 in
set_option maxHeartbeats 4000000 in
theorem s_Jxd2413_init_da8c8_0 {L : zL} {X : zX} {M0 : zM} {N : Nat × Nat} {Q : State → Prop} {r : Unit × zM} (hq : vQ L X M0 N Q none r.2) {a0 : Nat} {M : zM} (h : f_Jxd2413_init_da8c8_0 a0 M = some r) : V L X yJxd2413_init_da8c8 cJxd2413_init_da8c8 1 (none : Option FieldType) 1 M0 N Q M 0 [(0, .ref (zad L (a0)))] [] := by
  unfold f_Jxd2413_init_da8c8_0 at h
  refine V_aload_n dJxd2413_init_da8c8_0 rfl 0 rfl ?_
  refine V_objInit zo_Jxd2413_1 (by decide) (Nat.le_of_ble_eq_true rfl) dJxd2413_init_da8c8_1 ?_
  obtain rfl := Option.some.inj h
  exact V_vret rfl hq dJxd2413_init_da8c8_4
def f_Jxd2413_init_da8c8 (a0 : Nat) (M : zM) : Option (Unit × zM) := f_Jxd2413_init_da8c8_0 a0 M
theorem c_Jxd2413_init_da8c8 {L : zL} {l : Launch} {a0 : Nat} {M : zM} {r : Unit × zM} (h : f_Jxd2413_init_da8c8 a0 M = some r) : CP L l yJxd2413_init_da8c8 cJxd2413_init_da8c8 1 (none : Option FieldType) 1 M [.ref (zad L (a0))] none r.2 :=
  CP.of ⟨by decide +kernel, by decide +kernel⟩ (Nat.le_of_ble_eq_true rfl) fun X Q hq => s_Jxd2413_init_da8c8_0 hq h
/-! java/lang/Integer.<init>(I)V -/
theorem dJ6_init_d00df_0 : decode cJ6_init_d00df 0 = .ok (.aload_n 0, 1) := by decide +kernel
theorem dJ6_init_d00df_1 : decode cJ6_init_d00df 1 = .ok (.invokespecial 202, 3) := by decide +kernel
theorem dJ6_init_d00df_4 : decode cJ6_init_d00df 4 = .ok (.aload_n 0, 1) := by decide +kernel
theorem dJ6_init_d00df_5 : decode cJ6_init_d00df 5 = .ok (.iload_n 1, 1) := by decide +kernel
theorem dJ6_init_d00df_6 : decode cJ6_init_d00df 6 = .ok (.putfield 205, 3) := by decide +kernel
theorem dJ6_init_d00df_9 : decode cJ6_init_d00df 9 = .ok (.return_, 1) := by decide +kernel
def f_J6_init_d00df_0 (a0 : Nat) (i1 : Int32) (M : zM) : Option (Unit × zM) :=
  (f_Jxd2413_init_da8c8 a0 M).bind fun r1 =>
  (pI 3 0 r1.2 a0 i1).bind fun M2 =>
  some ((), M2)
set_option maxRecDepth 20000 in
set_option maxHeartbeats 4000000 in
theorem s_J6_init_d00df_0 {L : zL} {X : zX} {M0 : zM} {N : Nat × Nat} {Q : State → Prop} {r : Unit × zM} (hq : vQ L X M0 N Q none r.2) {a0 : Nat} {i1 : Int32} {M : zM} (h : f_J6_init_d00df_0 a0 i1 M = some r) : V L X yJ6_init_d00df cJ6_init_d00df 2 (none : Option FieldType) 2 M0 N Q M 0 [(0, .ref (zad L (a0))), (1, .int (i1))] [] := by
  unfold f_J6_init_d00df_0 at h
  refine V_aload_n dJ6_init_d00df_0 rfl 0 rfl ?_
  replace h := ob h
  obtain ⟨r1, e_r1, h⟩ := h
  refine V_callI_V (As := []) (rest := []) (c_Jxd2413_init_da8c8 e_r1) zc_Jxd2413_init_da8c8 rfl (by decide) zm_J6_202 rfl (Nat.le_of_ble_eq_true rfl) rfl dJ6_init_d00df_1 ?_
  refine V_pc (pc' := 4) rfl ?_
  refine V_aload_n dJ6_init_d00df_4 rfl 0 rfl ?_
  refine V_iload_n dJ6_init_d00df_5 rfl 1 rfl ?_
  replace h := ob h
  obtain ⟨M2, e_M2, h⟩ := h
  refine V_putI zf_3_0 zl_J6_205 (Or.inr ⟨rfl, rfl, rfl⟩) rfl e_M2 dJ6_init_d00df_6 ?_
  refine V_pc (pc' := 9) rfl ?_
  obtain rfl := Option.some.inj h
  exact V_vret rfl hq dJ6_init_d00df_9
def f_J6_init_d00df (a0 : Nat) (i1 : Int32) (M : zM) : Option (Unit × zM) := f_J6_init_d00df_0 a0 i1 M
theorem c_J6_init_d00df {L : zL} {l : Launch} {a0 : Nat} {i1 : Int32} {M : zM} {r : Unit × zM} (h : f_J6_init_d00df a0 i1 M = some r) : CP L l yJ6_init_d00df cJ6_init_d00df 2 (none : Option FieldType) 2 M [.ref (zad L (a0)), .int (i1)] none r.2 :=
  CP.of ⟨by decide +kernel, by decide +kernel⟩ (Nat.le_of_ble_eq_true rfl) fun X Q hq => s_J6_init_d00df_0 hq h
/-! java/lang/Integer.valueOf(I)Ljava/lang/Integer; -/
theorem dJ6_valueOf_2dffe_0 : decode cJ6_valueOf_2dffe 0 = .ok (.iload_n 0, 1) := by decide +kernel
theorem dJ6_valueOf_2dffe_1 : decode cJ6_valueOf_2dffe 1 = .ok (.bipush (-128), 2) := by decide +kernel
theorem dJ6_valueOf_2dffe_3 : decode cJ6_valueOf_2dffe 3 = .ok (.if_icmp .lt 20, 3) := by decide +kernel
theorem dJ6_valueOf_2dffe_6 : decode cJ6_valueOf_2dffe 6 = .ok (.iload_n 0, 1) := by decide +kernel
theorem dJ6_valueOf_2dffe_7 : decode cJ6_valueOf_2dffe 7 = .ok (.getstatic 191, 3) := by decide +kernel
theorem dJ6_valueOf_2dffe_10 : decode cJ6_valueOf_2dffe 10 = .ok (.if_icmp .gt 13, 3) := by decide +kernel
theorem dJ6_valueOf_2dffe_13 : decode cJ6_valueOf_2dffe 13 = .ok (.getstatic 195, 3) := by decide +kernel
theorem dJ6_valueOf_2dffe_16 : decode cJ6_valueOf_2dffe 16 = .ok (.iload_n 0, 1) := by decide +kernel
theorem dJ6_valueOf_2dffe_17 : decode cJ6_valueOf_2dffe 17 = .ok (.sipush 128, 3) := by decide +kernel
theorem dJ6_valueOf_2dffe_20 : decode cJ6_valueOf_2dffe 20 = .ok (.iadd, 1) := by decide +kernel
theorem dJ6_valueOf_2dffe_21 : decode cJ6_valueOf_2dffe 21 = .ok (.aaload, 1) := by decide +kernel
theorem dJ6_valueOf_2dffe_22 : decode cJ6_valueOf_2dffe 22 = .ok (.areturn, 1) := by decide +kernel
theorem dJ6_valueOf_2dffe_23 : decode cJ6_valueOf_2dffe 23 = .ok (.new 1, 3) := by decide +kernel
theorem dJ6_valueOf_2dffe_26 : decode cJ6_valueOf_2dffe 26 = .ok (.dup, 1) := by decide +kernel
theorem dJ6_valueOf_2dffe_27 : decode cJ6_valueOf_2dffe 27 = .ok (.iload_n 0, 1) := by decide +kernel
theorem dJ6_valueOf_2dffe_28 : decode cJ6_valueOf_2dffe 28 = .ok (.invokespecial 199, 3) := by decide +kernel
theorem dJ6_valueOf_2dffe_31 : decode cJ6_valueOf_2dffe 31 = .ok (.areturn, 1) := by decide +kernel
def f_J6_valueOf_2dffe_23 (i0 : Int32) (M : zM) : Option (Nat × zM) :=
  (f_J6_init_d00df (mX M) i0 (nO M 3 1)).bind fun r1 =>
  some (mX M, r1.2)
set_option maxRecDepth 20000 in
set_option maxHeartbeats 4000000 in
theorem s_J6_valueOf_2dffe_23 {L : zL} {X : zX} {M0 : zM} {N : Nat × Nat} {Q : State → Prop} {r : Nat × zM} (hq : vQ L X M0 N Q (some (.ref (zad L r.1))) r.2) {i0 : Int32} {M : zM} (h : f_J6_valueOf_2dffe_23 i0 M = some r) : V L X yJ6_valueOf_2dffe cJ6_valueOf_2dffe 1 (Option.some (FieldType.object "java/lang/Integer")) 3 M0 N Q M 23 [(0, .int (i0))] [] := by
  unfold f_J6_valueOf_2dffe_23 at h
  refine V_new (by decide) rfl zin3 zty3 zdf3 zn_J6_1 dJ6_valueOf_2dffe_23 ?_
  refine V_dup dJ6_valueOf_2dffe_26 rfl ?_
  refine V_iload_n dJ6_valueOf_2dffe_27 rfl 0 rfl ?_
  replace h := ob h
  obtain ⟨r1, e_r1, h⟩ := h
  refine V_callI_V (As := [.int (i0)]) (rest := [.ref (zad L (mX M))]) (c_J6_init_d00df e_r1) zc_J6_init_d00df rfl (by decide) zm_J6_199 rfl (Nat.le_of_ble_eq_true rfl) rfl dJ6_valueOf_2dffe_28 ?_
  refine V_pc (pc' := 31) rfl ?_
  obtain rfl := Option.some.inj h
  exact V_aret rfl (by first | exact Or.inl ⟨_, rfl⟩ | exact Or.inr ⟨_, rfl⟩) hq dJ6_valueOf_2dffe_31
def f_J6_valueOf_2dffe_0 (i0 : Int32) (M : zM) : Option (Nat × zM) :=
  if i0 < ((-128 : Int32)) then
  f_J6_valueOf_2dffe_23 i0 M
  else
  if ((127 : Int32)) < i0 then
  f_J6_valueOf_2dffe_23 i0 M
  else
  (lQ 3 M 5 ((i0 + ((128 : Int32))))).bind fun v1 =>
  some (v1, M)
set_option maxRecDepth 20000 in
set_option maxHeartbeats 4000000 in
theorem s_J6_valueOf_2dffe_0 {L : zL} {X : zX} {M0 : zM} {N : Nat × Nat} {Q : State → Prop} {r : Nat × zM} (hq : vQ L X M0 N Q (some (.ref (zad L r.1))) r.2) {i0 : Int32} {M : zM} (h : f_J6_valueOf_2dffe_0 i0 M = some r) : V L X yJ6_valueOf_2dffe cJ6_valueOf_2dffe 1 (Option.some (FieldType.object "java/lang/Integer")) 3 M0 N Q M 0 [(0, .int (i0))] [] := by
  unfold f_J6_valueOf_2dffe_0 at h
  refine V_iload_n dJ6_valueOf_2dffe_0 rfl 0 rfl ?_
  refine V_bipush (v := -128) dJ6_valueOf_2dffe_1 (by decide) ?_
  refine V_icmp_lt (tgt := 23) dJ6_valueOf_2dffe_3 (by decide) (fun c3 => ?_) (fun c3 => ?_)
  · replace h := (oi h).1 c3
    exact s_J6_valueOf_2dffe_23 hq h
  · replace h := (oi h).2 c3
    refine V_iload_n dJ6_valueOf_2dffe_6 rfl 0 rfl ?_
    refine V_gets (zst_5 L) zg_J6_191 rfl dJ6_valueOf_2dffe_7 ?_
    refine V_icmp_gt (tgt := 23) dJ6_valueOf_2dffe_10 (by decide) (fun c2 => ?_) (fun c2 => ?_)
    · replace h := (oi h).1 c2
      exact s_J6_valueOf_2dffe_23 hq h
    · replace h := (oi h).2 c2
      refine V_gets (zst_4 L) zg_J6_195 rfl dJ6_valueOf_2dffe_13 ?_
      refine V_iload_n dJ6_valueOf_2dffe_16 rfl 0 rfl ?_
      refine V_sipush (v := 128) dJ6_valueOf_2dffe_17 (by decide) ?_
      refine V_iadd dJ6_valueOf_2dffe_20 ?_
      replace h := ob h
      obtain ⟨v1, e_v1, h⟩ := h
      refine V_aald (by decide) e_v1 dJ6_valueOf_2dffe_21 ?_
      refine V_pc (pc' := 22) rfl ?_
      obtain rfl := Option.some.inj h
      exact V_aret rfl (by first | exact Or.inl ⟨_, rfl⟩ | exact Or.inr ⟨_, rfl⟩) hq dJ6_valueOf_2dffe_22
def f_J6_valueOf_2dffe (i0 : Int32) (M : zM) : Option (Nat × zM) := f_J6_valueOf_2dffe_0 i0 M
theorem c_J6_valueOf_2dffe {L : zL} {l : Launch} {i0 : Int32} {M : zM} {r : Nat × zM} (h : f_J6_valueOf_2dffe i0 M = some r) : CP L l yJ6_valueOf_2dffe cJ6_valueOf_2dffe 1 (Option.some (FieldType.object "java/lang/Integer")) 3 M [.int (i0)] (some (.ref (zad L r.1))) r.2 :=
  CP.of ⟨by decide +kernel, by decide +kernel⟩ (Nat.le_of_ble_eq_true rfl) fun X Q hq => s_J6_valueOf_2dffe_0 hq h
/-! java/util/Arrays.copyOf([Ljava/lang/Object;ILjava/lang/Class;)[Ljava/lang/Object; -/
theorem dJ7_copyOf_6403c_0 : decode cJ7_copyOf_6403c 0 = .ok (.aload_n 2, 1) := by decide +kernel
theorem dJ7_copyOf_6403c_1 : decode cJ7_copyOf_6403c 1 = .ok (.ldc 110, 2) := by decide +kernel
theorem dJ7_copyOf_6403c_3 : decode cJ7_copyOf_6403c 3 = .ok (.if_acmp .ne 10, 3) := by decide +kernel
theorem dJ7_copyOf_6403c_6 : decode cJ7_copyOf_6403c 6 = .ok (.iload_n 1, 1) := by decide +kernel
theorem dJ7_copyOf_6403c_7 : decode cJ7_copyOf_6403c 7 = .ok (.anewarray 2, 3) := by decide +kernel
theorem dJ7_copyOf_6403c_10 : decode cJ7_copyOf_6403c 10 = .ok (.goto 14, 3) := by decide +kernel
theorem dJ7_copyOf_6403c_13 : decode cJ7_copyOf_6403c 13 = .ok (.aload_n 2, 1) := by decide +kernel
theorem dJ7_copyOf_6403c_14 : decode cJ7_copyOf_6403c 14 = .ok (.invokevirtual 90, 3) := by decide +kernel
theorem dJ7_copyOf_6403c_17 : decode cJ7_copyOf_6403c 17 = .ok (.iload_n 1, 1) := by decide +kernel
theorem dJ7_copyOf_6403c_18 : decode cJ7_copyOf_6403c 18 = .ok (.invokestatic 95, 3) := by decide +kernel
theorem dJ7_copyOf_6403c_21 : decode cJ7_copyOf_6403c 21 = .ok (.checkcast 110, 3) := by decide +kernel
theorem dJ7_copyOf_6403c_24 : decode cJ7_copyOf_6403c 24 = .ok (.astore_n 3, 1) := by decide +kernel
theorem dJ7_copyOf_6403c_25 : decode cJ7_copyOf_6403c 25 = .ok (.aload_n 0, 1) := by decide +kernel
theorem dJ7_copyOf_6403c_26 : decode cJ7_copyOf_6403c 26 = .ok (.iconst 0, 1) := by decide +kernel
theorem dJ7_copyOf_6403c_27 : decode cJ7_copyOf_6403c 27 = .ok (.aload_n 3, 1) := by decide +kernel
theorem dJ7_copyOf_6403c_28 : decode cJ7_copyOf_6403c 28 = .ok (.iconst 0, 1) := by decide +kernel
theorem dJ7_copyOf_6403c_29 : decode cJ7_copyOf_6403c 29 = .ok (.aload_n 0, 1) := by decide +kernel
theorem dJ7_copyOf_6403c_30 : decode cJ7_copyOf_6403c 30 = .ok (.arraylength, 1) := by decide +kernel
theorem dJ7_copyOf_6403c_31 : decode cJ7_copyOf_6403c 31 = .ok (.iload_n 1, 1) := by decide +kernel
theorem dJ7_copyOf_6403c_32 : decode cJ7_copyOf_6403c 32 = .ok (.invokestatic 304, 3) := by decide +kernel
theorem dJ7_copyOf_6403c_35 : decode cJ7_copyOf_6403c 35 = .ok (.invokestatic 150, 3) := by decide +kernel
theorem dJ7_copyOf_6403c_38 : decode cJ7_copyOf_6403c 38 = .ok (.aload_n 3, 1) := by decide +kernel
theorem dJ7_copyOf_6403c_39 : decode cJ7_copyOf_6403c 39 = .ok (.areturn, 1) := by decide +kernel
def f_J7_copyOf_6403c_24 (a0 : Nat) (i1 : Int32) (a_0 : Nat) (M : zM) : Option (Nat × zM) :=
  (gL M a0).bind fun v1 =>
  (f_J9_min_7cf53 v1 i1 M).bind fun r2 =>
  (yQ r2.2 a0 ((0 : Int32)) a_0 ((0 : Int32)) r2.1).bind fun M3 =>
  some (a_0, M3)
set_option maxRecDepth 20000 in
set_option maxHeartbeats 4000000 in
theorem s_J7_copyOf_6403c_24 {L : zL} {X : zX} {M0 : zM} {N : Nat × Nat} {Q : State → Prop} {r : Nat × zM} (hq : vQ L X M0 N Q (some (.ref (zad L r.1))) r.2) {a0 : Nat} {i1 : Int32} {a_0 : Nat} {M : zM} (h : f_J7_copyOf_6403c_24 a0 i1 a_0 M = some r) : V L X yJ7_copyOf_6403c cJ7_copyOf_6403c 4 (Option.some (FieldType.array (FieldType.object "java/lang/Object"))) 2 M0 N Q M 24 [(0, .ref (zad L (a0))), (1, .int (i1))] [.ref (zad L (a_0))] := by
  unfold f_J7_copyOf_6403c_24 at h
  refine V_astore_n (ls' := [(3, .ref (zad L (a_0))), (0, .ref (zad L (a0))), (1, .int (i1))]) dJ7_copyOf_6403c_24 rfl (by decide) rfl ?_
  refine V_aload_n dJ7_copyOf_6403c_25 rfl 1 rfl ?_
  refine V_iconst (v := 0) dJ7_copyOf_6403c_26 (by decide) ?_
  refine V_aload_n dJ7_copyOf_6403c_27 rfl 0 rfl ?_
  refine V_iconst (v := 0) dJ7_copyOf_6403c_28 (by decide) ?_
  refine V_aload_n dJ7_copyOf_6403c_29 rfl 1 rfl ?_
  replace h := ob h
  obtain ⟨v1, e_v1, h⟩ := h
  refine V_alen e_v1 dJ7_copyOf_6403c_30 ?_
  refine V_pc (pc' := 31) rfl ?_
  refine V_iload_n dJ7_copyOf_6403c_31 rfl 2 rfl ?_
  replace h := ob h
  obtain ⟨r2, e_r2, h⟩ := h
  refine V_callS_I (As := [.int (v1), .int (i1)]) (rest := [.int ((0 : Int32)), .ref (zad L (a_0)), .int ((0 : Int32)), .ref (zad L (a0))]) (c_J9_min_7cf53 e_r2) zc_J9_min_7cf53 rfl (by decide) zm_J7_304 (Nat.le_of_ble_eq_true rfl) rfl dJ7_copyOf_6403c_32 ?_
  refine V_pc (pc' := 35) rfl ?_
  replace h := ob h
  obtain ⟨M3, e_M3, h⟩ := h
  refine V_copyQ e_M3 zgo_11_0 zgo_3_0 zac_J7_150 (by decide) (Nat.le_of_ble_eq_true rfl) dJ7_copyOf_6403c_35 ?_
  refine V_aload_n dJ7_copyOf_6403c_38 rfl 0 rfl ?_
  obtain rfl := Option.some.inj h
  exact V_aret rfl (by first | exact Or.inl ⟨_, rfl⟩ | exact Or.inr ⟨_, rfl⟩) hq dJ7_copyOf_6403c_39
def f_J7_copyOf_6403c_0 (a0 : Nat) (i1 : Int32) (a2 : Nat) (M : zM) : Option (Nat × zM) :=
  if a2 = 8 ∨ ((1000 ≤ a2 ∨ 1000 ≤ 8) ∧ a2 ≠ 8 ∧ 8 ≠ 8) then
  if a2 = 8 then
  (aQ 0 M i1).bind fun r1 =>
  f_J7_copyOf_6403c_24 a0 i1 r1.1 r1.2
  else
  none
  else none
set_option maxRecDepth 20000 in
set_option maxHeartbeats 4000000 in
theorem s_J7_copyOf_6403c_0 {L : zL} {X : zX} {M0 : zM} {N : Nat × Nat} {Q : State → Prop} {r : Nat × zM} (hq : vQ L X M0 N Q (some (.ref (zad L r.1))) r.2) {a0 : Nat} {i1 : Int32} {a2 : Nat} {M : zM} (h : f_J7_copyOf_6403c_0 a0 i1 a2 M = some r) : V L X yJ7_copyOf_6403c cJ7_copyOf_6403c 4 (Option.some (FieldType.array (FieldType.object "java/lang/Object"))) 2 M0 N Q M 0 [(0, .ref (zad L (a0))), (1, .int (i1)), (2, .ref (zad L (a2)))] [] := by
  unfold f_J7_copyOf_6403c_0 at h
  refine V_aload_n dJ7_copyOf_6403c_0 rfl 2 rfl ?_
  refine V_ldcM zk_J7_110 dJ7_copyOf_6403c_1 ?_
  replace h := ox h
  obtain ⟨c3, h⟩ := h
  refine V_acmp_ne (tgt := 13) c3 dJ7_copyOf_6403c_3 (by decide) (fun c2 => ?_) (fun c2 => ?_)
  · replace h := (oi h).2 c2
    refine V_aload_n dJ7_copyOf_6403c_13 rfl 2 rfl ?_
    cases h
  · replace h := (oi h).1 c2
    refine V_iload_n dJ7_copyOf_6403c_6 rfl 1 rfl ?_
    replace h := ob h
    obtain ⟨r1, e_r1, h⟩ := h
    refine V_newq (t := 0) (by decide) zk_J7_2 e_r1 dJ7_copyOf_6403c_7 ?_
    refine V_pc (pc' := 10) rfl ?_
    refine V_goto (tgt := 24) dJ7_copyOf_6403c_10 (by decide) ?_
    refine V_sub [0, 1] rfl ?_
    exact s_J7_copyOf_6403c_24 hq h
def f_J7_copyOf_6403c (a0 : Nat) (i1 : Int32) (a2 : Nat) (M : zM) : Option (Nat × zM) := f_J7_copyOf_6403c_0 a0 i1 a2 M
theorem c_J7_copyOf_6403c {L : zL} {l : Launch} {a0 : Nat} {i1 : Int32} {a2 : Nat} {M : zM} {r : Nat × zM} (h : f_J7_copyOf_6403c a0 i1 a2 M = some r) : CP L l yJ7_copyOf_6403c cJ7_copyOf_6403c 4 (Option.some (FieldType.array (FieldType.object "java/lang/Object"))) 2 M [.ref (zad L (a0)), .int (i1), .ref (zad L (a2))] (some (.ref (zad L r.1))) r.2 :=
  CP.of ⟨by decide +kernel, by decide +kernel⟩ (Nat.le_of_ble_eq_true rfl) fun X Q hq => s_J7_copyOf_6403c_0 hq h
/-! java/util/Arrays.copyOf([Ljava/lang/Object;I)[Ljava/lang/Object; -/
theorem dJ7_copyOf_1904c_0 : decode cJ7_copyOf_1904c 0 = .ok (.aload_n 0, 1) := by decide +kernel
theorem dJ7_copyOf_1904c_1 : decode cJ7_copyOf_1904c 1 = .ok (.iload_n 1, 1) := by decide +kernel
theorem dJ7_copyOf_1904c_2 : decode cJ7_copyOf_1904c 2 = .ok (.aload_n 0, 1) := by decide +kernel
theorem dJ7_copyOf_1904c_3 : decode cJ7_copyOf_1904c 3 = .ok (.invokevirtual 86, 3) := by decide +kernel
theorem dJ7_copyOf_1904c_6 : decode cJ7_copyOf_1904c 6 = .ok (.invokestatic 300, 3) := by decide +kernel
theorem dJ7_copyOf_1904c_9 : decode cJ7_copyOf_1904c 9 = .ok (.areturn, 1) := by decide +kernel
def f_J7_copyOf_1904c_0 (a0 : Nat) (i1 : Int32) (M : zM) : Option (Nat × zM) :=
  if mK M a0 = 110 then
  (f_J7_copyOf_6403c a0 i1 8 M).bind fun r2 =>
  some (r2.1, r2.2)
  else none
set_option maxRecDepth 20000 in
set_option maxHeartbeats 4000000 in
theorem s_J7_copyOf_1904c_0 {L : zL} {X : zX} {M0 : zM} {N : Nat × Nat} {Q : State → Prop} {r : Nat × zM} (hq : vQ L X M0 N Q (some (.ref (zad L r.1))) r.2) {a0 : Nat} {i1 : Int32} {M : zM} (h : f_J7_copyOf_1904c_0 a0 i1 M = some r) : V L X yJ7_copyOf_1904c cJ7_copyOf_1904c 2 (Option.some (FieldType.array (FieldType.object "java/lang/Object"))) 3 M0 N Q M 0 [(0, .ref (zad L (a0))), (1, .int (i1))] [] := by
  unfold f_J7_copyOf_1904c_0 at h
  refine V_aload_n dJ7_copyOf_1904c_0 rfl 0 rfl ?_
  refine V_iload_n dJ7_copyOf_1904c_1 rfl 1 rfl ?_
  refine V_aload_n dJ7_copyOf_1904c_2 rfl 0 rfl ?_
  replace h := ox h
  obtain ⟨c1, h⟩ := h
  refine V_getC c1 zgcl_J7_86 (by decide) (Nat.le_of_ble_eq_true rfl) dJ7_copyOf_1904c_3 ?_
  replace h := ob h
  obtain ⟨r2, e_r2, h⟩ := h
  refine V_callS_A (As := [.ref (zad L (a0)), .int (i1), .ref (zad L (8))]) (rest := []) (c_J7_copyOf_6403c e_r2) zc_J7_copyOf_6403c rfl (by decide) zm_J7_300 (Nat.le_of_ble_eq_true rfl) rfl dJ7_copyOf_1904c_6 ?_
  refine V_pc (pc' := 9) rfl ?_
  obtain rfl := Option.some.inj h
  exact V_aret rfl (by first | exact Or.inl ⟨_, rfl⟩ | exact Or.inr ⟨_, rfl⟩) hq dJ7_copyOf_1904c_9
def f_J7_copyOf_1904c (a0 : Nat) (i1 : Int32) (M : zM) : Option (Nat × zM) := f_J7_copyOf_1904c_0 a0 i1 M
theorem c_J7_copyOf_1904c {L : zL} {l : Launch} {a0 : Nat} {i1 : Int32} {M : zM} {r : Nat × zM} (h : f_J7_copyOf_1904c a0 i1 M = some r) : CP L l yJ7_copyOf_1904c cJ7_copyOf_1904c 2 (Option.some (FieldType.array (FieldType.object "java/lang/Object"))) 3 M [.ref (zad L (a0)), .int (i1)] (some (.ref (zad L r.1))) r.2 :=
  CP.of ⟨by decide +kernel, by decide +kernel⟩ (Nat.le_of_ble_eq_true rfl) fun X Q hq => s_J7_copyOf_1904c_0 hq h
/-! java/util/ArrayList.grow(I)[Ljava/lang/Object; -/
theorem dJx4a65c_grow_92f84_0 : decode cJx4a65c_grow_92f84 0 = .ok (.aload_n 0, 1) := by decide +kernel
theorem dJx4a65c_grow_92f84_1 : decode cJx4a65c_grow_92f84 1 = .ok (.getfield 9, 3) := by decide +kernel
theorem dJx4a65c_grow_92f84_4 : decode cJx4a65c_grow_92f84 4 = .ok (.arraylength, 1) := by decide +kernel
theorem dJx4a65c_grow_92f84_5 : decode cJx4a65c_grow_92f84 5 = .ok (.istore_n 2, 1) := by decide +kernel
theorem dJx4a65c_grow_92f84_6 : decode cJx4a65c_grow_92f84 6 = .ok (.iload_n 2, 1) := by decide +kernel
theorem dJx4a65c_grow_92f84_7 : decode cJx4a65c_grow_92f84 7 = .ok (.ifCond .gt 13, 3) := by decide +kernel
theorem dJx4a65c_grow_92f84_10 : decode cJx4a65c_grow_92f84 10 = .ok (.aload_n 0, 1) := by decide +kernel
theorem dJx4a65c_grow_92f84_11 : decode cJx4a65c_grow_92f84 11 = .ok (.getfield 9, 3) := by decide +kernel
theorem dJx4a65c_grow_92f84_14 : decode cJx4a65c_grow_92f84 14 = .ok (.getstatic 39, 3) := by decide +kernel
theorem dJx4a65c_grow_92f84_17 : decode cJx4a65c_grow_92f84 17 = .ok (.if_acmp .eq 28, 3) := by decide +kernel
theorem dJx4a65c_grow_92f84_20 : decode cJx4a65c_grow_92f84 20 = .ok (.iload_n 2, 1) := by decide +kernel
theorem dJx4a65c_grow_92f84_21 : decode cJx4a65c_grow_92f84 21 = .ok (.iload_n 1, 1) := by decide +kernel
theorem dJx4a65c_grow_92f84_22 : decode cJx4a65c_grow_92f84 22 = .ok (.iload_n 2, 1) := by decide +kernel
theorem dJx4a65c_grow_92f84_23 : decode cJx4a65c_grow_92f84 23 = .ok (.isub, 1) := by decide +kernel
theorem dJx4a65c_grow_92f84_24 : decode cJx4a65c_grow_92f84 24 = .ok (.iload_n 2, 1) := by decide +kernel
theorem dJx4a65c_grow_92f84_25 : decode cJx4a65c_grow_92f84 25 = .ok (.iconst 1, 1) := by decide +kernel
theorem dJx4a65c_grow_92f84_26 : decode cJx4a65c_grow_92f84 26 = .ok (.ishr, 1) := by decide +kernel
theorem dJx4a65c_grow_92f84_27 : decode cJx4a65c_grow_92f84 27 = .ok (.invokestatic 73, 3) := by decide +kernel
theorem dJx4a65c_grow_92f84_30 : decode cJx4a65c_grow_92f84 30 = .ok (.istore_n 3, 1) := by decide +kernel
theorem dJx4a65c_grow_92f84_31 : decode cJx4a65c_grow_92f84 31 = .ok (.aload_n 0, 1) := by decide +kernel
theorem dJx4a65c_grow_92f84_32 : decode cJx4a65c_grow_92f84 32 = .ok (.aload_n 0, 1) := by decide +kernel
theorem dJx4a65c_grow_92f84_33 : decode cJx4a65c_grow_92f84 33 = .ok (.getfield 9, 3) := by decide +kernel
theorem dJx4a65c_grow_92f84_36 : decode cJx4a65c_grow_92f84 36 = .ok (.iload_n 3, 1) := by decide +kernel
theorem dJx4a65c_grow_92f84_37 : decode cJx4a65c_grow_92f84 37 = .ok (.invokestatic 66, 3) := by decide +kernel
theorem dJx4a65c_grow_92f84_40 : decode cJx4a65c_grow_92f84 40 = .ok (.dup_x1, 1) := by decide +kernel
theorem dJx4a65c_grow_92f84_41 : decode cJx4a65c_grow_92f84 41 = .ok (.putfield 9, 3) := by decide +kernel
theorem dJx4a65c_grow_92f84_44 : decode cJx4a65c_grow_92f84 44 = .ok (.areturn, 1) := by decide +kernel
theorem dJx4a65c_grow_92f84_45 : decode cJx4a65c_grow_92f84 45 = .ok (.aload_n 0, 1) := by decide +kernel
theorem dJx4a65c_grow_92f84_46 : decode cJx4a65c_grow_92f84 46 = .ok (.bipush 10, 2) := by decide +kernel
theorem dJx4a65c_grow_92f84_48 : decode cJx4a65c_grow_92f84 48 = .ok (.iload_n 1, 1) := by decide +kernel
theorem dJx4a65c_grow_92f84_49 : decode cJx4a65c_grow_92f84 49 = .ok (.invokestatic 79, 3) := by decide +kernel
theorem dJx4a65c_grow_92f84_52 : decode cJx4a65c_grow_92f84 52 = .ok (.anewarray 7, 3) := by decide +kernel
theorem dJx4a65c_grow_92f84_55 : decode cJx4a65c_grow_92f84 55 = .ok (.dup_x1, 1) := by decide +kernel
theorem dJx4a65c_grow_92f84_56 : decode cJx4a65c_grow_92f84 56 = .ok (.putfield 9, 3) := by decide +kernel
theorem dJx4a65c_grow_92f84_59 : decode cJx4a65c_grow_92f84 59 = .ok (.areturn, 1) := by decide +kernel
def f_Jx4a65c_grow_92f84_20 (a0 : Nat) (i1 : Int32) (i2 : Int32) (M : zM) : Option (Nat × zM) :=
  (f_J8_newLength_cabcc i2 ((i1 - i2)) ((i2 >>> (((1 : Int32)) &&& 31))) M).bind fun r1 =>
  (gR 5 1 r1.2 a0).bind fun v2 =>
  (f_J7_copyOf_1904c v2 r1.1 r1.2).bind fun r3 =>
  (pR 5 1 r3.2 a0 r3.1).bind fun M4 =>
  some (r3.1, M4)
set_option maxRecDepth 20000 in
set_option maxHeartbeats 4000000 in
theorem s_Jx4a65c_grow_92f84_20 {L : zL} {X : zX} {M0 : zM} {N : Nat × Nat} {Q : State → Prop} {r : Nat × zM} (hq : vQ L X M0 N Q (some (.ref (zad L r.1))) r.2) {a0 : Nat} {i1 : Int32} {i2 : Int32} {M : zM} (h : f_Jx4a65c_grow_92f84_20 a0 i1 i2 M = some r) : V L X yJx4a65c_grow_92f84 cJx4a65c_grow_92f84 4 (Option.some (FieldType.array (FieldType.object "java/lang/Object"))) 4 M0 N Q M 20 [(0, .ref (zad L (a0))), (1, .int (i1)), (2, .int (i2))] [] := by
  unfold f_Jx4a65c_grow_92f84_20 at h
  refine V_iload_n dJx4a65c_grow_92f84_20 rfl 2 rfl ?_
  refine V_iload_n dJx4a65c_grow_92f84_21 rfl 1 rfl ?_
  refine V_iload_n dJx4a65c_grow_92f84_22 rfl 2 rfl ?_
  refine V_isub dJx4a65c_grow_92f84_23 ?_
  refine V_iload_n dJx4a65c_grow_92f84_24 rfl 2 rfl ?_
  refine V_iconst (v := 1) dJx4a65c_grow_92f84_25 (by decide) ?_
  refine V_ishr dJx4a65c_grow_92f84_26 ?_
  replace h := ob h
  obtain ⟨r1, e_r1, h⟩ := h
  refine V_callS_I (As := [.int (i2), .int ((i1 - i2)), .int ((i2 >>> (((1 : Int32)) &&& 31)))]) (rest := []) (c_J8_newLength_cabcc e_r1) zc_J8_newLength_cabcc rfl (by decide) zm_Jx4a65c_73 (Nat.le_of_ble_eq_true rfl) rfl dJx4a65c_grow_92f84_27 ?_
  refine V_pc (pc' := 30) rfl ?_
  refine V_istore_n (ls' := [(3, .int (r1.1)), (0, .ref (zad L (a0))), (1, .int (i1)), (2, .int (i2))]) dJx4a65c_grow_92f84_30 rfl (by decide) rfl ?_
  refine V_aload_n dJx4a65c_grow_92f84_31 rfl 1 rfl ?_
  refine V_aload_n dJx4a65c_grow_92f84_32 rfl 1 rfl ?_
  replace h := ob h
  obtain ⟨v2, e_v2, h⟩ := h
  refine V_getR zf_5_1 zl_Jx4a65c_9 e_v2 dJx4a65c_grow_92f84_33 ?_
  refine V_pc (pc' := 36) rfl ?_
  refine V_iload_n dJx4a65c_grow_92f84_36 rfl 0 rfl ?_
  replace h := ob h
  obtain ⟨r3, e_r3, h⟩ := h
  refine V_callS_A (As := [.ref (zad L (v2)), .int (r1.1)]) (rest := [.ref (zad L (a0))]) (c_J7_copyOf_1904c e_r3) zc_J7_copyOf_1904c rfl (by decide) zm_Jx4a65c_66 (Nat.le_of_ble_eq_true rfl) rfl dJx4a65c_grow_92f84_37 ?_
  refine V_pc (pc' := 40) rfl ?_
  refine V_dup_x1 dJx4a65c_grow_92f84_40 rfl rfl ?_
  replace h := ob h
  obtain ⟨M4, e_M4, h⟩ := h
  refine V_putR zf_5_1 zl_Jx4a65c_9 (Or.inl rfl) rfl e_M4 dJx4a65c_grow_92f84_41 ?_
  refine V_pc (pc' := 44) rfl ?_
  obtain rfl := Option.some.inj h
  exact V_aret rfl (by first | exact Or.inl ⟨_, rfl⟩ | exact Or.inr ⟨_, rfl⟩) hq dJx4a65c_grow_92f84_44
def f_Jx4a65c_grow_92f84_0 (a0 : Nat) (i1 : Int32) (M : zM) : Option (Nat × zM) :=
  (gR 5 1 M a0).bind fun v1 =>
  (gL M v1).bind fun v2 =>
  if 0 < v2 then
  f_Jx4a65c_grow_92f84_20 a0 i1 v2 M
  else
  (gR 5 1 M a0).bind fun v3 =>
  if v3 = 4 ∨ ((1000 ≤ v3 ∨ 1000 ≤ 4) ∧ v3 ≠ 8 ∧ 4 ≠ 8) then
  if v3 = 4 then
  (f_J9_max_7cf53 ((10 : Int32)) i1 M).bind fun r4 =>
  (aQ 0 r4.2 r4.1).bind fun r5 =>
  (pR 5 1 r5.2 a0 r5.1).bind fun M6 =>
  some (r5.1, M6)
  else
  f_Jx4a65c_grow_92f84_20 a0 i1 v2 M
  else none
set_option maxRecDepth 20000 in
set_option maxHeartbeats 4000000 in
theorem s_Jx4a65c_grow_92f84_0 {L : zL} {X : zX} {M0 : zM} {N : Nat × Nat} {Q : State → Prop} {r : Nat × zM} (hq : vQ L X M0 N Q (some (.ref (zad L r.1))) r.2) {a0 : Nat} {i1 : Int32} {M : zM} (h : f_Jx4a65c_grow_92f84_0 a0 i1 M = some r) : V L X yJx4a65c_grow_92f84 cJx4a65c_grow_92f84 4 (Option.some (FieldType.array (FieldType.object "java/lang/Object"))) 4 M0 N Q M 0 [(0, .ref (zad L (a0))), (1, .int (i1))] [] := by
  unfold f_Jx4a65c_grow_92f84_0 at h
  refine V_aload_n dJx4a65c_grow_92f84_0 rfl 0 rfl ?_
  replace h := ob h
  obtain ⟨v1, e_v1, h⟩ := h
  refine V_getR zf_5_1 zl_Jx4a65c_9 e_v1 dJx4a65c_grow_92f84_1 ?_
  refine V_pc (pc' := 4) rfl ?_
  replace h := ob h
  obtain ⟨v2, e_v2, h⟩ := h
  refine V_alen e_v2 dJx4a65c_grow_92f84_4 ?_
  refine V_pc (pc' := 5) rfl ?_
  refine V_istore_n (ls' := [(2, .int (v2)), (0, .ref (zad L (a0))), (1, .int (i1))]) dJx4a65c_grow_92f84_5 rfl (by decide) rfl ?_
  refine V_iload_n dJx4a65c_grow_92f84_6 rfl 0 rfl ?_
  refine V_if_gt (tgt := 20) dJx4a65c_grow_92f84_7 (by decide) (fun c9 => ?_) (fun c9 => ?_)
  · replace h := (oi h).1 c9
    refine V_sub [1, 2, 0] rfl ?_
    exact s_Jx4a65c_grow_92f84_20 hq h
  · replace h := (oi h).2 c9
    refine V_aload_n dJx4a65c_grow_92f84_10 rfl 1 rfl ?_
    replace h := ob h
    obtain ⟨v3, e_v3, h⟩ := h
    refine V_getR zf_5_1 zl_Jx4a65c_9 e_v3 dJx4a65c_grow_92f84_11 ?_
    refine V_pc (pc' := 14) rfl ?_
    refine V_gets (zst_3 L) zg_Jx4a65c_39 rfl dJx4a65c_grow_92f84_14 ?_
    replace h := ox h
    obtain ⟨c8, h⟩ := h
    refine V_acmp_eq (tgt := 45) c8 dJx4a65c_grow_92f84_17 (by decide) (fun c7 => ?_) (fun c7 => ?_)
    · replace h := (oi h).1 c7
      refine V_aload_n dJx4a65c_grow_92f84_45 rfl 1 rfl ?_
      refine V_bipush (v := 10) dJx4a65c_grow_92f84_46 (by decide) ?_
      refine V_iload_n dJx4a65c_grow_92f84_48 rfl 2 rfl ?_
      replace h := ob h
      obtain ⟨r4, e_r4, h⟩ := h
      refine V_callS_I (As := [.int ((10 : Int32)), .int (i1)]) (rest := [.ref (zad L (a0))]) (c_J9_max_7cf53 e_r4) zc_J9_max_7cf53 rfl (by decide) zm_Jx4a65c_79 (Nat.le_of_ble_eq_true rfl) rfl dJx4a65c_grow_92f84_49 ?_
      refine V_pc (pc' := 52) rfl ?_
      replace h := ob h
      obtain ⟨r5, e_r5, h⟩ := h
      refine V_newq (t := 0) (by decide) zk_Jx4a65c_7 e_r5 dJx4a65c_grow_92f84_52 ?_
      refine V_pc (pc' := 55) rfl ?_
      refine V_dup_x1 dJx4a65c_grow_92f84_55 rfl rfl ?_
      replace h := ob h
      obtain ⟨M6, e_M6, h⟩ := h
      refine V_putR zf_5_1 zl_Jx4a65c_9 (Or.inl rfl) rfl e_M6 dJx4a65c_grow_92f84_56 ?_
      refine V_pc (pc' := 59) rfl ?_
      obtain rfl := Option.some.inj h
      exact V_aret rfl (by first | exact Or.inl ⟨_, rfl⟩ | exact Or.inr ⟨_, rfl⟩) hq dJx4a65c_grow_92f84_59
    · replace h := (oi h).2 c7
      refine V_sub [1, 2, 0] rfl ?_
      exact s_Jx4a65c_grow_92f84_20 hq h
def f_Jx4a65c_grow_92f84 (a0 : Nat) (i1 : Int32) (M : zM) : Option (Nat × zM) := f_Jx4a65c_grow_92f84_0 a0 i1 M
theorem c_Jx4a65c_grow_92f84 {L : zL} {l : Launch} {a0 : Nat} {i1 : Int32} {M : zM} {r : Nat × zM} (h : f_Jx4a65c_grow_92f84 a0 i1 M = some r) : CP L l yJx4a65c_grow_92f84 cJx4a65c_grow_92f84 4 (Option.some (FieldType.array (FieldType.object "java/lang/Object"))) 4 M [.ref (zad L (a0)), .int (i1)] (some (.ref (zad L r.1))) r.2 :=
  CP.of ⟨by decide +kernel, by decide +kernel⟩ (Nat.le_of_ble_eq_true rfl) fun X Q hq => s_Jx4a65c_grow_92f84_0 hq h
/-! java/util/ArrayList.grow()[Ljava/lang/Object; -/
theorem dJx4a65c_grow_d5877_0 : decode cJx4a65c_grow_d5877 0 = .ok (.aload_n 0, 1) := by decide +kernel
theorem dJx4a65c_grow_d5877_1 : decode cJx4a65c_grow_d5877 1 = .ok (.aload_n 0, 1) := by decide +kernel
theorem dJx4a65c_grow_d5877_2 : decode cJx4a65c_grow_d5877 2 = .ok (.getfield 48, 3) := by decide +kernel
theorem dJx4a65c_grow_d5877_5 : decode cJx4a65c_grow_d5877 5 = .ok (.iconst 1, 1) := by decide +kernel
theorem dJx4a65c_grow_d5877_6 : decode cJx4a65c_grow_d5877 6 = .ok (.iadd, 1) := by decide +kernel
theorem dJx4a65c_grow_d5877_7 : decode cJx4a65c_grow_d5877 7 = .ok (.invokevirtual 69, 3) := by decide +kernel
theorem dJx4a65c_grow_d5877_10 : decode cJx4a65c_grow_d5877 10 = .ok (.areturn, 1) := by decide +kernel
def f_Jx4a65c_grow_d5877_0 (a0 : Nat) (M : zM) : Option (Nat × zM) :=
  (gI 5 2 M a0).bind fun v1 =>
  if mK M a0 = 5 then
  (f_Jx4a65c_grow_92f84 a0 ((v1 + ((1 : Int32)))) M).bind fun r2 =>
  some (r2.1, r2.2)
  else none
set_option maxRecDepth 20000 in
set_option maxHeartbeats 4000000 in
theorem s_Jx4a65c_grow_d5877_0 {L : zL} {X : zX} {M0 : zM} {N : Nat × Nat} {Q : State → Prop} {r : Nat × zM} (hq : vQ L X M0 N Q (some (.ref (zad L r.1))) r.2) {a0 : Nat} {M : zM} (h : f_Jx4a65c_grow_d5877_0 a0 M = some r) : V L X yJx4a65c_grow_d5877 cJx4a65c_grow_d5877 1 (Option.some (FieldType.array (FieldType.object "java/lang/Object"))) 5 M0 N Q M 0 [(0, .ref (zad L (a0)))] [] := by
  unfold f_Jx4a65c_grow_d5877_0 at h
  refine V_aload_n dJx4a65c_grow_d5877_0 rfl 0 rfl ?_
  refine V_aload_n dJx4a65c_grow_d5877_1 rfl 0 rfl ?_
  replace h := ob h
  obtain ⟨v1, e_v1, h⟩ := h
  refine V_getI zf_5_2 zl_Jx4a65c_48 e_v1 dJx4a65c_grow_d5877_2 ?_
  refine V_pc (pc' := 5) rfl ?_
  refine V_iconst (v := 1) dJx4a65c_grow_d5877_5 (by decide) ?_
  refine V_iadd dJx4a65c_grow_d5877_6 ?_
  replace h := ox h
  obtain ⟨c3, h⟩ := h
  replace h := ob h
  obtain ⟨r2, e_r2, h⟩ := h
  refine V_callV_A (As := [.int ((v1 + ((1 : Int32))))]) (rest := []) (c_Jx4a65c_grow_92f84 e_r2) zc_Jx4a65c_grow_92f84 rfl (by decide) rfl (by decide) (Or.inl c3) zm_Jx4a65c_69 (Nat.le_of_ble_eq_true rfl) rfl dJx4a65c_grow_d5877_7 ?_
  refine V_pc (pc' := 10) rfl ?_
  obtain rfl := Option.some.inj h
  exact V_aret rfl (by first | exact Or.inl ⟨_, rfl⟩ | exact Or.inr ⟨_, rfl⟩) hq dJx4a65c_grow_d5877_10
def f_Jx4a65c_grow_d5877 (a0 : Nat) (M : zM) : Option (Nat × zM) := f_Jx4a65c_grow_d5877_0 a0 M
theorem c_Jx4a65c_grow_d5877 {L : zL} {l : Launch} {a0 : Nat} {M : zM} {r : Nat × zM} (h : f_Jx4a65c_grow_d5877 a0 M = some r) : CP L l yJx4a65c_grow_d5877 cJx4a65c_grow_d5877 1 (Option.some (FieldType.array (FieldType.object "java/lang/Object"))) 5 M [.ref (zad L (a0))] (some (.ref (zad L r.1))) r.2 :=
  CP.of ⟨by decide +kernel, by decide +kernel⟩ (Nat.le_of_ble_eq_true rfl) fun X Q hq => s_Jx4a65c_grow_d5877_0 hq h
/-! java/util/ArrayList.add(Ljava/lang/Object;[Ljava/lang/Object;I)V -/
theorem dJx4a65c_add_72be8_0 : decode cJx4a65c_add_72be8 0 = .ok (.iload_n 3, 1) := by decide +kernel
theorem dJx4a65c_add_72be8_1 : decode cJx4a65c_add_72be8 1 = .ok (.aload_n 2, 1) := by decide +kernel
theorem dJx4a65c_add_72be8_2 : decode cJx4a65c_add_72be8 2 = .ok (.arraylength, 1) := by decide +kernel
theorem dJx4a65c_add_72be8_3 : decode cJx4a65c_add_72be8 3 = .ok (.if_icmp .ne 8, 3) := by decide +kernel
theorem dJx4a65c_add_72be8_6 : decode cJx4a65c_add_72be8 6 = .ok (.aload_n 0, 1) := by decide +kernel
theorem dJx4a65c_add_72be8_7 : decode cJx4a65c_add_72be8 7 = .ok (.invokevirtual 129, 3) := by decide +kernel
theorem dJx4a65c_add_72be8_10 : decode cJx4a65c_add_72be8 10 = .ok (.astore_n 2, 1) := by decide +kernel
theorem dJx4a65c_add_72be8_11 : decode cJx4a65c_add_72be8 11 = .ok (.aload_n 2, 1) := by decide +kernel
theorem dJx4a65c_add_72be8_12 : decode cJx4a65c_add_72be8 12 = .ok (.iload_n 3, 1) := by decide +kernel
theorem dJx4a65c_add_72be8_13 : decode cJx4a65c_add_72be8 13 = .ok (.aload_n 1, 1) := by decide +kernel
theorem dJx4a65c_add_72be8_14 : decode cJx4a65c_add_72be8 14 = .ok (.aastore, 1) := by decide +kernel
theorem dJx4a65c_add_72be8_15 : decode cJx4a65c_add_72be8 15 = .ok (.aload_n 0, 1) := by decide +kernel
theorem dJx4a65c_add_72be8_16 : decode cJx4a65c_add_72be8 16 = .ok (.iload_n 3, 1) := by decide +kernel
theorem dJx4a65c_add_72be8_17 : decode cJx4a65c_add_72be8 17 = .ok (.iconst 1, 1) := by decide +kernel
theorem dJx4a65c_add_72be8_18 : decode cJx4a65c_add_72be8 18 = .ok (.iadd, 1) := by decide +kernel
theorem dJx4a65c_add_72be8_19 : decode cJx4a65c_add_72be8 19 = .ok (.putfield 48, 3) := by decide +kernel
theorem dJx4a65c_add_72be8_22 : decode cJx4a65c_add_72be8 22 = .ok (.return_, 1) := by decide +kernel
def f_Jx4a65c_add_72be8_11 (a0 : Nat) (a1 : Nat) (a2 : Nat) (i3 : Int32) (M : zM) : Option (Unit × zM) :=
  if mK M a1 = 11 ∨ mK M a1 = 303 then
  (tQ 0 M a2 i3 (some a1)).bind fun M1 =>
  (pI 5 2 M1 a0 ((i3 + ((1 : Int32))))).bind fun M2 =>
  some ((), M2)
  else none
set_option maxRecDepth 20000 in
set_option maxHeartbeats 4000000 in
theorem s_Jx4a65c_add_72be8_11 {L : zL} {X : zX} {M0 : zM} {N : Nat × Nat} {Q : State → Prop} {r : Unit × zM} (hq : vQ L X M0 N Q none r.2) {a0 : Nat} {a1 : Nat} {a2 : Nat} {i3 : Int32} {M : zM} (h : f_Jx4a65c_add_72be8_11 a0 a1 a2 i3 M = some r) : V L X yJx4a65c_add_72be8 cJx4a65c_add_72be8 4 (none : Option FieldType) 6 M0 N Q M 11 [(0, .ref (zad L (a0))), (1, .ref (zad L (a1))), (2, .ref (zad L (a2))), (3, .int (i3))] [] := by
  unfold f_Jx4a65c_add_72be8_11 at h
  refine V_aload_n dJx4a65c_add_72be8_11 rfl 2 rfl ?_
  refine V_iload_n dJx4a65c_add_72be8_12 rfl 3 rfl ?_
  refine V_aload_n dJx4a65c_add_72be8_13 rfl 1 rfl ?_
  replace h := ox h
  obtain ⟨c3, h⟩ := h
  replace h := ob h
  obtain ⟨M1, e_M1, h⟩ := h
  refine (show V _ _ _ _ _ _ _ _ _ _ _ _ _ _ from ?_)
  rcases c3 with c3 | c3
  · refine V_aast (by decide) zgo_11_0 (Or.inl c3) e_M1 dJx4a65c_add_72be8_14 ?_
    refine V_aload_n dJx4a65c_add_72be8_15 rfl 0 rfl ?_
    refine V_iload_n dJx4a65c_add_72be8_16 rfl 3 rfl ?_
    refine V_iconst (v := 1) dJx4a65c_add_72be8_17 (by decide) ?_
    refine V_iadd dJx4a65c_add_72be8_18 ?_
    replace h := ob h
    obtain ⟨M2, e_M2, h⟩ := h
    refine V_putI zf_5_2 zl_Jx4a65c_48 (Or.inl rfl) rfl e_M2 dJx4a65c_add_72be8_19 ?_
    refine V_pc (pc' := 22) rfl ?_
    obtain rfl := Option.some.inj h
    exact V_vret rfl hq dJx4a65c_add_72be8_22
  · refine V_aast (by decide) zgo_3_0 (Or.inr c3) e_M1 dJx4a65c_add_72be8_14 ?_
    refine V_aload_n dJx4a65c_add_72be8_15 rfl 0 rfl ?_
    refine V_iload_n dJx4a65c_add_72be8_16 rfl 3 rfl ?_
    refine V_iconst (v := 1) dJx4a65c_add_72be8_17 (by decide) ?_
    refine V_iadd dJx4a65c_add_72be8_18 ?_
    replace h := ob h
    obtain ⟨M2, e_M2, h⟩ := h
    refine V_putI zf_5_2 zl_Jx4a65c_48 (Or.inl rfl) rfl e_M2 dJx4a65c_add_72be8_19 ?_
    refine V_pc (pc' := 22) rfl ?_
    obtain rfl := Option.some.inj h
    exact V_vret rfl hq dJx4a65c_add_72be8_22
def f_Jx4a65c_add_72be8_0 (a0 : Nat) (a1 : Nat) (a2 : Nat) (i3 : Int32) (M : zM) : Option (Unit × zM) :=
  (gL M a2).bind fun v1 =>
  if i3 = v1 then
  if mK M a0 = 5 then
  (f_Jx4a65c_grow_d5877 a0 M).bind fun r2 =>
  f_Jx4a65c_add_72be8_11 a0 a1 r2.1 i3 r2.2
  else none
  else
  f_Jx4a65c_add_72be8_11 a0 a1 a2 i3 M
set_option maxRecDepth 20000 in
set_option maxHeartbeats 4000000 in
theorem s_Jx4a65c_add_72be8_0 {L : zL} {X : zX} {M0 : zM} {N : Nat × Nat} {Q : State → Prop} {r : Unit × zM} (hq : vQ L X M0 N Q none r.2) {a0 : Nat} {a1 : Nat} {a2 : Nat} {i3 : Int32} {M : zM} (h : f_Jx4a65c_add_72be8_0 a0 a1 a2 i3 M = some r) : V L X yJx4a65c_add_72be8 cJx4a65c_add_72be8 4 (none : Option FieldType) 6 M0 N Q M 0 [(0, .ref (zad L (a0))), (1, .ref (zad L (a1))), (2, .ref (zad L (a2))), (3, .int (i3))] [] := by
  unfold f_Jx4a65c_add_72be8_0 at h
  refine V_iload_n dJx4a65c_add_72be8_0 rfl 3 rfl ?_
  refine V_aload_n dJx4a65c_add_72be8_1 rfl 2 rfl ?_
  replace h := ob h
  obtain ⟨v1, e_v1, h⟩ := h
  refine V_alen e_v1 dJx4a65c_add_72be8_2 ?_
  refine V_pc (pc' := 3) rfl ?_
  refine V_icmp_ne (tgt := 11) dJx4a65c_add_72be8_3 (by decide) (fun c4 => ?_) (fun c4 => ?_)
  · replace h := (oi h).2 c4
    exact s_Jx4a65c_add_72be8_11 hq h
  · replace h := (oi h).1 c4
    refine V_aload_n dJx4a65c_add_72be8_6 rfl 0 rfl ?_
    replace h := ox h
    obtain ⟨c3, h⟩ := h
    replace h := ob h
    obtain ⟨r2, e_r2, h⟩ := h
    refine V_callV_A (As := []) (rest := []) (c_Jx4a65c_grow_d5877 e_r2) zc_Jx4a65c_grow_d5877 rfl (by decide) rfl (by decide) (Or.inl c3) zm_Jx4a65c_129 (Nat.le_of_ble_eq_true rfl) rfl dJx4a65c_add_72be8_7 ?_
    refine V_pc (pc' := 10) rfl ?_
    refine V_astore_n (ls' := [(2, .ref (zad L (r2.1))), (0, .ref (zad L (a0))), (1, .ref (zad L (a1))), (3, .int (i3))]) dJx4a65c_add_72be8_10 rfl (by decide) rfl ?_
    refine V_sub [1, 2, 0, 3] rfl ?_
    exact s_Jx4a65c_add_72be8_11 hq h
def f_Jx4a65c_add_72be8 (a0 : Nat) (a1 : Nat) (a2 : Nat) (i3 : Int32) (M : zM) : Option (Unit × zM) := f_Jx4a65c_add_72be8_0 a0 a1 a2 i3 M
theorem c_Jx4a65c_add_72be8 {L : zL} {l : Launch} {a0 : Nat} {a1 : Nat} {a2 : Nat} {i3 : Int32} {M : zM} {r : Unit × zM} (h : f_Jx4a65c_add_72be8 a0 a1 a2 i3 M = some r) : CP L l yJx4a65c_add_72be8 cJx4a65c_add_72be8 4 (none : Option FieldType) 6 M [.ref (zad L (a0)), .ref (zad L (a1)), .ref (zad L (a2)), .int (i3)] none r.2 :=
  CP.of ⟨by decide +kernel, by decide +kernel⟩ (Nat.le_of_ble_eq_true rfl) fun X Q hq => s_Jx4a65c_add_72be8_0 hq h
/-! java/util/ArrayList.add(Ljava/lang/Object;)Z -/
theorem dJx4a65c_add_9ea2d_0 : decode cJx4a65c_add_9ea2d 0 = .ok (.aload_n 0, 1) := by decide +kernel
theorem dJx4a65c_add_9ea2d_1 : decode cJx4a65c_add_9ea2d 1 = .ok (.dup, 1) := by decide +kernel
theorem dJx4a65c_add_9ea2d_2 : decode cJx4a65c_add_9ea2d 2 = .ok (.getfield 63, 3) := by decide +kernel
theorem dJx4a65c_add_9ea2d_5 : decode cJx4a65c_add_9ea2d 5 = .ok (.iconst 1, 1) := by decide +kernel
theorem dJx4a65c_add_9ea2d_6 : decode cJx4a65c_add_9ea2d 6 = .ok (.iadd, 1) := by decide +kernel
theorem dJx4a65c_add_9ea2d_7 : decode cJx4a65c_add_9ea2d 7 = .ok (.putfield 63, 3) := by decide +kernel
theorem dJx4a65c_add_9ea2d_10 : decode cJx4a65c_add_9ea2d 10 = .ok (.aload_n 0, 1) := by decide +kernel
theorem dJx4a65c_add_9ea2d_11 : decode cJx4a65c_add_9ea2d 11 = .ok (.aload_n 1, 1) := by decide +kernel
theorem dJx4a65c_add_9ea2d_12 : decode cJx4a65c_add_9ea2d 12 = .ok (.aload_n 0, 1) := by decide +kernel
theorem dJx4a65c_add_9ea2d_13 : decode cJx4a65c_add_9ea2d 13 = .ok (.getfield 9, 3) := by decide +kernel
theorem dJx4a65c_add_9ea2d_16 : decode cJx4a65c_add_9ea2d 16 = .ok (.aload_n 0, 1) := by decide +kernel
theorem dJx4a65c_add_9ea2d_17 : decode cJx4a65c_add_9ea2d 17 = .ok (.getfield 48, 3) := by decide +kernel
theorem dJx4a65c_add_9ea2d_20 : decode cJx4a65c_add_9ea2d 20 = .ok (.invokevirtual 131, 3) := by decide +kernel
theorem dJx4a65c_add_9ea2d_23 : decode cJx4a65c_add_9ea2d 23 = .ok (.iconst 1, 1) := by decide +kernel
theorem dJx4a65c_add_9ea2d_24 : decode cJx4a65c_add_9ea2d 24 = .ok (.ireturn, 1) := by decide +kernel
def f_Jx4a65c_add_9ea2d_0 (a0 : Nat) (a1 : Nat) (M : zM) : Option (Int32 × zM) :=
  (gI 5 0 M a0).bind fun v1 =>
  (pI 5 0 M a0 ((v1 + ((1 : Int32))))).bind fun M2 =>
  (gR 5 1 M2 a0).bind fun v3 =>
  (gI 5 2 M2 a0).bind fun v4 =>
  if mK M2 a0 = 5 then
  (f_Jx4a65c_add_72be8 a0 a1 v3 v4 M2).bind fun r5 =>
  some ((1 : Int32), r5.2)
  else none
set_option maxRecDepth 20000 in
set_option maxHeartbeats 4000000 in
theorem s_Jx4a65c_add_9ea2d_0 {L : zL} {X : zX} {M0 : zM} {N : Nat × Nat} {Q : State → Prop} {r : Int32 × zM} (hq : vQ L X M0 N Q (some (.int r.1)) r.2) {a0 : Nat} {a1 : Nat} {M : zM} (h : f_Jx4a65c_add_9ea2d_0 a0 a1 M = some r) : V L X yJx4a65c_add_9ea2d cJx4a65c_add_9ea2d 2 (some FieldType.boolean) 7 M0 N Q M 0 [(0, .ref (zad L (a0))), (1, .ref (zad L (a1)))] [] := by
  unfold f_Jx4a65c_add_9ea2d_0 at h
  refine V_aload_n dJx4a65c_add_9ea2d_0 rfl 0 rfl ?_
  refine V_dup dJx4a65c_add_9ea2d_1 rfl ?_
  replace h := ob h
  obtain ⟨v1, e_v1, h⟩ := h
  refine V_getI zf_5_0 zl_Jx4a65c_63 e_v1 dJx4a65c_add_9ea2d_2 ?_
  refine V_pc (pc' := 5) rfl ?_
  refine V_iconst (v := 1) dJx4a65c_add_9ea2d_5 (by decide) ?_
  refine V_iadd dJx4a65c_add_9ea2d_6 ?_
  replace h := ob h
  obtain ⟨M2, e_M2, h⟩ := h
  refine V_putI zf_5_0 zl_Jx4a65c_63 (Or.inl rfl) rfl e_M2 dJx4a65c_add_9ea2d_7 ?_
  refine V_pc (pc' := 10) rfl ?_
  refine V_aload_n dJx4a65c_add_9ea2d_10 rfl 0 rfl ?_
  refine V_aload_n dJx4a65c_add_9ea2d_11 rfl 1 rfl ?_
  refine V_aload_n dJx4a65c_add_9ea2d_12 rfl 0 rfl ?_
  replace h := ob h
  obtain ⟨v3, e_v3, h⟩ := h
  refine V_getR zf_5_1 zl_Jx4a65c_9 e_v3 dJx4a65c_add_9ea2d_13 ?_
  refine V_pc (pc' := 16) rfl ?_
  refine V_aload_n dJx4a65c_add_9ea2d_16 rfl 0 rfl ?_
  replace h := ob h
  obtain ⟨v4, e_v4, h⟩ := h
  refine V_getI zf_5_2 zl_Jx4a65c_48 e_v4 dJx4a65c_add_9ea2d_17 ?_
  refine V_pc (pc' := 20) rfl ?_
  replace h := ox h
  obtain ⟨c6, h⟩ := h
  replace h := ob h
  obtain ⟨r5, e_r5, h⟩ := h
  refine V_callV_V (As := [.ref (zad L (a1)), .ref (zad L (v3)), .int (v4)]) (rest := []) (c_Jx4a65c_add_72be8 e_r5) zc_Jx4a65c_add_72be8 rfl (by decide) rfl (by decide) (Or.inl c6) zm_Jx4a65c_131 (Nat.le_of_ble_eq_true rfl) rfl dJx4a65c_add_9ea2d_20 ?_
  refine V_pc (pc' := 23) rfl ?_
  refine V_iconst (v := 1) dJx4a65c_add_9ea2d_23 (by decide) ?_
  obtain rfl := Option.some.inj h
  exact V_zret (ty := .boolean) rfl rfl hq dJx4a65c_add_9ea2d_24
def f_Jx4a65c_add_9ea2d (a0 : Nat) (a1 : Nat) (M : zM) : Option (Int32 × zM) := f_Jx4a65c_add_9ea2d_0 a0 a1 M
theorem c_Jx4a65c_add_9ea2d {L : zL} {l : Launch} {a0 : Nat} {a1 : Nat} {M : zM} {r : Int32 × zM} (h : f_Jx4a65c_add_9ea2d a0 a1 M = some r) : CP L l yJx4a65c_add_9ea2d cJx4a65c_add_9ea2d 2 (some FieldType.boolean) 7 M [.ref (zad L (a0)), .ref (zad L (a1))] (some (.int r.1)) r.2 :=
  CP.of ⟨by decide +kernel, by decide +kernel⟩ (Nat.le_of_ble_eq_true rfl) fun X Q hq => s_Jx4a65c_add_9ea2d_0 hq h
/-! WindsparlourModel.away(I)I -/
theorem dX7_away_0 : decode cX7_away 0 = .ok (.aload_n 0, 1) := by decide +kernel
theorem dX7_away_1 : decode cX7_away 1 = .ok (.invokevirtual 104, 3) := by decide +kernel
theorem dX7_away_4 : decode cX7_away 4 = .ok (.astore_n 2, 1) := by decide +kernel
theorem dX7_away_5 : decode cX7_away 5 = .ok (.aload_n 2, 1) := by decide +kernel
theorem dX7_away_6 : decode cX7_away 6 = .ok (.getfield 94, 3) := by decide +kernel
theorem dX7_away_9 : decode cX7_away 9 = .ok (.iload_n 1, 1) := by decide +kernel
theorem dX7_away_10 : decode cX7_away 10 = .ok (.dup2, 1) := by decide +kernel
theorem dX7_away_11 : decode cX7_away 11 = .ok (.iaload, 1) := by decide +kernel
theorem dX7_away_12 : decode cX7_away 12 = .ok (.iconst 1, 1) := by decide +kernel
theorem dX7_away_13 : decode cX7_away 13 = .ok (.isub, 1) := by decide +kernel
theorem dX7_away_14 : decode cX7_away 14 = .ok (.iastore, 1) := by decide +kernel
theorem dX7_away_15 : decode cX7_away 15 = .ok (.aload_n 2, 1) := by decide +kernel
theorem dX7_away_16 : decode cX7_away 16 = .ok (.getfield 124, 3) := by decide +kernel
theorem dX7_away_19 : decode cX7_away 19 = .ok (.iload_n 1, 1) := by decide +kernel
theorem dX7_away_20 : decode cX7_away 20 = .ok (.invokestatic 128, 3) := by decide +kernel
theorem dX7_away_23 : decode cX7_away 23 = .ok (.invokevirtual 134, 3) := by decide +kernel
theorem dX7_away_26 : decode cX7_away 26 = .ok (.pop, 1) := by decide +kernel
theorem dX7_away_27 : decode cX7_away 27 = .ok (.aload_n 2, 1) := by decide +kernel
theorem dX7_away_28 : decode cX7_away 28 = .ok (.dup, 1) := by decide +kernel
theorem dX7_away_29 : decode cX7_away 29 = .ok (.getfield 140, 3) := by decide +kernel
theorem dX7_away_32 : decode cX7_away 32 = .ok (.lconst 1, 1) := by decide +kernel
theorem dX7_away_33 : decode cX7_away 33 = .ok (.iload_n 1, 1) := by decide +kernel
theorem dX7_away_34 : decode cX7_away 34 = .ok (.lshl, 1) := by decide +kernel
theorem dX7_away_35 : decode cX7_away 35 = .ok (.lor, 1) := by decide +kernel
theorem dX7_away_36 : decode cX7_away 36 = .ok (.putfield 140, 3) := by decide +kernel
theorem dX7_away_39 : decode cX7_away 39 = .ok (.aload_n 0, 1) := by decide +kernel
theorem dX7_away_40 : decode cX7_away 40 = .ok (.iload_n 1, 1) := by decide +kernel
theorem dX7_away_41 : decode cX7_away 41 = .ok (.putfield 62, 3) := by decide +kernel
theorem dX7_away_44 : decode cX7_away 44 = .ok (.aload_n 0, 1) := by decide +kernel
theorem dX7_away_45 : decode cX7_away 45 = .ok (.iconst 2, 1) := by decide +kernel
theorem dX7_away_46 : decode cX7_away 46 = .ok (.putfield 50, 3) := by decide +kernel
theorem dX7_away_49 : decode cX7_away 49 = .ok (.aload_n 2, 1) := by decide +kernel
theorem dX7_away_50 : decode cX7_away 50 = .ok (.getfield 124, 3) := by decide +kernel
theorem dX7_away_53 : decode cX7_away 53 = .ok (.invokevirtual 144, 3) := by decide +kernel
theorem dX7_away_56 : decode cX7_away 56 = .ok (.ireturn, 1) := by decide +kernel
def f_X7_away_0 (a0 : Nat) (i1 : Int32) (M : zM) : Option (Int32 × zM) :=
  if mK M a0 = 13 then
  (f_X7_its a0 M).bind fun r1 =>
  (gR 12 2 r1.2 r1.1).bind fun v3 =>
  (lA 0 r1.2 v3 i1).bind fun v4 =>
  (tA r1.2 v3 i1 ((v4 - ((1 : Int32))))).bind fun M5 =>
  (gR 12 4 M5 r1.1).bind fun v6 =>
  (f_J6_valueOf_2dffe i1 M5).bind fun r7 =>
  if mK r7.2 v6 = 5 then
  (f_Jx4a65c_add_9ea2d v6 r7.1 r7.2).bind fun r8 =>
  (gJ 12 5 r8.2 r1.1).bind fun v10 =>
  (pJ 12 5 r8.2 r1.1 ((v10 ||| ((((1 : Int64)) <<< (i1.toInt64 &&& 63)))))).bind fun M11 =>
  (pI 13 14 M11 a0 i1).bind fun M12 =>
  (pI 13 6 M12 a0 ((2 : Int32))).bind fun M13 =>
  (gR 12 4 M13 r1.1).bind fun v14 =>
  if mK M13 v14 = 5 then
  (f_Jx4a65c_size_8abf5 v14 M13).bind fun r15 =>
  some (r15.1, r15.2)
  else none
  else none
  else none
set_option maxRecDepth 20000 in
set_option maxHeartbeats 4000000 in
theorem s_X7_away_0 {L : zL} {X : zX} {M0 : zM} {N : Nat × Nat} {Q : State → Prop} {r : Int32 × zM} (hq : vQ L X M0 N Q (some (.int r.1)) r.2) {a0 : Nat} {i1 : Int32} {M : zM} (h : f_X7_away_0 a0 i1 M = some r) : V L X yX7_away cX7_away 3 (some FieldType.int) 8 M0 N Q M 0 [(0, .ref (zad L (a0))), (1, .int (i1))] [] := by
  unfold f_X7_away_0 at h
  refine V_aload_n dX7_away_0 rfl 0 rfl ?_
  replace h := ox h
  obtain ⟨c2, h⟩ := h
  replace h := ob h
  obtain ⟨r1, e_r1, h⟩ := h
  refine V_callV_A (As := []) (rest := []) (c_X7_its e_r1) zc_X7_its rfl (by decide) rfl (by decide) (Or.inl c2) zm_X7_104 (Nat.le_of_ble_eq_true rfl) rfl dX7_away_1 ?_
  refine V_pc (pc' := 4) rfl ?_
  refine V_astore_n (ls' := [(2, .ref (zad L (r1.1))), (0, .ref (zad L (a0))), (1, .int (i1))]) dX7_away_4 rfl (by decide) rfl ?_
  refine V_aload_n dX7_away_5 rfl 0 rfl ?_
  replace h := ob h
  obtain ⟨v3, e_v3, h⟩ := h
  refine V_getR zf_12_2 zl_X7_94 e_v3 dX7_away_6 ?_
  refine V_pc (pc' := 9) rfl ?_
  refine V_iload_n dX7_away_9 rfl 2 rfl ?_
  refine V_dup2 dX7_away_10 rfl rfl ?_
  replace h := ob h
  obtain ⟨v4, e_v4, h⟩ := h
  refine V_iald e_v4 dX7_away_11 ?_
  refine V_pc (pc' := 12) rfl ?_
  refine V_iconst (v := 1) dX7_away_12 (by decide) ?_
  refine V_isub dX7_away_13 ?_
  replace h := ob h
  obtain ⟨M5, e_M5, h⟩ := h
  refine V_iast e_M5 dX7_away_14 ?_
  refine V_aload_n dX7_away_15 rfl 0 rfl ?_
  replace h := ob h
  obtain ⟨v6, e_v6, h⟩ := h
  refine V_getR zf_12_4 zl_X7_124 e_v6 dX7_away_16 ?_
  refine V_pc (pc' := 19) rfl ?_
  refine V_iload_n dX7_away_19 rfl 2 rfl ?_
  replace h := ob h
  obtain ⟨r7, e_r7, h⟩ := h
  refine V_callS_A (As := [.int (i1)]) (rest := [.ref (zad L (v6))]) (c_J6_valueOf_2dffe e_r7) zc_J6_valueOf_2dffe rfl (by decide) zm_X7_128 (Nat.le_of_ble_eq_true rfl) rfl dX7_away_20 ?_
  refine V_pc (pc' := 23) rfl ?_
  replace h := ox h
  obtain ⟨c9, h⟩ := h
  replace h := ob h
  obtain ⟨r8, e_r8, h⟩ := h
  refine V_callV_I (As := [.ref (zad L (r7.1))]) (rest := []) (c_Jx4a65c_add_9ea2d e_r8) zc_Jx4a65c_add_9ea2d rfl (by decide) rfl (by decide) (Or.inl c9) zm_X7_134 (Nat.le_of_ble_eq_true rfl) rfl dX7_away_23 ?_
  refine V_pc (pc' := 26) rfl ?_
  refine V_pop dX7_away_26 rfl ?_
  refine V_aload_n dX7_away_27 rfl 0 rfl ?_
  refine V_dup dX7_away_28 rfl ?_
  replace h := ob h
  obtain ⟨v10, e_v10, h⟩ := h
  refine V_getJ zf_12_5 zl_X7_140 e_v10 dX7_away_29 ?_
  refine V_pc (pc' := 32) rfl ?_
  refine V_lconst (v := 1) dX7_away_32 (by decide) ?_
  refine V_iload_n dX7_away_33 rfl 2 rfl ?_
  refine V_lshl dX7_away_34 ?_
  refine V_lor dX7_away_35 ?_
  replace h := ob h
  obtain ⟨M11, e_M11, h⟩ := h
  refine V_putJ zf_12_5 zl_X7_140 (Or.inl rfl) rfl e_M11 dX7_away_36 ?_
  refine V_pc (pc' := 39) rfl ?_
  refine V_aload_n dX7_away_39 rfl 1 rfl ?_
  refine V_iload_n dX7_away_40 rfl 2 rfl ?_
  replace h := ob h
  obtain ⟨M12, e_M12, h⟩ := h
  refine V_putI zf_13_14 zl_X7_62 (Or.inl rfl) rfl e_M12 dX7_away_41 ?_
  refine V_pc (pc' := 44) rfl ?_
  refine V_aload_n dX7_away_44 rfl 1 rfl ?_
  refine V_iconst (v := 2) dX7_away_45 (by decide) ?_
  replace h := ob h
  obtain ⟨M13, e_M13, h⟩ := h
  refine V_putI zf_13_6 zl_X7_50 (Or.inl rfl) rfl e_M13 dX7_away_46 ?_
  refine V_pc (pc' := 49) rfl ?_
  refine V_aload_n dX7_away_49 rfl 0 rfl ?_
  replace h := ob h
  obtain ⟨v14, e_v14, h⟩ := h
  refine V_getR zf_12_4 zl_X7_124 e_v14 dX7_away_50 ?_
  refine V_pc (pc' := 53) rfl ?_
  replace h := ox h
  obtain ⟨c16, h⟩ := h
  replace h := ob h
  obtain ⟨r15, e_r15, h⟩ := h
  refine V_callV_I (As := []) (rest := []) (c_Jx4a65c_size_8abf5 e_r15) zc_Jx4a65c_size_8abf5 rfl (by decide) rfl (by decide) (Or.inl c16) zm_X7_144 (Nat.le_of_ble_eq_true rfl) rfl dX7_away_53 ?_
  refine V_pc (pc' := 56) rfl ?_
  obtain rfl := Option.some.inj h
  exact V_iret rfl hq dX7_away_56
def f_X7_away (a0 : Nat) (i1 : Int32) (M : zM) : Option (Int32 × zM) := f_X7_away_0 a0 i1 M
theorem c_X7_away {L : zL} {l : Launch} {a0 : Nat} {i1 : Int32} {M : zM} {r : Int32 × zM} (h : f_X7_away a0 i1 M = some r) : CP L l yX7_away cX7_away 3 (some FieldType.int) 8 M [.ref (zad L (a0)), .int (i1)] (some (.int r.1)) r.2 :=
  CP.of ⟨by decide +kernel, by decide +kernel⟩ (Nat.le_of_ble_eq_true rfl) fun X Q hq => s_X7_away_0 hq h
/-! WindsparlourModel.discard(I)I -/
theorem dX7_discard_0 : decode cX7_discard 0 = .ok (.aload_n 0, 1) := by decide +kernel
theorem dX7_discard_1 : decode cX7_discard 1 = .ok (.iload_n 1, 1) := by decide +kernel
theorem dX7_discard_2 : decode cX7_discard 2 = .ok (.invokestatic 147, 3) := by decide +kernel
theorem dX7_discard_5 : decode cX7_discard 5 = .ok (.ifCond .ne 7, 3) := by decide +kernel
theorem dX7_discard_8 : decode cX7_discard 8 = .ok (.iconst 1, 1) := by decide +kernel
theorem dX7_discard_9 : decode cX7_discard 9 = .ok (.goto 4, 3) := by decide +kernel
theorem dX7_discard_12 : decode cX7_discard 12 = .ok (.iconst 0, 1) := by decide +kernel
theorem dX7_discard_13 : decode cX7_discard 13 = .ok (.iconst 1, 1) := by decide +kernel
theorem dX7_discard_14 : decode cX7_discard 14 = .ok (.invokevirtual 85, 3) := by decide +kernel
theorem dX7_discard_17 : decode cX7_discard 17 = .ok (.ifCond .eq 5, 3) := by decide +kernel
theorem dX7_discard_20 : decode cX7_discard 20 = .ok (.iconst 0, 1) := by decide +kernel
theorem dX7_discard_21 : decode cX7_discard 21 = .ok (.ireturn, 1) := by decide +kernel
theorem dX7_discard_22 : decode cX7_discard 22 = .ok (.aload_n 0, 1) := by decide +kernel
theorem dX7_discard_23 : decode cX7_discard 23 = .ok (.getfield 50, 3) := by decide +kernel
theorem dX7_discard_26 : decode cX7_discard 26 = .ok (.iconst 1, 1) := by decide +kernel
theorem dX7_discard_27 : decode cX7_discard 27 = .ok (.if_icmp .ne 33, 3) := by decide +kernel
theorem dX7_discard_30 : decode cX7_discard 30 = .ok (.aload_n 0, 1) := by decide +kernel
theorem dX7_discard_31 : decode cX7_discard 31 = .ok (.invokevirtual 104, 3) := by decide +kernel
theorem dX7_discard_34 : decode cX7_discard 34 = .ok (.getfield 94, 3) := by decide +kernel
theorem dX7_discard_37 : decode cX7_discard 37 = .ok (.iload_n 1, 1) := by decide +kernel
theorem dX7_discard_38 : decode cX7_discard 38 = .ok (.iaload, 1) := by decide +kernel
theorem dX7_discard_39 : decode cX7_discard 39 = .ok (.ifCond .eq 21, 3) := by decide +kernel
theorem dX7_discard_42 : decode cX7_discard 42 = .ok (.aload_n 0, 1) := by decide +kernel
theorem dX7_discard_43 : decode cX7_discard 43 = .ok (.invokevirtual 104, 3) := by decide +kernel
theorem dX7_discard_46 : decode cX7_discard 46 = .ok (.getfield 151, 3) := by decide +kernel
theorem dX7_discard_49 : decode cX7_discard 49 = .ok (.ifCond .eq 15, 3) := by decide +kernel
theorem dX7_discard_52 : decode cX7_discard 52 = .ok (.aload_n 0, 1) := by decide +kernel
theorem dX7_discard_53 : decode cX7_discard 53 = .ok (.getfield 59, 3) := by decide +kernel
theorem dX7_discard_56 : decode cX7_discard 56 = .ok (.iload_n 1, 1) := by decide +kernel
theorem dX7_discard_57 : decode cX7_discard 57 = .ok (.if_icmp .eq 7, 3) := by decide +kernel
theorem dX7_discard_60 : decode cX7_discard 60 = .ok (.iconst 1, 1) := by decide +kernel
theorem dX7_discard_61 : decode cX7_discard 61 = .ok (.goto 4, 3) := by decide +kernel
theorem dX7_discard_64 : decode cX7_discard 64 = .ok (.iconst 0, 1) := by decide +kernel
theorem dX7_discard_65 : decode cX7_discard 65 = .ok (.istore_n 2, 1) := by decide +kernel
theorem dX7_discard_66 : decode cX7_discard 66 = .ok (.aload_n 0, 1) := by decide +kernel
theorem dX7_discard_67 : decode cX7_discard 67 = .ok (.iload_n 2, 1) := by decide +kernel
theorem dX7_discard_68 : decode cX7_discard 68 = .ok (.iconst 2, 1) := by decide +kernel
theorem dX7_discard_69 : decode cX7_discard 69 = .ok (.invokevirtual 68, 3) := by decide +kernel
theorem dX7_discard_72 : decode cX7_discard 72 = .ok (.ifCond .eq 7, 3) := by decide +kernel
theorem dX7_discard_75 : decode cX7_discard 75 = .ok (.iconst 0, 1) := by decide +kernel
theorem dX7_discard_76 : decode cX7_discard 76 = .ok (.goto 8, 3) := by decide +kernel
theorem dX7_discard_79 : decode cX7_discard 79 = .ok (.aload_n 0, 1) := by decide +kernel
theorem dX7_discard_80 : decode cX7_discard 80 = .ok (.iload_n 1, 1) := by decide +kernel
theorem dX7_discard_81 : decode cX7_discard 81 = .ok (.invokevirtual 155, 3) := by decide +kernel
theorem dX7_discard_84 : decode cX7_discard 84 = .ok (.ireturn, 1) := by decide +kernel
def f_X7_discard_65 (a0 : Nat) (i1 : Int32) (i_0 : Int32) (M : zM) : Option (Int32 × zM) :=
  if mK M a0 = 13 then
  (f_X7_refuse a0 i_0 ((2 : Int32)) M).bind fun r1 =>
  if r1.1 = 0 then
  if mK r1.2 a0 = 13 then
  (f_X7_away a0 i1 r1.2).bind fun r3 =>
  some (r3.1, r3.2)
  else none
  else
  some ((0 : Int32), r1.2)
  else none
set_option maxRecDepth 20000 in
set_option maxHeartbeats 4000000 in
theorem s_X7_discard_65 {L : zL} {X : zX} {M0 : zM} {N : Nat × Nat} {Q : State → Prop} {r : Int32 × zM} (hq : vQ L X M0 N Q (some (.int r.1)) r.2) {a0 : Nat} {i1 : Int32} {i_0 : Int32} {M : zM} (h : f_X7_discard_65 a0 i1 i_0 M = some r) : V L X yX7_discard cX7_discard 3 (some FieldType.int) 9 M0 N Q M 65 [(0, .ref (zad L (a0))), (1, .int (i1))] [.int (i_0)] := by
  unfold f_X7_discard_65 at h
  refine V_istore_n (ls' := [(2, .int (i_0)), (0, .ref (zad L (a0))), (1, .int (i1))]) dX7_discard_65 rfl (by decide) rfl ?_
  refine V_aload_n dX7_discard_66 rfl 1 rfl ?_
  refine V_iload_n dX7_discard_67 rfl 0 rfl ?_
  refine V_iconst (v := 2) dX7_discard_68 (by decide) ?_
  replace h := ox h
  obtain ⟨c2, h⟩ := h
  replace h := ob h
  obtain ⟨r1, e_r1, h⟩ := h
  refine V_callV_I (As := [.int (i_0), .int ((2 : Int32))]) (rest := []) (c_X7_refuse e_r1) zc_X7_refuse rfl (by decide) rfl (by decide) (Or.inl c2) zm_X7_68 (Nat.le_of_ble_eq_true rfl) rfl dX7_discard_69 ?_
  refine V_pc (pc' := 72) rfl ?_
  refine V_if_eq (tgt := 79) dX7_discard_72 (by decide) (fun c5 => ?_) (fun c5 => ?_)
  · replace h := (oi h).1 c5
    refine V_aload_n dX7_discard_79 rfl 1 rfl ?_
    refine V_iload_n dX7_discard_80 rfl 2 rfl ?_
    replace h := ox h
    obtain ⟨c4, h⟩ := h
    replace h := ob h
    obtain ⟨r3, e_r3, h⟩ := h
    refine V_callV_I (As := [.int (i1)]) (rest := []) (c_X7_away e_r3) zc_X7_away rfl (by decide) rfl (by decide) (Or.inl c4) zm_X7_155 (Nat.le_of_ble_eq_true rfl) rfl dX7_discard_81 ?_
    refine V_pc (pc' := 84) rfl ?_
    obtain rfl := Option.some.inj h
    exact V_iret rfl hq dX7_discard_84
  · replace h := (oi h).2 c5
    refine V_iconst (v := 0) dX7_discard_75 (by decide) ?_
    refine V_goto (tgt := 84) dX7_discard_76 (by decide) ?_
    obtain rfl := Option.some.inj h
    exact V_iret rfl hq dX7_discard_84
def f_X7_discard_60 (a0 : Nat) (i1 : Int32) (M : zM) : Option (Int32 × zM) :=
  f_X7_discard_65 a0 i1 ((1 : Int32)) M
set_option maxRecDepth 20000 in
set_option maxHeartbeats 4000000 in
theorem s_X7_discard_60 {L : zL} {X : zX} {M0 : zM} {N : Nat × Nat} {Q : State → Prop} {r : Int32 × zM} (hq : vQ L X M0 N Q (some (.int r.1)) r.2) {a0 : Nat} {i1 : Int32} {M : zM} (h : f_X7_discard_60 a0 i1 M = some r) : V L X yX7_discard cX7_discard 3 (some FieldType.int) 9 M0 N Q M 60 [(0, .ref (zad L (a0))), (1, .int (i1))] [] := by
  unfold f_X7_discard_60 at h
  refine V_iconst (v := 1) dX7_discard_60 (by decide) ?_
  refine V_goto (tgt := 65) dX7_discard_61 (by decide) ?_
  exact s_X7_discard_65 hq h
def f_X7_discard_64 (a0 : Nat) (i1 : Int32) (M : zM) : Option (Int32 × zM) :=
  f_X7_discard_65 a0 i1 ((0 : Int32)) M
set_option maxRecDepth 20000 in
set_option maxHeartbeats 4000000 in
theorem s_X7_discard_64 {L : zL} {X : zX} {M0 : zM} {N : Nat × Nat} {Q : State → Prop} {r : Int32 × zM} (hq : vQ L X M0 N Q (some (.int r.1)) r.2) {a0 : Nat} {i1 : Int32} {M : zM} (h : f_X7_discard_64 a0 i1 M = some r) : V L X yX7_discard cX7_discard 3 (some FieldType.int) 9 M0 N Q M 64 [(0, .ref (zad L (a0))), (1, .int (i1))] [] := by
  unfold f_X7_discard_64 at h
  refine V_iconst (v := 0) dX7_discard_64 (by decide) ?_
  exact s_X7_discard_65 hq h
def f_X7_discard_13 (a0 : Nat) (i1 : Int32) (i_0 : Int32) (a_1 : Nat) (M : zM) : Option (Int32 × zM) :=
  if mK M a_1 = 13 then
  (f_X7_start a_1 i_0 ((1 : Int32)) M).bind fun r1 =>
  if r1.1 = 0 then
  (gI 13 6 r1.2 a0).bind fun v3 =>
  if v3 = ((1 : Int32)) then
  if mK r1.2 a0 = 13 then
  (f_X7_its a0 r1.2).bind fun r4 =>
  (gR 12 2 r4.2 r4.1).bind fun v6 =>
  (lA 0 r4.2 v6 i1).bind fun v7 =>
  if v7 = 0 then
  f_X7_discard_60 a0 i1 r4.2
  else
  if mK r4.2 a0 = 13 then
  (f_X7_its a0 r4.2).bind fun r8 =>
  (gI 12 6 r8.2 r8.1).bind fun v10 =>
  if v10 = 0 then
  f_X7_discard_64 a0 i1 r8.2
  else
  (gI 13 13 r8.2 a0).bind fun v11 =>
  if v11 = i1 then
  f_X7_discard_64 a0 i1 r8.2
  else
  f_X7_discard_60 a0 i1 r8.2
  else none
  else none
  else
  f_X7_discard_60 a0 i1 r1.2
  else
  some ((0 : Int32), r1.2)
  else none
set_option maxRecDepth 20000 in
set_option maxHeartbeats 4000000 in
theorem s_X7_discard_13 {L : zL} {X : zX} {M0 : zM} {N : Nat × Nat} {Q : State → Prop} {r : Int32 × zM} (hq : vQ L X M0 N Q (some (.int r.1)) r.2) {a0 : Nat} {i1 : Int32} {i_0 : Int32} {a_1 : Nat} {M : zM} (h : f_X7_discard_13 a0 i1 i_0 a_1 M = some r) : V L X yX7_discard cX7_discard 3 (some FieldType.int) 9 M0 N Q M 13 [(0, .ref (zad L (a0))), (1, .int (i1))] [.int (i_0), .ref (zad L (a_1))] := by
  unfold f_X7_discard_13 at h
  refine V_iconst (v := 1) dX7_discard_13 (by decide) ?_
  replace h := ox h
  obtain ⟨c2, h⟩ := h
  replace h := ob h
  obtain ⟨r1, e_r1, h⟩ := h
  refine V_callV_I (As := [.int (i_0), .int ((1 : Int32))]) (rest := []) (c_X7_start e_r1) zc_X7_start rfl (by decide) rfl (by decide) (Or.inl c2) zm_X7_85 (Nat.le_of_ble_eq_true rfl) rfl dX7_discard_14 ?_
  refine V_pc (pc' := 17) rfl ?_
  refine V_if_eq (tgt := 22) dX7_discard_17 (by decide) (fun c16 => ?_) (fun c16 => ?_)
  · replace h := (oi h).1 c16
    refine V_aload_n dX7_discard_22 rfl 0 rfl ?_
    replace h := ob h
    obtain ⟨v3, e_v3, h⟩ := h
    refine V_getI zf_13_6 zl_X7_50 e_v3 dX7_discard_23 ?_
    refine V_pc (pc' := 26) rfl ?_
    refine V_iconst (v := 1) dX7_discard_26 (by decide) ?_
    refine V_icmp_ne (tgt := 60) dX7_discard_27 (by decide) (fun c15 => ?_) (fun c15 => ?_)
    · replace h := (oi h).2 c15
      exact s_X7_discard_60 hq h
    · replace h := (oi h).1 c15
      refine V_aload_n dX7_discard_30 rfl 0 rfl ?_
      replace h := ox h
      obtain ⟨c5, h⟩ := h
      replace h := ob h
      obtain ⟨r4, e_r4, h⟩ := h
      refine V_callV_A (As := []) (rest := []) (c_X7_its e_r4) zc_X7_its rfl (by decide) rfl (by decide) (Or.inl c5) zm_X7_104 (Nat.le_of_ble_eq_true rfl) rfl dX7_discard_31 ?_
      refine V_pc (pc' := 34) rfl ?_
      replace h := ob h
      obtain ⟨v6, e_v6, h⟩ := h
      refine V_getR zf_12_2 zl_X7_94 e_v6 dX7_discard_34 ?_
      refine V_pc (pc' := 37) rfl ?_
      refine V_iload_n dX7_discard_37 rfl 1 rfl ?_
      replace h := ob h
      obtain ⟨v7, e_v7, h⟩ := h
      refine V_iald e_v7 dX7_discard_38 ?_
      refine V_pc (pc' := 39) rfl ?_
      refine V_if_eq (tgt := 60) dX7_discard_39 (by decide) (fun c14 => ?_) (fun c14 => ?_)
      · replace h := (oi h).1 c14
        exact s_X7_discard_60 hq h
      · replace h := (oi h).2 c14
        refine V_aload_n dX7_discard_42 rfl 0 rfl ?_
        replace h := ox h
        obtain ⟨c9, h⟩ := h
        replace h := ob h
        obtain ⟨r8, e_r8, h⟩ := h
        refine V_callV_A (As := []) (rest := []) (c_X7_its e_r8) zc_X7_its rfl (by decide) rfl (by decide) (Or.inl c9) zm_X7_104 (Nat.le_of_ble_eq_true rfl) rfl dX7_discard_43 ?_
        refine V_pc (pc' := 46) rfl ?_
        replace h := ob h
        obtain ⟨v10, e_v10, h⟩ := h
        refine V_getI zf_12_6 zl_X7_151 e_v10 dX7_discard_46 ?_
        refine V_pc (pc' := 49) rfl ?_
        refine V_if_eq (tgt := 64) dX7_discard_49 (by decide) (fun c13 => ?_) (fun c13 => ?_)
        · replace h := (oi h).1 c13
          exact s_X7_discard_64 hq h
        · replace h := (oi h).2 c13
          refine V_aload_n dX7_discard_52 rfl 0 rfl ?_
          replace h := ob h
          obtain ⟨v11, e_v11, h⟩ := h
          refine V_getI zf_13_13 zl_X7_59 e_v11 dX7_discard_53 ?_
          refine V_pc (pc' := 56) rfl ?_
          refine V_iload_n dX7_discard_56 rfl 1 rfl ?_
          refine V_icmp_eq (tgt := 64) dX7_discard_57 (by decide) (fun c12 => ?_) (fun c12 => ?_)
          · replace h := (oi h).1 c12
            exact s_X7_discard_64 hq h
          · replace h := (oi h).2 c12
            exact s_X7_discard_60 hq h
  · replace h := (oi h).2 c16
    refine V_iconst (v := 0) dX7_discard_20 (by decide) ?_
    obtain rfl := Option.some.inj h
    exact V_iret rfl hq dX7_discard_21
def f_X7_discard_0 (a0 : Nat) (i1 : Int32) (M : zM) : Option (Int32 × zM) :=
  (f_X7_isKind i1 M).bind fun r1 =>
  if r1.1 = 0 then
  f_X7_discard_13 a0 i1 ((1 : Int32)) a0 r1.2
  else
  f_X7_discard_13 a0 i1 ((0 : Int32)) a0 r1.2
set_option maxRecDepth 20000 in
set_option maxHeartbeats 4000000 in
theorem s_X7_discard_0 {L : zL} {X : zX} {M0 : zM} {N : Nat × Nat} {Q : State → Prop} {r : Int32 × zM} (hq : vQ L X M0 N Q (some (.int r.1)) r.2) {a0 : Nat} {i1 : Int32} {M : zM} (h : f_X7_discard_0 a0 i1 M = some r) : V L X yX7_discard cX7_discard 3 (some FieldType.int) 9 M0 N Q M 0 [(0, .ref (zad L (a0))), (1, .int (i1))] [] := by
  unfold f_X7_discard_0 at h
  refine V_aload_n dX7_discard_0 rfl 0 rfl ?_
  refine V_iload_n dX7_discard_1 rfl 1 rfl ?_
  replace h := ob h
  obtain ⟨r1, e_r1, h⟩ := h
  refine V_callS_I (As := [.int (i1)]) (rest := [.ref (zad L (a0))]) (c_X7_isKind e_r1) zc_X7_isKind rfl (by decide) zm_X7_147 (Nat.le_of_ble_eq_true rfl) rfl dX7_discard_2 ?_
  refine V_pc (pc' := 5) rfl ?_
  refine V_if_ne (tgt := 12) dX7_discard_5 (by decide) (fun c2 => ?_) (fun c2 => ?_)
  · replace h := (oi h).2 c2
    refine V_iconst (v := 0) dX7_discard_12 (by decide) ?_
    exact s_X7_discard_13 hq h
  · replace h := (oi h).1 c2
    refine V_iconst (v := 1) dX7_discard_8 (by decide) ?_
    refine V_goto (tgt := 13) dX7_discard_9 (by decide) ?_
    exact s_X7_discard_13 hq h
def f_X7_discard (a0 : Nat) (i1 : Int32) (M : zM) : Option (Int32 × zM) := f_X7_discard_0 a0 i1 M
theorem c_X7_discard {L : zL} {l : Launch} {a0 : Nat} {i1 : Int32} {M : zM} {r : Int32 × zM} (h : f_X7_discard a0 i1 M = some r) : CP L l yX7_discard cX7_discard 3 (some FieldType.int) 9 M [.ref (zad L (a0)), .int (i1)] (some (.int r.1)) r.2 :=
  CP.of ⟨by decide +kernel, by decide +kernel⟩ (Nat.le_of_ble_eq_true rfl) fun X Q hq => s_X7_discard_0 hq h
/-! WindsparlourModel.mayCall(I)Z -/
theorem dX7_mayCall_0 : decode cX7_mayCall 0 = .ok (.aload_n 0, 1) := by decide +kernel
theorem dX7_mayCall_1 : decode cX7_mayCall 1 = .ok (.getfield 50, 3) := by decide +kernel
theorem dX7_mayCall_4 : decode cX7_mayCall 4 = .ok (.iconst 1, 1) := by decide +kernel
theorem dX7_mayCall_5 : decode cX7_mayCall 5 = .ok (.if_icmp .ne 35, 3) := by decide +kernel
theorem dX7_mayCall_8 : decode cX7_mayCall 8 = .ok (.aload_n 0, 1) := by decide +kernel
theorem dX7_mayCall_9 : decode cX7_mayCall 9 = .ok (.invokevirtual 104, 3) := by decide +kernel
theorem dX7_mayCall_12 : decode cX7_mayCall 12 = .ok (.invokevirtual 158, 3) := by decide +kernel
theorem dX7_mayCall_15 : decode cX7_mayCall 15 = .ok (.ifCond .gt 25, 3) := by decide +kernel
theorem dX7_mayCall_18 : decode cX7_mayCall 18 = .ok (.aload_n 0, 1) := by decide +kernel
theorem dX7_mayCall_19 : decode cX7_mayCall 19 = .ok (.invokevirtual 104, 3) := by decide +kernel
theorem dX7_mayCall_22 : decode cX7_mayCall 22 = .ok (.getfield 151, 3) := by decide +kernel
theorem dX7_mayCall_25 : decode cX7_mayCall 25 = .ok (.ifCond .ne 15, 3) := by decide +kernel
theorem dX7_mayCall_28 : decode cX7_mayCall 28 = .ok (.aload_n 0, 1) := by decide +kernel
theorem dX7_mayCall_29 : decode cX7_mayCall 29 = .ok (.invokevirtual 104, 3) := by decide +kernel
theorem dX7_mayCall_32 : decode cX7_mayCall 32 = .ok (.getfield 94, 3) := by decide +kernel
theorem dX7_mayCall_35 : decode cX7_mayCall 35 = .ok (.iload_n 1, 1) := by decide +kernel
theorem dX7_mayCall_36 : decode cX7_mayCall 36 = .ok (.iaload, 1) := by decide +kernel
theorem dX7_mayCall_37 : decode cX7_mayCall 37 = .ok (.ifCond .ne 5, 3) := by decide +kernel
theorem dX7_mayCall_40 : decode cX7_mayCall 40 = .ok (.iconst 0, 1) := by decide +kernel
theorem dX7_mayCall_41 : decode cX7_mayCall 41 = .ok (.ireturn, 1) := by decide +kernel
theorem dX7_mayCall_42 : decode cX7_mayCall 42 = .ok (.aload_n 0, 1) := by decide +kernel
theorem dX7_mayCall_43 : decode cX7_mayCall 43 = .ok (.invokevirtual 104, 3) := by decide +kernel
theorem dX7_mayCall_46 : decode cX7_mayCall 46 = .ok (.getfield 94, 3) := by decide +kernel
theorem dX7_mayCall_49 : decode cX7_mayCall 49 = .ok (.iload_n 1, 1) := by decide +kernel
theorem dX7_mayCall_50 : decode cX7_mayCall 50 = .ok (.dup2, 1) := by decide +kernel
theorem dX7_mayCall_51 : decode cX7_mayCall 51 = .ok (.iaload, 1) := by decide +kernel
theorem dX7_mayCall_52 : decode cX7_mayCall 52 = .ok (.iconst 1, 1) := by decide +kernel
theorem dX7_mayCall_53 : decode cX7_mayCall 53 = .ok (.isub, 1) := by decide +kernel
theorem dX7_mayCall_54 : decode cX7_mayCall 54 = .ok (.iastore, 1) := by decide +kernel
theorem dX7_mayCall_55 : decode cX7_mayCall 55 = .ok (.aload_n 0, 1) := by decide +kernel
theorem dX7_mayCall_56 : decode cX7_mayCall 56 = .ok (.invokevirtual 104, 3) := by decide +kernel
theorem dX7_mayCall_59 : decode cX7_mayCall 59 = .ok (.invokevirtual 108, 3) := by decide +kernel
theorem dX7_mayCall_62 : decode cX7_mayCall 62 = .ok (.istore_n 2, 1) := by decide +kernel
theorem dX7_mayCall_63 : decode cX7_mayCall 63 = .ok (.aload_n 0, 1) := by decide +kernel
theorem dX7_mayCall_64 : decode cX7_mayCall 64 = .ok (.invokevirtual 104, 3) := by decide +kernel
theorem dX7_mayCall_67 : decode cX7_mayCall 67 = .ok (.getfield 94, 3) := by decide +kernel
theorem dX7_mayCall_70 : decode cX7_mayCall 70 = .ok (.iload_n 1, 1) := by decide +kernel
theorem dX7_mayCall_71 : decode cX7_mayCall 71 = .ok (.dup2, 1) := by decide +kernel
theorem dX7_mayCall_72 : decode cX7_mayCall 72 = .ok (.iaload, 1) := by decide +kernel
theorem dX7_mayCall_73 : decode cX7_mayCall 73 = .ok (.iconst 1, 1) := by decide +kernel
theorem dX7_mayCall_74 : decode cX7_mayCall 74 = .ok (.iadd, 1) := by decide +kernel
theorem dX7_mayCall_75 : decode cX7_mayCall 75 = .ok (.iastore, 1) := by decide +kernel
theorem dX7_mayCall_76 : decode cX7_mayCall 76 = .ok (.iload_n 2, 1) := by decide +kernel
theorem dX7_mayCall_77 : decode cX7_mayCall 77 = .ok (.ireturn, 1) := by decide +kernel
def f_X7_mayCall_0 (a0 : Nat) (i1 : Int32) (M : zM) : Option (Int32 × zM) :=
  (gI 13 6 M a0).bind fun v1 =>
  if v1 = ((1 : Int32)) then
  if mK M a0 = 13 then
  (f_X7_its a0 M).bind fun r2 =>
  if mK r2.2 r2.1 = 12 then
  (f_X6_open r2.1 r2.2).bind fun r4 =>
  if 0 < r4.1 then
  some ((0 : Int32), r4.2)
  else
  if mK r4.2 a0 = 13 then
  (f_X7_its a0 r4.2).bind fun r6 =>
  (gI 12 6 r6.2 r6.1).bind fun v8 =>
  if v8 = 0 then
  if mK r6.2 a0 = 13 then
  (f_X7_its a0 r6.2).bind fun r9 =>
  (gR 12 2 r9.2 r9.1).bind fun v11 =>
  (lA 0 r9.2 v11 i1).bind fun v12 =>
  if v12 = 0 then
  some ((0 : Int32), r9.2)
  else
  if mK r9.2 a0 = 13 then
  (f_X7_its a0 r9.2).bind fun r13 =>
  (gR 12 2 r13.2 r13.1).bind fun v15 =>
  (lA 0 r13.2 v15 i1).bind fun v16 =>
  (tA r13.2 v15 i1 ((v16 - ((1 : Int32))))).bind fun M17 =>
  if mK M17 a0 = 13 then
  (f_X7_its a0 M17).bind fun r18 =>
  if mK r18.2 r18.1 = 12 then
  (f_X6_isReady r18.1 r18.2).bind fun r20 =>
  if mK r20.2 a0 = 13 then
  (f_X7_its a0 r20.2).bind fun r22 =>
  (gR 12 2 r22.2 r22.1).bind fun v24 =>
  (lA 0 r22.2 v24 i1).bind fun v25 =>
  (tA r22.2 v24 i1 ((v25 + ((1 : Int32))))).bind fun M26 =>
  if r20.1 = 0 ∨ r20.1 = 1 then some (r20.1, M26) else none
  else none
  else none
  else none
  else none
  else none
  else
  some ((0 : Int32), r6.2)
  else none
  else none
  else none
  else
  some ((0 : Int32), M)
set_option maxRecDepth 20000 in
set_option maxHeartbeats 4000000 in
theorem s_X7_mayCall_0 {L : zL} {X : zX} {M0 : zM} {N : Nat × Nat} {Q : State → Prop} {r : Int32 × zM} (hq : vQ L X M0 N Q (some (.int r.1)) r.2) {a0 : Nat} {i1 : Int32} {M : zM} (h : f_X7_mayCall_0 a0 i1 M = some r) : V L X yX7_mayCall cX7_mayCall 3 (some FieldType.boolean) 70 M0 N Q M 0 [(0, .ref (zad L (a0))), (1, .int (i1))] [] := by
  unfold f_X7_mayCall_0 at h
  refine V_aload_n dX7_mayCall_0 rfl 0 rfl ?_
  replace h := ob h
  obtain ⟨v1, e_v1, h⟩ := h
  refine V_getI zf_13_6 zl_X7_50 e_v1 dX7_mayCall_1 ?_
  refine V_pc (pc' := 4) rfl ?_
  refine V_iconst (v := 1) dX7_mayCall_4 (by decide) ?_
  refine V_icmp_ne (tgt := 40) dX7_mayCall_5 (by decide) (fun c31 => ?_) (fun c31 => ?_)
  · replace h := (oi h).2 c31
    refine V_iconst (v := 0) dX7_mayCall_40 (by decide) ?_
    obtain rfl := Option.some.inj h
    exact V_zret (ty := .boolean) rfl rfl hq dX7_mayCall_41
  · replace h := (oi h).1 c31
    refine V_aload_n dX7_mayCall_8 rfl 0 rfl ?_
    replace h := ox h
    obtain ⟨c3, h⟩ := h
    replace h := ob h
    obtain ⟨r2, e_r2, h⟩ := h
    refine V_callV_A (As := []) (rest := []) (c_X7_its e_r2) zc_X7_its rfl (by decide) rfl (by decide) (Or.inl c3) zm_X7_104 (Nat.le_of_ble_eq_true rfl) rfl dX7_mayCall_9 ?_
    refine V_pc (pc' := 12) rfl ?_
    replace h := ox h
    obtain ⟨c5, h⟩ := h
    replace h := ob h
    obtain ⟨r4, e_r4, h⟩ := h
    refine V_callV_I (As := []) (rest := []) (c_X6_open e_r4) zc_X6_open rfl (by decide) rfl (by decide) (Or.inl c5) zm_X7_158 (Nat.le_of_ble_eq_true rfl) rfl dX7_mayCall_12 ?_
    refine V_pc (pc' := 15) rfl ?_
    refine V_if_gt (tgt := 40) dX7_mayCall_15 (by decide) (fun c30 => ?_) (fun c30 => ?_)
    · replace h := (oi h).1 c30
      refine V_iconst (v := 0) dX7_mayCall_40 (by decide) ?_
      obtain rfl := Option.some.inj h
      exact V_zret (ty := .boolean) rfl rfl hq dX7_mayCall_41
    · replace h := (oi h).2 c30
      refine V_aload_n dX7_mayCall_18 rfl 0 rfl ?_
      replace h := ox h
      obtain ⟨c7, h⟩ := h
      replace h := ob h
      obtain ⟨r6, e_r6, h⟩ := h
      refine V_callV_A (As := []) (rest := []) (c_X7_its e_r6) zc_X7_its rfl (by decide) rfl (by decide) (Or.inl c7) zm_X7_104 (Nat.le_of_ble_eq_true rfl) rfl dX7_mayCall_19 ?_
      refine V_pc (pc' := 22) rfl ?_
      replace h := ob h
      obtain ⟨v8, e_v8, h⟩ := h
      refine V_getI zf_12_6 zl_X7_151 e_v8 dX7_mayCall_22 ?_
      refine V_pc (pc' := 25) rfl ?_
      refine V_if_ne (tgt := 40) dX7_mayCall_25 (by decide) (fun c29 => ?_) (fun c29 => ?_)
      · replace h := (oi h).2 c29
        refine V_iconst (v := 0) dX7_mayCall_40 (by decide) ?_
        obtain rfl := Option.some.inj h
        exact V_zret (ty := .boolean) rfl rfl hq dX7_mayCall_41
      · replace h := (oi h).1 c29
        refine V_aload_n dX7_mayCall_28 rfl 0 rfl ?_
        replace h := ox h
        obtain ⟨c10, h⟩ := h
        replace h := ob h
        obtain ⟨r9, e_r9, h⟩ := h
        refine V_callV_A (As := []) (rest := []) (c_X7_its e_r9) zc_X7_its rfl (by decide) rfl (by decide) (Or.inl c10) zm_X7_104 (Nat.le_of_ble_eq_true rfl) rfl dX7_mayCall_29 ?_
        refine V_pc (pc' := 32) rfl ?_
        replace h := ob h
        obtain ⟨v11, e_v11, h⟩ := h
        refine V_getR zf_12_2 zl_X7_94 e_v11 dX7_mayCall_32 ?_
        refine V_pc (pc' := 35) rfl ?_
        refine V_iload_n dX7_mayCall_35 rfl 1 rfl ?_
        replace h := ob h
        obtain ⟨v12, e_v12, h⟩ := h
        refine V_iald e_v12 dX7_mayCall_36 ?_
        refine V_pc (pc' := 37) rfl ?_
        refine V_if_ne (tgt := 42) dX7_mayCall_37 (by decide) (fun c28 => ?_) (fun c28 => ?_)
        · replace h := (oi h).2 c28
          refine V_aload_n dX7_mayCall_42 rfl 0 rfl ?_
          replace h := ox h
          obtain ⟨c14, h⟩ := h
          replace h := ob h
          obtain ⟨r13, e_r13, h⟩ := h
          refine V_callV_A (As := []) (rest := []) (c_X7_its e_r13) zc_X7_its rfl (by decide) rfl (by decide) (Or.inl c14) zm_X7_104 (Nat.le_of_ble_eq_true rfl) rfl dX7_mayCall_43 ?_
          refine V_pc (pc' := 46) rfl ?_
          replace h := ob h
          obtain ⟨v15, e_v15, h⟩ := h
          refine V_getR zf_12_2 zl_X7_94 e_v15 dX7_mayCall_46 ?_
          refine V_pc (pc' := 49) rfl ?_
          refine V_iload_n dX7_mayCall_49 rfl 1 rfl ?_
          refine V_dup2 dX7_mayCall_50 rfl rfl ?_
          replace h := ob h
          obtain ⟨v16, e_v16, h⟩ := h
          refine V_iald e_v16 dX7_mayCall_51 ?_
          refine V_pc (pc' := 52) rfl ?_
          refine V_iconst (v := 1) dX7_mayCall_52 (by decide) ?_
          refine V_isub dX7_mayCall_53 ?_
          replace h := ob h
          obtain ⟨M17, e_M17, h⟩ := h
          refine V_iast e_M17 dX7_mayCall_54 ?_
          refine V_aload_n dX7_mayCall_55 rfl 0 rfl ?_
          replace h := ox h
          obtain ⟨c19, h⟩ := h
          replace h := ob h
          obtain ⟨r18, e_r18, h⟩ := h
          refine V_callV_A (As := []) (rest := []) (c_X7_its e_r18) zc_X7_its rfl (by decide) rfl (by decide) (Or.inl c19) zm_X7_104 (Nat.le_of_ble_eq_true rfl) rfl dX7_mayCall_56 ?_
          refine V_pc (pc' := 59) rfl ?_
          replace h := ox h
          obtain ⟨c21, h⟩ := h
          replace h := ob h
          obtain ⟨r20, e_r20, h⟩ := h
          refine V_callV_I (As := []) (rest := []) (c_X6_isReady e_r20) zc_X6_isReady rfl (by decide) rfl (by decide) (Or.inl c21) zm_X7_108 (Nat.le_of_ble_eq_true rfl) rfl dX7_mayCall_59 ?_
          refine V_pc (pc' := 62) rfl ?_
          refine V_istore_n (ls' := [(2, .int (r20.1)), (0, .ref (zad L (a0))), (1, .int (i1))]) dX7_mayCall_62 rfl (by decide) rfl ?_
          refine V_aload_n dX7_mayCall_63 rfl 1 rfl ?_
          replace h := ox h
          obtain ⟨c23, h⟩ := h
          replace h := ob h
          obtain ⟨r22, e_r22, h⟩ := h
          refine V_callV_A (As := []) (rest := []) (c_X7_its e_r22) zc_X7_its rfl (by decide) rfl (by decide) (Or.inl c23) zm_X7_104 (Nat.le_of_ble_eq_true rfl) rfl dX7_mayCall_64 ?_
          refine V_pc (pc' := 67) rfl ?_
          replace h := ob h
          obtain ⟨v24, e_v24, h⟩ := h
          refine V_getR zf_12_2 zl_X7_94 e_v24 dX7_mayCall_67 ?_
          refine V_pc (pc' := 70) rfl ?_
          refine V_iload_n dX7_mayCall_70 rfl 2 rfl ?_
          refine V_dup2 dX7_mayCall_71 rfl rfl ?_
          replace h := ob h
          obtain ⟨v25, e_v25, h⟩ := h
          refine V_iald e_v25 dX7_mayCall_72 ?_
          refine V_pc (pc' := 73) rfl ?_
          refine V_iconst (v := 1) dX7_mayCall_73 (by decide) ?_
          refine V_iadd dX7_mayCall_74 ?_
          replace h := ob h
          obtain ⟨M26, e_M26, h⟩ := h
          refine V_iast e_M26 dX7_mayCall_75 ?_
          refine V_iload_n dX7_mayCall_76 rfl 0 rfl ?_
          replace h := ox h
          obtain ⟨c27, h⟩ := h
          obtain rfl := Option.some.inj h
          exact V_zret (ty := .boolean) rfl (by rcases c27 with e | e <;> rw [e] <;> rfl) hq dX7_mayCall_77
        · replace h := (oi h).1 c28
          refine V_iconst (v := 0) dX7_mayCall_40 (by decide) ?_
          obtain rfl := Option.some.inj h
          exact V_zret (ty := .boolean) rfl rfl hq dX7_mayCall_41
def f_X7_mayCall (a0 : Nat) (i1 : Int32) (M : zM) : Option (Int32 × zM) := f_X7_mayCall_0 a0 i1 M
theorem c_X7_mayCall {L : zL} {l : Launch} {a0 : Nat} {i1 : Int32} {M : zM} {r : Int32 × zM} (h : f_X7_mayCall a0 i1 M = some r) : CP L l yX7_mayCall cX7_mayCall 3 (some FieldType.boolean) 70 M [.ref (zad L (a0)), .int (i1)] (some (.int r.1)) r.2 :=
  CP.of ⟨by decide +kernel, by decide +kernel⟩ (Nat.le_of_ble_eq_true rfl) fun X Q hq => s_X7_mayCall_0 hq h
/-! WindsparlourModel.call(I)I -/
theorem dX7_call_0 : decode cX7_call 0 = .ok (.aload_n 0, 1) := by decide +kernel
theorem dX7_call_1 : decode cX7_call 1 = .ok (.iload_n 1, 1) := by decide +kernel
theorem dX7_call_2 : decode cX7_call 2 = .ok (.invokestatic 147, 3) := by decide +kernel
theorem dX7_call_5 : decode cX7_call 5 = .ok (.ifCond .ne 7, 3) := by decide +kernel
theorem dX7_call_8 : decode cX7_call 8 = .ok (.iconst 1, 1) := by decide +kernel
theorem dX7_call_9 : decode cX7_call 9 = .ok (.goto 4, 3) := by decide +kernel
theorem dX7_call_12 : decode cX7_call 12 = .ok (.iconst 0, 1) := by decide +kernel
theorem dX7_call_13 : decode cX7_call 13 = .ok (.iconst 1, 1) := by decide +kernel
theorem dX7_call_14 : decode cX7_call 14 = .ok (.invokevirtual 85, 3) := by decide +kernel
theorem dX7_call_17 : decode cX7_call 17 = .ok (.ifCond .ne 24, 3) := by decide +kernel
theorem dX7_call_20 : decode cX7_call 20 = .ok (.aload_n 0, 1) := by decide +kernel
theorem dX7_call_21 : decode cX7_call 21 = .ok (.aload_n 0, 1) := by decide +kernel
theorem dX7_call_22 : decode cX7_call 22 = .ok (.iload_n 1, 1) := by decide +kernel
theorem dX7_call_23 : decode cX7_call 23 = .ok (.invokevirtual 161, 3) := by decide +kernel
theorem dX7_call_26 : decode cX7_call 26 = .ok (.ifCond .ne 7, 3) := by decide +kernel
theorem dX7_call_29 : decode cX7_call 29 = .ok (.iconst 1, 1) := by decide +kernel
theorem dX7_call_30 : decode cX7_call 30 = .ok (.goto 4, 3) := by decide +kernel
theorem dX7_call_33 : decode cX7_call 33 = .ok (.iconst 0, 1) := by decide +kernel
theorem dX7_call_34 : decode cX7_call 34 = .ok (.iconst 2, 1) := by decide +kernel
theorem dX7_call_35 : decode cX7_call 35 = .ok (.invokevirtual 68, 3) := by decide +kernel
theorem dX7_call_38 : decode cX7_call 38 = .ok (.ifCond .eq 5, 3) := by decide +kernel
theorem dX7_call_41 : decode cX7_call 41 = .ok (.iconst 0, 1) := by decide +kernel
theorem dX7_call_42 : decode cX7_call 42 = .ok (.ireturn, 1) := by decide +kernel
theorem dX7_call_43 : decode cX7_call 43 = .ok (.aload_n 0, 1) := by decide +kernel
theorem dX7_call_44 : decode cX7_call 44 = .ok (.invokevirtual 104, 3) := by decide +kernel
theorem dX7_call_47 : decode cX7_call 47 = .ok (.astore_n 2, 1) := by decide +kernel
theorem dX7_call_48 : decode cX7_call 48 = .ok (.aload_n 2, 1) := by decide +kernel
theorem dX7_call_49 : decode cX7_call 49 = .ok (.iconst 1, 1) := by decide +kernel
theorem dX7_call_50 : decode cX7_call 50 = .ok (.putfield 151, 3) := by decide +kernel
theorem dX7_call_53 : decode cX7_call 53 = .ok (.aload_n 2, 1) := by decide +kernel
theorem dX7_call_54 : decode cX7_call 54 = .ok (.dup, 1) := by decide +kernel
theorem dX7_call_55 : decode cX7_call 55 = .ok (.getfield 112, 3) := by decide +kernel
theorem dX7_call_58 : decode cX7_call 58 = .ok (.bipush 10, 2) := by decide +kernel
theorem dX7_call_60 : decode cX7_call 60 = .ok (.isub, 1) := by decide +kernel
theorem dX7_call_61 : decode cX7_call 61 = .ok (.putfield 112, 3) := by decide +kernel
theorem dX7_call_64 : decode cX7_call 64 = .ok (.aload_n 0, 1) := by decide +kernel
theorem dX7_call_65 : decode cX7_call 65 = .ok (.dup, 1) := by decide +kernel
theorem dX7_call_66 : decode cX7_call 66 = .ok (.getfield 164, 3) := by decide +kernel
theorem dX7_call_69 : decode cX7_call 69 = .ok (.bipush 10, 2) := by decide +kernel
theorem dX7_call_71 : decode cX7_call 71 = .ok (.iadd, 1) := by decide +kernel
theorem dX7_call_72 : decode cX7_call 72 = .ok (.putfield 164, 3) := by decide +kernel
theorem dX7_call_75 : decode cX7_call 75 = .ok (.aload_n 0, 1) := by decide +kernel
theorem dX7_call_76 : decode cX7_call 76 = .ok (.iload_n 1, 1) := by decide +kernel
theorem dX7_call_77 : decode cX7_call 77 = .ok (.invokevirtual 155, 3) := by decide +kernel
theorem dX7_call_80 : decode cX7_call 80 = .ok (.pop, 1) := by decide +kernel
theorem dX7_call_81 : decode cX7_call 81 = .ok (.aload_n 2, 1) := by decide +kernel
theorem dX7_call_82 : decode cX7_call 82 = .ok (.getfield 112, 3) := by decide +kernel
theorem dX7_call_85 : decode cX7_call 85 = .ok (.ireturn, 1) := by decide +kernel
def f_X7_call_34 (a0 : Nat) (i1 : Int32) (i_0 : Int32) (a_1 : Nat) (M : zM) : Option (Int32 × zM) :=
  if mK M a_1 = 13 then
  (f_X7_refuse a_1 i_0 ((2 : Int32)) M).bind fun r1 =>
  if r1.1 = 0 then
  if mK r1.2 a0 = 13 then
  (f_X7_its a0 r1.2).bind fun r3 =>
  (pZ 12 6 r3.2 r3.1 ((1 : Int32))).bind fun M5 =>
  (gI 12 0 M5 r3.1).bind fun v6 =>
  (pI 12 0 M5 r3.1 ((v6 - ((10 : Int32))))).bind fun M7 =>
  (gI 13 11 M7 a0).bind fun v8 =>
  (pI 13 11 M7 a0 ((v8 + ((10 : Int32))))).bind fun M9 =>
  if mK M9 a0 = 13 then
  (f_X7_away a0 i1 M9).bind fun r10 =>
  (gI 12 0 r10.2 r3.1).bind fun v12 =>
  some (v12, r10.2)
  else none
  else none
  else
  some ((0 : Int32), r1.2)
  else none
set_option maxRecDepth 20000 in
set_option maxHeartbeats 4000000 in
theorem s_X7_call_34 {L : zL} {X : zX} {M0 : zM} {N : Nat × Nat} {Q : State → Prop} {r : Int32 × zM} (hq : vQ L X M0 N Q (some (.int r.1)) r.2) {a0 : Nat} {i1 : Int32} {i_0 : Int32} {a_1 : Nat} {M : zM} (h : f_X7_call_34 a0 i1 i_0 a_1 M = some r) : V L X yX7_call cX7_call 3 (some FieldType.int) 71 M0 N Q M 34 [(0, .ref (zad L (a0))), (1, .int (i1))] [.int (i_0), .ref (zad L (a_1))] := by
  unfold f_X7_call_34 at h
  refine V_iconst (v := 2) dX7_call_34 (by decide) ?_
  replace h := ox h
  obtain ⟨c2, h⟩ := h
  replace h := ob h
  obtain ⟨r1, e_r1, h⟩ := h
  refine V_callV_I (As := [.int (i_0), .int ((2 : Int32))]) (rest := []) (c_X7_refuse e_r1) zc_X7_refuse rfl (by decide) rfl (by decide) (Or.inl c2) zm_X7_68 (Nat.le_of_ble_eq_true rfl) rfl dX7_call_35 ?_
  refine V_pc (pc' := 38) rfl ?_
  refine V_if_eq (tgt := 43) dX7_call_38 (by decide) (fun c13 => ?_) (fun c13 => ?_)
  · replace h := (oi h).1 c13
    refine V_aload_n dX7_call_43 rfl 0 rfl ?_
    replace h := ox h
    obtain ⟨c4, h⟩ := h
    replace h := ob h
    obtain ⟨r3, e_r3, h⟩ := h
    refine V_callV_A (As := []) (rest := []) (c_X7_its e_r3) zc_X7_its rfl (by decide) rfl (by decide) (Or.inl c4) zm_X7_104 (Nat.le_of_ble_eq_true rfl) rfl dX7_call_44 ?_
    refine V_pc (pc' := 47) rfl ?_
    refine V_astore_n (ls' := [(2, .ref (zad L (r3.1))), (0, .ref (zad L (a0))), (1, .int (i1))]) dX7_call_47 rfl (by decide) rfl ?_
    refine V_aload_n dX7_call_48 rfl 0 rfl ?_
    refine V_iconst (v := 1) dX7_call_49 (by decide) ?_
    replace h := ob h
    obtain ⟨M5, e_M5, h⟩ := h
    refine V_putZ zf_12_6 zl_X7_151 (Or.inl rfl) rfl e_M5 dX7_call_50 ?_
    refine V_pc (pc' := 53) rfl ?_
    refine V_aload_n dX7_call_53 rfl 0 rfl ?_
    refine V_dup dX7_call_54 rfl ?_
    replace h := ob h
    obtain ⟨v6, e_v6, h⟩ := h
    refine V_getI zf_12_0 zl_X7_112 e_v6 dX7_call_55 ?_
    refine V_pc (pc' := 58) rfl ?_
    refine V_bipush (v := 10) dX7_call_58 (by decide) ?_
    refine V_isub dX7_call_60 ?_
    replace h := ob h
    obtain ⟨M7, e_M7, h⟩ := h
    refine V_putI zf_12_0 zl_X7_112 (Or.inl rfl) rfl e_M7 dX7_call_61 ?_
    refine V_pc (pc' := 64) rfl ?_
    refine V_aload_n dX7_call_64 rfl 1 rfl ?_
    refine V_dup dX7_call_65 rfl ?_
    replace h := ob h
    obtain ⟨v8, e_v8, h⟩ := h
    refine V_getI zf_13_11 zl_X7_164 e_v8 dX7_call_66 ?_
    refine V_pc (pc' := 69) rfl ?_
    refine V_bipush (v := 10) dX7_call_69 (by decide) ?_
    refine V_iadd dX7_call_71 ?_
    replace h := ob h
    obtain ⟨M9, e_M9, h⟩ := h
    refine V_putI zf_13_11 zl_X7_164 (Or.inl rfl) rfl e_M9 dX7_call_72 ?_
    refine V_pc (pc' := 75) rfl ?_
    refine V_aload_n dX7_call_75 rfl 1 rfl ?_
    refine V_iload_n dX7_call_76 rfl 2 rfl ?_
    replace h := ox h
    obtain ⟨c11, h⟩ := h
    replace h := ob h
    obtain ⟨r10, e_r10, h⟩ := h
    refine V_callV_I (As := [.int (i1)]) (rest := []) (c_X7_away e_r10) zc_X7_away rfl (by decide) rfl (by decide) (Or.inl c11) zm_X7_155 (Nat.le_of_ble_eq_true rfl) rfl dX7_call_77 ?_
    refine V_pc (pc' := 80) rfl ?_
    refine V_pop dX7_call_80 rfl ?_
    refine V_aload_n dX7_call_81 rfl 0 rfl ?_
    replace h := ob h
    obtain ⟨v12, e_v12, h⟩ := h
    refine V_getI zf_12_0 zl_X7_112 e_v12 dX7_call_82 ?_
    refine V_pc (pc' := 85) rfl ?_
    obtain rfl := Option.some.inj h
    exact V_iret rfl hq dX7_call_85
  · replace h := (oi h).2 c13
    refine V_iconst (v := 0) dX7_call_41 (by decide) ?_
    obtain rfl := Option.some.inj h
    exact V_iret rfl hq dX7_call_42
def f_X7_call_13 (a0 : Nat) (i1 : Int32) (i_0 : Int32) (a_1 : Nat) (M : zM) : Option (Int32 × zM) :=
  if mK M a_1 = 13 then
  (f_X7_start a_1 i_0 ((1 : Int32)) M).bind fun r1 =>
  if r1.1 = 0 then
  if mK r1.2 a0 = 13 then
  (f_X7_mayCall a0 i1 r1.2).bind fun r3 =>
  if r3.1 = 0 then
  f_X7_call_34 a0 i1 ((1 : Int32)) a0 r3.2
  else
  f_X7_call_34 a0 i1 ((0 : Int32)) a0 r3.2
  else none
  else
  some ((0 : Int32), r1.2)
  else none
set_option maxRecDepth 20000 in
set_option maxHeartbeats 4000000 in
theorem s_X7_call_13 {L : zL} {X : zX} {M0 : zM} {N : Nat × Nat} {Q : State → Prop} {r : Int32 × zM} (hq : vQ L X M0 N Q (some (.int r.1)) r.2) {a0 : Nat} {i1 : Int32} {i_0 : Int32} {a_1 : Nat} {M : zM} (h : f_X7_call_13 a0 i1 i_0 a_1 M = some r) : V L X yX7_call cX7_call 3 (some FieldType.int) 71 M0 N Q M 13 [(0, .ref (zad L (a0))), (1, .int (i1))] [.int (i_0), .ref (zad L (a_1))] := by
  unfold f_X7_call_13 at h
  refine V_iconst (v := 1) dX7_call_13 (by decide) ?_
  replace h := ox h
  obtain ⟨c2, h⟩ := h
  replace h := ob h
  obtain ⟨r1, e_r1, h⟩ := h
  refine V_callV_I (As := [.int (i_0), .int ((1 : Int32))]) (rest := []) (c_X7_start e_r1) zc_X7_start rfl (by decide) rfl (by decide) (Or.inl c2) zm_X7_85 (Nat.le_of_ble_eq_true rfl) rfl dX7_call_14 ?_
  refine V_pc (pc' := 17) rfl ?_
  refine V_if_ne (tgt := 41) dX7_call_17 (by decide) (fun c6 => ?_) (fun c6 => ?_)
  · replace h := (oi h).2 c6
    refine V_iconst (v := 0) dX7_call_41 (by decide) ?_
    obtain rfl := Option.some.inj h
    exact V_iret rfl hq dX7_call_42
  · replace h := (oi h).1 c6
    refine V_aload_n dX7_call_20 rfl 0 rfl ?_
    refine V_aload_n dX7_call_21 rfl 0 rfl ?_
    refine V_iload_n dX7_call_22 rfl 1 rfl ?_
    replace h := ox h
    obtain ⟨c4, h⟩ := h
    replace h := ob h
    obtain ⟨r3, e_r3, h⟩ := h
    refine V_callV_I (As := [.int (i1)]) (rest := [.ref (zad L (a0))]) (c_X7_mayCall e_r3) zc_X7_mayCall rfl (by decide) rfl (by decide) (Or.inl c4) zm_X7_161 (Nat.le_of_ble_eq_true rfl) rfl dX7_call_23 ?_
    refine V_pc (pc' := 26) rfl ?_
    refine V_if_ne (tgt := 33) dX7_call_26 (by decide) (fun c5 => ?_) (fun c5 => ?_)
    · replace h := (oi h).2 c5
      refine V_iconst (v := 0) dX7_call_33 (by decide) ?_
      exact s_X7_call_34 hq h
    · replace h := (oi h).1 c5
      refine V_iconst (v := 1) dX7_call_29 (by decide) ?_
      refine V_goto (tgt := 34) dX7_call_30 (by decide) ?_
      exact s_X7_call_34 hq h
def f_X7_call_0 (a0 : Nat) (i1 : Int32) (M : zM) : Option (Int32 × zM) :=
  (f_X7_isKind i1 M).bind fun r1 =>
  if r1.1 = 0 then
  f_X7_call_13 a0 i1 ((1 : Int32)) a0 r1.2
  else
  f_X7_call_13 a0 i1 ((0 : Int32)) a0 r1.2
set_option maxRecDepth 20000 in
set_option maxHeartbeats 4000000 in
theorem s_X7_call_0 {L : zL} {X : zX} {M0 : zM} {N : Nat × Nat} {Q : State → Prop} {r : Int32 × zM} (hq : vQ L X M0 N Q (some (.int r.1)) r.2) {a0 : Nat} {i1 : Int32} {M : zM} (h : f_X7_call_0 a0 i1 M = some r) : V L X yX7_call cX7_call 3 (some FieldType.int) 71 M0 N Q M 0 [(0, .ref (zad L (a0))), (1, .int (i1))] [] := by
  unfold f_X7_call_0 at h
  refine V_aload_n dX7_call_0 rfl 0 rfl ?_
  refine V_iload_n dX7_call_1 rfl 1 rfl ?_
  replace h := ob h
  obtain ⟨r1, e_r1, h⟩ := h
  refine V_callS_I (As := [.int (i1)]) (rest := [.ref (zad L (a0))]) (c_X7_isKind e_r1) zc_X7_isKind rfl (by decide) zm_X7_147 (Nat.le_of_ble_eq_true rfl) rfl dX7_call_2 ?_
  refine V_pc (pc' := 5) rfl ?_
  refine V_if_ne (tgt := 12) dX7_call_5 (by decide) (fun c2 => ?_) (fun c2 => ?_)
  · replace h := (oi h).2 c2
    refine V_iconst (v := 0) dX7_call_12 (by decide) ?_
    exact s_X7_call_13 hq h
  · replace h := (oi h).1 c2
    refine V_iconst (v := 1) dX7_call_8 (by decide) ?_
    refine V_goto (tgt := 13) dX7_call_9 (by decide) ?_
    exact s_X7_call_13 hq h
def f_X7_call (a0 : Nat) (i1 : Int32) (M : zM) : Option (Int32 × zM) := f_X7_call_0 a0 i1 M
theorem c_X7_call {L : zL} {l : Launch} {a0 : Nat} {i1 : Int32} {M : zM} {r : Int32 × zM} (h : f_X7_call a0 i1 M = some r) : CP L l yX7_call cX7_call 3 (some FieldType.int) 71 M [.ref (zad L (a0)), .int (i1)] (some (.int r.1)) r.2 :=
  CP.of ⟨by decide +kernel, by decide +kernel⟩ (Nat.le_of_ble_eq_true rfl) fun X Q hq => s_X7_call_0 hq h
/-! WindsparlourModel.mayFour()Z -/
theorem dX7_mayFour_0 : decode cX7_mayFour 0 = .ok (.aload_n 0, 1) := by decide +kernel
theorem dX7_mayFour_1 : decode cX7_mayFour 1 = .ok (.getfield 101, 3) := by decide +kernel
theorem dX7_mayFour_4 : decode cX7_mayFour 4 = .ok (.iconst 4, 1) := by decide +kernel
theorem dX7_mayFour_5 : decode cX7_mayFour 5 = .ok (.if_icmp .ge 14, 3) := by decide +kernel
theorem dX7_mayFour_8 : decode cX7_mayFour 8 = .ok (.aload_n 0, 1) := by decide +kernel
theorem dX7_mayFour_9 : decode cX7_mayFour 9 = .ok (.invokevirtual 115, 3) := by decide +kernel
theorem dX7_mayFour_12 : decode cX7_mayFour 12 = .ok (.ifCond .eq 7, 3) := by decide +kernel
theorem dX7_mayFour_15 : decode cX7_mayFour 15 = .ok (.iconst 1, 1) := by decide +kernel
theorem dX7_mayFour_16 : decode cX7_mayFour 16 = .ok (.goto 4, 3) := by decide +kernel
theorem dX7_mayFour_19 : decode cX7_mayFour 19 = .ok (.iconst 0, 1) := by decide +kernel
theorem dX7_mayFour_20 : decode cX7_mayFour 20 = .ok (.ireturn, 1) := by decide +kernel
def f_X7_mayFour_0 (a0 : Nat) (M : zM) : Option (Int32 × zM) :=
  (gI 13 10 M a0).bind fun v1 =>
  if ((4 : Int32)) ≤ v1 then
  some ((0 : Int32), M)
  else
  if mK M a0 = 13 then
  (f_X7_canDraw a0 M).bind fun r2 =>
  if r2.1 = 0 then
  some ((0 : Int32), r2.2)
  else
  some ((1 : Int32), r2.2)
  else none
set_option maxRecDepth 20000 in
set_option maxHeartbeats 4000000 in
theorem s_X7_mayFour_0 {L : zL} {X : zX} {M0 : zM} {N : Nat × Nat} {Q : State → Prop} {r : Int32 × zM} (hq : vQ L X M0 N Q (some (.int r.1)) r.2) {a0 : Nat} {M : zM} (h : f_X7_mayFour_0 a0 M = some r) : V L X yX7_mayFour cX7_mayFour 1 (some FieldType.boolean) 3 M0 N Q M 0 [(0, .ref (zad L (a0)))] [] := by
  unfold f_X7_mayFour_0 at h
  refine V_aload_n dX7_mayFour_0 rfl 0 rfl ?_
  replace h := ob h
  obtain ⟨v1, e_v1, h⟩ := h
  refine V_getI zf_13_10 zl_X7_101 e_v1 dX7_mayFour_1 ?_
  refine V_pc (pc' := 4) rfl ?_
  refine V_iconst (v := 4) dX7_mayFour_4 (by decide) ?_
  refine V_icmp_ge (tgt := 19) dX7_mayFour_5 (by decide) (fun c5 => ?_) (fun c5 => ?_)
  · replace h := (oi h).1 c5
    refine V_iconst (v := 0) dX7_mayFour_19 (by decide) ?_
    obtain rfl := Option.some.inj h
    exact V_zret (ty := .boolean) rfl rfl hq dX7_mayFour_20
  · replace h := (oi h).2 c5
    refine V_aload_n dX7_mayFour_8 rfl 0 rfl ?_
    replace h := ox h
    obtain ⟨c3, h⟩ := h
    replace h := ob h
    obtain ⟨r2, e_r2, h⟩ := h
    refine V_callV_I (As := []) (rest := []) (c_X7_canDraw e_r2) zc_X7_canDraw rfl (by decide) rfl (by decide) (Or.inl c3) zm_X7_115 (Nat.le_of_ble_eq_true rfl) rfl dX7_mayFour_9 ?_
    refine V_pc (pc' := 12) rfl ?_
    refine V_if_eq (tgt := 19) dX7_mayFour_12 (by decide) (fun c4 => ?_) (fun c4 => ?_)
    · replace h := (oi h).1 c4
      refine V_iconst (v := 0) dX7_mayFour_19 (by decide) ?_
      obtain rfl := Option.some.inj h
      exact V_zret (ty := .boolean) rfl rfl hq dX7_mayFour_20
    · replace h := (oi h).2 c4
      refine V_iconst (v := 1) dX7_mayFour_15 (by decide) ?_
      refine V_goto (tgt := 20) dX7_mayFour_16 (by decide) ?_
      obtain rfl := Option.some.inj h
      exact V_zret (ty := .boolean) rfl rfl hq dX7_mayFour_20
def f_X7_mayFour (a0 : Nat) (M : zM) : Option (Int32 × zM) := f_X7_mayFour_0 a0 M
theorem c_X7_mayFour {L : zL} {l : Launch} {a0 : Nat} {M : zM} {r : Int32 × zM} (h : f_X7_mayFour a0 M = some r) : CP L l yX7_mayFour cX7_mayFour 1 (some FieldType.boolean) 3 M [.ref (zad L (a0))] (some (.int r.1)) r.2 :=
  CP.of ⟨by decide +kernel, by decide +kernel⟩ (Nat.le_of_ble_eq_true rfl) fun X Q hq => s_X7_mayFour_0 hq h
/-! WindsparlourModel.mayClaim(III)Z -/
theorem dX7_mayClaim_0 : decode cX7_mayClaim 0 = .ok (.aload_n 0, 1) := by decide +kernel
theorem dX7_mayClaim_1 : decode cX7_mayClaim 1 = .ok (.getfield 50, 3) := by decide +kernel
theorem dX7_mayClaim_4 : decode cX7_mayClaim 4 = .ok (.iconst 2, 1) := by decide +kernel
theorem dX7_mayClaim_5 : decode cX7_mayClaim 5 = .ok (.if_icmp .ne 23, 3) := by decide +kernel
theorem dX7_mayClaim_8 : decode cX7_mayClaim 8 = .ok (.iload_n 1, 1) := by decide +kernel
theorem dX7_mayClaim_9 : decode cX7_mayClaim 9 = .ok (.aload_n 0, 1) := by decide +kernel
theorem dX7_mayClaim_10 : decode cX7_mayClaim 10 = .ok (.getfield 82, 3) := by decide +kernel
theorem dX7_mayClaim_13 : decode cX7_mayClaim 13 = .ok (.if_icmp .eq 15, 3) := by decide +kernel
theorem dX7_mayClaim_16 : decode cX7_mayClaim 16 = .ok (.aload_n 0, 1) := by decide +kernel
theorem dX7_mayClaim_17 : decode cX7_mayClaim 17 = .ok (.getfield 38, 3) := by decide +kernel
theorem dX7_mayClaim_20 : decode cX7_mayClaim 20 = .ok (.iload_n 1, 1) := by decide +kernel
theorem dX7_mayClaim_21 : decode cX7_mayClaim 21 = .ok (.aaload, 1) := by decide +kernel
theorem dX7_mayClaim_22 : decode cX7_mayClaim 22 = .ok (.getfield 151, 3) := by decide +kernel
theorem dX7_mayClaim_25 : decode cX7_mayClaim 25 = .ok (.ifCond .eq 5, 3) := by decide +kernel
theorem dX7_mayClaim_28 : decode cX7_mayClaim 28 = .ok (.iconst 0, 1) := by decide +kernel
theorem dX7_mayClaim_29 : decode cX7_mayClaim 29 = .ok (.ireturn, 1) := by decide +kernel
theorem dX7_mayClaim_30 : decode cX7_mayClaim 30 = .ok (.aload_n 0, 1) := by decide +kernel
theorem dX7_mayClaim_31 : decode cX7_mayClaim 31 = .ok (.getfield 38, 3) := by decide +kernel
theorem dX7_mayClaim_34 : decode cX7_mayClaim 34 = .ok (.iload_n 1, 1) := by decide +kernel
theorem dX7_mayClaim_35 : decode cX7_mayClaim 35 = .ok (.aaload, 1) := by decide +kernel
theorem dX7_mayClaim_36 : decode cX7_mayClaim 36 = .ok (.getfield 94, 3) := by decide +kernel
theorem dX7_mayClaim_39 : decode cX7_mayClaim 39 = .ok (.astore 4, 2) := by decide +kernel
theorem dX7_mayClaim_41 : decode cX7_mayClaim 41 = .ok (.iload_n 2, 1) := by decide +kernel
theorem dX7_mayClaim_42 : decode cX7_mayClaim 42 = .ok (.ifCond .ne 20, 3) := by decide +kernel
theorem dX7_mayClaim_45 : decode cX7_mayClaim 45 = .ok (.aload 4, 2) := by decide +kernel
theorem dX7_mayClaim_47 : decode cX7_mayClaim 47 = .ok (.aload_n 0, 1) := by decide +kernel
theorem dX7_mayClaim_48 : decode cX7_mayClaim 48 = .ok (.getfield 62, 3) := by decide +kernel
theorem dX7_mayClaim_51 : decode cX7_mayClaim 51 = .ok (.iaload, 1) := by decide +kernel
theorem dX7_mayClaim_52 : decode cX7_mayClaim 52 = .ok (.iconst 2, 1) := by decide +kernel
theorem dX7_mayClaim_53 : decode cX7_mayClaim 53 = .ok (.if_icmp .lt 7, 3) := by decide +kernel
theorem dX7_mayClaim_56 : decode cX7_mayClaim 56 = .ok (.iconst 1, 1) := by decide +kernel
theorem dX7_mayClaim_57 : decode cX7_mayClaim 57 = .ok (.goto 4, 3) := by decide +kernel
theorem dX7_mayClaim_60 : decode cX7_mayClaim 60 = .ok (.iconst 0, 1) := by decide +kernel
theorem dX7_mayClaim_61 : decode cX7_mayClaim 61 = .ok (.ireturn, 1) := by decide +kernel
theorem dX7_mayClaim_62 : decode cX7_mayClaim 62 = .ok (.iload_n 2, 1) := by decide +kernel
theorem dX7_mayClaim_63 : decode cX7_mayClaim 63 = .ok (.iconst 2, 1) := by decide +kernel
theorem dX7_mayClaim_64 : decode cX7_mayClaim 64 = .ok (.if_icmp .ne 27, 3) := by decide +kernel
theorem dX7_mayClaim_67 : decode cX7_mayClaim 67 = .ok (.aload 4, 2) := by decide +kernel
theorem dX7_mayClaim_69 : decode cX7_mayClaim 69 = .ok (.aload_n 0, 1) := by decide +kernel
theorem dX7_mayClaim_70 : decode cX7_mayClaim 70 = .ok (.getfield 62, 3) := by decide +kernel
theorem dX7_mayClaim_73 : decode cX7_mayClaim 73 = .ok (.iaload, 1) := by decide +kernel
theorem dX7_mayClaim_74 : decode cX7_mayClaim 74 = .ok (.iconst 3, 1) := by decide +kernel
theorem dX7_mayClaim_75 : decode cX7_mayClaim 75 = .ok (.if_icmp .lt 14, 3) := by decide +kernel
theorem dX7_mayClaim_78 : decode cX7_mayClaim 78 = .ok (.aload_n 0, 1) := by decide +kernel
theorem dX7_mayClaim_79 : decode cX7_mayClaim 79 = .ok (.invokevirtual 167, 3) := by decide +kernel
theorem dX7_mayClaim_82 : decode cX7_mayClaim 82 = .ok (.ifCond .eq 7, 3) := by decide +kernel
theorem dX7_mayClaim_85 : decode cX7_mayClaim 85 = .ok (.iconst 1, 1) := by decide +kernel
theorem dX7_mayClaim_86 : decode cX7_mayClaim 86 = .ok (.goto 4, 3) := by decide +kernel
theorem dX7_mayClaim_89 : decode cX7_mayClaim 89 = .ok (.iconst 0, 1) := by decide +kernel
theorem dX7_mayClaim_90 : decode cX7_mayClaim 90 = .ok (.ireturn, 1) := by decide +kernel
theorem dX7_mayClaim_91 : decode cX7_mayClaim 91 = .ok (.iload_n 1, 1) := by decide +kernel
theorem dX7_mayClaim_92 : decode cX7_mayClaim 92 = .ok (.aload_n 0, 1) := by decide +kernel
theorem dX7_mayClaim_93 : decode cX7_mayClaim 93 = .ok (.getfield 82, 3) := by decide +kernel
theorem dX7_mayClaim_96 : decode cX7_mayClaim 96 = .ok (.iconst 1, 1) := by decide +kernel
theorem dX7_mayClaim_97 : decode cX7_mayClaim 97 = .ok (.iadd, 1) := by decide +kernel
theorem dX7_mayClaim_98 : decode cX7_mayClaim 98 = .ok (.iconst 4, 1) := by decide +kernel
theorem dX7_mayClaim_99 : decode cX7_mayClaim 99 = .ok (.irem, 1) := by decide +kernel
theorem dX7_mayClaim_100 : decode cX7_mayClaim 100 = .ok (.if_icmp .ne 25, 3) := by decide +kernel
theorem dX7_mayClaim_103 : decode cX7_mayClaim 103 = .ok (.iload_n 3, 1) := by decide +kernel
theorem dX7_mayClaim_104 : decode cX7_mayClaim 104 = .ok (.iconst 3, 1) := by decide +kernel
theorem dX7_mayClaim_105 : decode cX7_mayClaim 105 = .ok (.invokestatic 17, 3) := by decide +kernel
theorem dX7_mayClaim_108 : decode cX7_mayClaim 108 = .ok (.ifCond .eq 17, 3) := by decide +kernel
theorem dX7_mayClaim_111 : decode cX7_mayClaim 111 = .ok (.aload_n 0, 1) := by decide +kernel
theorem dX7_mayClaim_112 : decode cX7_mayClaim 112 = .ok (.getfield 62, 3) := by decide +kernel
theorem dX7_mayClaim_115 : decode cX7_mayClaim 115 = .ok (.iload_n 3, 1) := by decide +kernel
theorem dX7_mayClaim_116 : decode cX7_mayClaim 116 = .ok (.iload_n 3, 1) := by decide +kernel
theorem dX7_mayClaim_117 : decode cX7_mayClaim 117 = .ok (.iconst 2, 1) := by decide +kernel
theorem dX7_mayClaim_118 : decode cX7_mayClaim 118 = .ok (.iadd, 1) := by decide +kernel
theorem dX7_mayClaim_119 : decode cX7_mayClaim 119 = .ok (.invokestatic 3, 3) := by decide +kernel
theorem dX7_mayClaim_122 : decode cX7_mayClaim 122 = .ok (.ifCond .ne 5, 3) := by decide +kernel
theorem dX7_mayClaim_125 : decode cX7_mayClaim 125 = .ok (.iconst 0, 1) := by decide +kernel
theorem dX7_mayClaim_126 : decode cX7_mayClaim 126 = .ok (.ireturn, 1) := by decide +kernel
theorem dX7_mayClaim_127 : decode cX7_mayClaim 127 = .ok (.iload_n 3, 1) := by decide +kernel
theorem dX7_mayClaim_128 : decode cX7_mayClaim 128 = .ok (.istore 5, 2) := by decide +kernel
theorem dX7_mayClaim_130 : decode cX7_mayClaim 130 = .ok (.iload 5, 2) := by decide +kernel
theorem dX7_mayClaim_132 : decode cX7_mayClaim 132 = .ok (.iload_n 3, 1) := by decide +kernel
theorem dX7_mayClaim_133 : decode cX7_mayClaim 133 = .ok (.iconst 3, 1) := by decide +kernel
theorem dX7_mayClaim_134 : decode cX7_mayClaim 134 = .ok (.iadd, 1) := by decide +kernel
theorem dX7_mayClaim_135 : decode cX7_mayClaim 135 = .ok (.if_icmp .ge 28, 3) := by decide +kernel
theorem dX7_mayClaim_138 : decode cX7_mayClaim 138 = .ok (.iload 5, 2) := by decide +kernel
theorem dX7_mayClaim_140 : decode cX7_mayClaim 140 = .ok (.aload_n 0, 1) := by decide +kernel
theorem dX7_mayClaim_141 : decode cX7_mayClaim 141 = .ok (.getfield 62, 3) := by decide +kernel
theorem dX7_mayClaim_144 : decode cX7_mayClaim 144 = .ok (.if_icmp .eq 13, 3) := by decide +kernel
theorem dX7_mayClaim_147 : decode cX7_mayClaim 147 = .ok (.aload 4, 2) := by decide +kernel
theorem dX7_mayClaim_149 : decode cX7_mayClaim 149 = .ok (.iload 5, 2) := by decide +kernel
theorem dX7_mayClaim_151 : decode cX7_mayClaim 151 = .ok (.iaload, 1) := by decide +kernel
theorem dX7_mayClaim_152 : decode cX7_mayClaim 152 = .ok (.ifCond .ne 5, 3) := by decide +kernel
theorem dX7_mayClaim_155 : decode cX7_mayClaim 155 = .ok (.iconst 0, 1) := by decide +kernel
theorem dX7_mayClaim_156 : decode cX7_mayClaim 156 = .ok (.ireturn, 1) := by decide +kernel
theorem dX7_mayClaim_157 : decode cX7_mayClaim 157 = .ok (.iinc 5 1, 3) := by decide +kernel
theorem dX7_mayClaim_160 : decode cX7_mayClaim 160 = .ok (.goto (-30), 3) := by decide +kernel
theorem dX7_mayClaim_163 : decode cX7_mayClaim 163 = .ok (.iconst 1, 1) := by decide +kernel
theorem dX7_mayClaim_164 : decode cX7_mayClaim 164 = .ok (.ireturn, 1) := by decide +kernel
def f_X7_mayClaim_130 (n : Nat) (a0 : Nat) (i3 : Int32) (a4 : Nat) (i5 : Int32) (M : zM) : Option (Int32 × zM) := match n with
  | 0 => none
  | n + 1 =>
    if ((i3 + ((3 : Int32)))) ≤ i5 then
    some ((1 : Int32), M)
    else
    (gI 13 14 M a0).bind fun v1 =>
    if i5 = v1 then
    f_X7_mayClaim_130 n a0 i3 a4 ((i5 + (1 : Int32))) M
    else
    (lA 0 M a4 i5).bind fun v2 =>
    if v2 = 0 then
    some ((0 : Int32), M)
    else
    f_X7_mayClaim_130 n a0 i3 a4 ((i5 + (1 : Int32))) M
set_option maxRecDepth 20000 in
set_option maxHeartbeats 4000000 in
theorem s_X7_mayClaim_130 {L : zL} {X : zX} {M0 : zM} {N : Nat × Nat} {Q : State → Prop} {r : Int32 × zM} (hq : vQ L X M0 N Q (some (.int r.1)) r.2) {n : Nat} {a0 : Nat} {i3 : Int32} {a4 : Nat} {i5 : Int32} {M : zM} : f_X7_mayClaim_130 n a0 i3 a4 i5 M = some r → V L X yX7_mayClaim cX7_mayClaim 6 (some FieldType.boolean) 4 M0 N Q M 130 [(0, .ref (zad L (a0))), (3, .int (i3)), (4, .ref (zad L (a4))), (5, .int (i5))] [] := by
  induction n generalizing a0 i3 a4 i5 M with
  | zero =>
    intro h
    rw [f_X7_mayClaim_130] at h
    cases h
  | succ n ih0 =>
    intro h
    have ih : ∀ (a0 : Nat) (i3 : Int32) (a4 : Nat) (i5 : Int32) (M : zM), f_X7_mayClaim_130 n a0 i3 a4 i5 M = some r → V L X yX7_mayClaim cX7_mayClaim 6 (some FieldType.boolean) 4 M0 N Q M 130 [(0, .ref (zad L (a0))), (3, .int (i3)), (4, .ref (zad L (a4))), (5, .int (i5))] [] := fun a0 i3 a4 i5 M h => ih0 h
    rw [f_X7_mayClaim_130] at h
    refine V_iload dX7_mayClaim_130 3 rfl ?_
    refine V_iload_n dX7_mayClaim_132 rfl 1 rfl ?_
    refine V_iconst (v := 3) dX7_mayClaim_133 (by decide) ?_
    refine V_iadd dX7_mayClaim_134 ?_
    refine V_icmp_ge (tgt := 163) dX7_mayClaim_135 (by decide) (fun c5 => ?_) (fun c5 => ?_)
    · replace h := (oi h).1 c5
      refine V_iconst (v := 1) dX7_mayClaim_163 (by decide) ?_
      obtain rfl := Option.some.inj h
      exact V_zret (ty := .boolean) rfl rfl hq dX7_mayClaim_164
    · replace h := (oi h).2 c5
      refine V_iload dX7_mayClaim_138 3 rfl ?_
      refine V_aload_n dX7_mayClaim_140 rfl 0 rfl ?_
      replace h := ob h
      obtain ⟨v1, e_v1, h⟩ := h
      refine V_getI zf_13_14 zl_X7_62 e_v1 dX7_mayClaim_141 ?_
      refine V_pc (pc' := 144) rfl ?_
      refine V_icmp_eq (tgt := 157) dX7_mayClaim_144 (by decide) (fun c4 => ?_) (fun c4 => ?_)
      · replace h := (oi h).1 c4
        refine V_iinc (v := i5 + (1 : Int32)) (ls' := [(5, .int ((i5 + (1 : Int32)))), (0, .ref (zad L (a0))), (3, .int (i3)), (4, .ref (zad L (a4)))]) dX7_mayClaim_157 3 rfl (by rfl) (by decide) rfl ?_
        refine V_goto (tgt := 130) dX7_mayClaim_160 (by decide) ?_
        refine V_sub [1, 2, 3, 0] rfl ?_
        exact ih _ _ _ _ _ h
      · replace h := (oi h).2 c4
        refine V_aload dX7_mayClaim_147 2 rfl ?_
        refine V_iload dX7_mayClaim_149 3 rfl ?_
        replace h := ob h
        obtain ⟨v2, e_v2, h⟩ := h
        refine V_iald e_v2 dX7_mayClaim_151 ?_
        refine V_pc (pc' := 152) rfl ?_
        refine V_if_ne (tgt := 157) dX7_mayClaim_152 (by decide) (fun c3 => ?_) (fun c3 => ?_)
        · replace h := (oi h).2 c3
          refine V_iinc (v := i5 + (1 : Int32)) (ls' := [(5, .int ((i5 + (1 : Int32)))), (0, .ref (zad L (a0))), (3, .int (i3)), (4, .ref (zad L (a4)))]) dX7_mayClaim_157 3 rfl (by rfl) (by decide) rfl ?_
          refine V_goto (tgt := 130) dX7_mayClaim_160 (by decide) ?_
          refine V_sub [1, 2, 3, 0] rfl ?_
          exact ih _ _ _ _ _ h
        · replace h := (oi h).1 c3
          refine V_iconst (v := 0) dX7_mayClaim_155 (by decide) ?_
          obtain rfl := Option.some.inj h
          exact V_zret (ty := .boolean) rfl rfl hq dX7_mayClaim_156
def f_X7_mayClaim_0 (a0 : Nat) (i1 : Int32) (i2 : Int32) (i3 : Int32) (M : zM) : Option (Int32 × zM) :=
  (gI 13 6 M a0).bind fun v1 =>
  if v1 = ((2 : Int32)) then
  (gI 13 7 M a0).bind fun v2 =>
  if i1 = v2 then
  some ((0 : Int32), M)
  else
  (gR 13 1 M a0).bind fun v3 =>
  (lQ 2 M v3 i1).bind fun v4 =>
  (gI 12 6 M v4).bind fun v5 =>
  if v5 = 0 then
  (gR 13 1 M a0).bind fun v6 =>
  (lQ 2 M v6 i1).bind fun v7 =>
  (gR 12 2 M v7).bind fun v8 =>
  if i2 = 0 then
  (gI 13 14 M a0).bind fun v23 =>
  (lA 0 M v8 v23).bind fun v24 =>
  if v24 < ((2 : Int32)) then
  some ((0 : Int32), M)
  else
  some ((1 : Int32), M)
  else
  if i2 = ((2 : Int32)) then
  (gI 13 14 M a0).bind fun v16 =>
  (lA 0 M v8 v16).bind fun v17 =>
  if v17 < ((3 : Int32)) then
  some ((0 : Int32), M)
  else
  if mK M a0 = 13 then
  (f_X7_mayFour a0 M).bind fun r18 =>
  if r18.1 = 0 then
  some ((0 : Int32), r18.2)
  else
  some ((1 : Int32), r18.2)
  else none
  else
  (gI 13 7 M a0).bind fun v9 =>
  if i1 = ((zmd ((v9 + ((1 : Int32)))) ((4 : Int32)))) then
  (f_X7_isRun i3 ((3 : Int32)) M).bind fun r10 =>
  if r10.1 = 0 then
  some ((0 : Int32), r10.2)
  else
  (gI 13 14 r10.2 a0).bind fun v11 =>
  (f_X7_isIn v11 i3 ((i3 + ((2 : Int32)))) r10.2).bind fun r12 =>
  if r12.1 = 0 then
  some ((0 : Int32), r12.2)
  else
  f_X7_mayClaim_130 zN a0 i3 v8 i3 r12.2
  else
  some ((0 : Int32), M)
  else
  some ((0 : Int32), M)
  else
  some ((0 : Int32), M)
set_option maxRecDepth 20000 in
set_option maxHeartbeats 4000000 in
theorem s_X7_mayClaim_0 {L : zL} {X : zX} {M0 : zM} {N : Nat × Nat} {Q : State → Prop} {r : Int32 × zM} (hq : vQ L X M0 N Q (some (.int r.1)) r.2) {a0 : Nat} {i1 : Int32} {i2 : Int32} {i3 : Int32} {M : zM} (h : f_X7_mayClaim_0 a0 i1 i2 i3 M = some r) : V L X yX7_mayClaim cX7_mayClaim 6 (some FieldType.boolean) 4 M0 N Q M 0 [(0, .ref (zad L (a0))), (1, .int (i1)), (2, .int (i2)), (3, .int (i3))] [] := by
  unfold f_X7_mayClaim_0 at h
  refine V_aload_n dX7_mayClaim_0 rfl 0 rfl ?_
  replace h := ob h
  obtain ⟨v1, e_v1, h⟩ := h
  refine V_getI zf_13_6 zl_X7_50 e_v1 dX7_mayClaim_1 ?_
  refine V_pc (pc' := 4) rfl ?_
  refine V_iconst (v := 2) dX7_mayClaim_4 (by decide) ?_
  refine V_icmp_ne (tgt := 28) dX7_mayClaim_5 (by decide) (fun c29 => ?_) (fun c29 => ?_)
  · replace h := (oi h).2 c29
    refine V_iconst (v := 0) dX7_mayClaim_28 (by decide) ?_
    obtain rfl := Option.some.inj h
    exact V_zret (ty := .boolean) rfl rfl hq dX7_mayClaim_29
  · replace h := (oi h).1 c29
    refine V_iload_n dX7_mayClaim_8 rfl 1 rfl ?_
    refine V_aload_n dX7_mayClaim_9 rfl 0 rfl ?_
    replace h := ob h
    obtain ⟨v2, e_v2, h⟩ := h
    refine V_getI zf_13_7 zl_X7_82 e_v2 dX7_mayClaim_10 ?_
    refine V_pc (pc' := 13) rfl ?_
    refine V_icmp_eq (tgt := 28) dX7_mayClaim_13 (by decide) (fun c28 => ?_) (fun c28 => ?_)
    · replace h := (oi h).1 c28
      refine V_iconst (v := 0) dX7_mayClaim_28 (by decide) ?_
      obtain rfl := Option.some.inj h
      exact V_zret (ty := .boolean) rfl rfl hq dX7_mayClaim_29
    · replace h := (oi h).2 c28
      refine V_aload_n dX7_mayClaim_16 rfl 0 rfl ?_
      replace h := ob h
      obtain ⟨v3, e_v3, h⟩ := h
      refine V_getR zf_13_1 zl_X7_38 e_v3 dX7_mayClaim_17 ?_
      refine V_pc (pc' := 20) rfl ?_
      refine V_iload_n dX7_mayClaim_20 rfl 1 rfl ?_
      replace h := ob h
      obtain ⟨v4, e_v4, h⟩ := h
      refine V_aald (by decide) e_v4 dX7_mayClaim_21 ?_
      refine V_pc (pc' := 22) rfl ?_
      replace h := ob h
      obtain ⟨v5, e_v5, h⟩ := h
      refine V_getI zf_12_6 zl_X7_151 e_v5 dX7_mayClaim_22 ?_
      refine V_pc (pc' := 25) rfl ?_
      refine V_if_eq (tgt := 30) dX7_mayClaim_25 (by decide) (fun c27 => ?_) (fun c27 => ?_)
      · replace h := (oi h).1 c27
        refine V_aload_n dX7_mayClaim_30 rfl 0 rfl ?_
        replace h := ob h
        obtain ⟨v6, e_v6, h⟩ := h
        refine V_getR zf_13_1 zl_X7_38 e_v6 dX7_mayClaim_31 ?_
        refine V_pc (pc' := 34) rfl ?_
        refine V_iload_n dX7_mayClaim_34 rfl 1 rfl ?_
        replace h := ob h
        obtain ⟨v7, e_v7, h⟩ := h
        refine V_aald (by decide) e_v7 dX7_mayClaim_35 ?_
        refine V_pc (pc' := 36) rfl ?_
        replace h := ob h
        obtain ⟨v8, e_v8, h⟩ := h
        refine V_getR zf_12_2 zl_X7_94 e_v8 dX7_mayClaim_36 ?_
        refine V_pc (pc' := 39) rfl ?_
        refine V_astore (ls' := [(4, .ref (zad L (v8))), (0, .ref (zad L (a0))), (1, .int (i1)), (2, .int (i2)), (3, .int (i3))]) dX7_mayClaim_39 (by decide) rfl ?_
        refine V_iload_n dX7_mayClaim_41 rfl 3 rfl ?_
        refine V_if_ne (tgt := 62) dX7_mayClaim_42 (by decide) (fun c26 => ?_) (fun c26 => ?_)
        · replace h := (oi h).2 c26
          refine V_iload_n dX7_mayClaim_62 rfl 3 rfl ?_
          refine V_iconst (v := 2) dX7_mayClaim_63 (by decide) ?_
          refine V_icmp_ne (tgt := 91) dX7_mayClaim_64 (by decide) (fun c22 => ?_) (fun c22 => ?_)
          · replace h := (oi h).2 c22
            refine V_iload_n dX7_mayClaim_91 rfl 2 rfl ?_
            refine V_aload_n dX7_mayClaim_92 rfl 1 rfl ?_
            replace h := ob h
            obtain ⟨v9, e_v9, h⟩ := h
            refine V_getI zf_13_7 zl_X7_82 e_v9 dX7_mayClaim_93 ?_
            refine V_pc (pc' := 96) rfl ?_
            refine V_iconst (v := 1) dX7_mayClaim_96 (by decide) ?_
            refine V_iadd dX7_mayClaim_97 ?_
            refine V_iconst (v := 4) dX7_mayClaim_98 (by decide) ?_
            refine V_irem dX7_mayClaim_99 (by decide) ?_
            refine V_icmp_ne (tgt := 125) dX7_mayClaim_100 (by decide) (fun c15 => ?_) (fun c15 => ?_)
            · replace h := (oi h).2 c15
              refine V_iconst (v := 0) dX7_mayClaim_125 (by decide) ?_
              obtain rfl := Option.some.inj h
              exact V_zret (ty := .boolean) rfl rfl hq dX7_mayClaim_126
            · replace h := (oi h).1 c15
              refine V_iload_n dX7_mayClaim_103 rfl 4 rfl ?_
              refine V_iconst (v := 3) dX7_mayClaim_104 (by decide) ?_
              replace h := ob h
              obtain ⟨r10, e_r10, h⟩ := h
              refine V_callS_I (As := [.int (i3), .int ((3 : Int32))]) (rest := []) (c_X7_isRun e_r10) zc_X7_isRun rfl (by decide) zm_X7_17 (Nat.le_of_ble_eq_true rfl) rfl dX7_mayClaim_105 ?_
              refine V_pc (pc' := 108) rfl ?_
              refine V_if_eq (tgt := 125) dX7_mayClaim_108 (by decide) (fun c14 => ?_) (fun c14 => ?_)
              · replace h := (oi h).1 c14
                refine V_iconst (v := 0) dX7_mayClaim_125 (by decide) ?_
                obtain rfl := Option.some.inj h
                exact V_zret (ty := .boolean) rfl rfl hq dX7_mayClaim_126
              · replace h := (oi h).2 c14
                refine V_aload_n dX7_mayClaim_111 rfl 1 rfl ?_
                replace h := ob h
                obtain ⟨v11, e_v11, h⟩ := h
                refine V_getI zf_13_14 zl_X7_62 e_v11 dX7_mayClaim_112 ?_
                refine V_pc (pc' := 115) rfl ?_
                refine V_iload_n dX7_mayClaim_115 rfl 4 rfl ?_
                refine V_iload_n dX7_mayClaim_116 rfl 4 rfl ?_
                refine V_iconst (v := 2) dX7_mayClaim_117 (by decide) ?_
                refine V_iadd dX7_mayClaim_118 ?_
                replace h := ob h
                obtain ⟨r12, e_r12, h⟩ := h
                refine V_callS_I (As := [.int (v11), .int (i3), .int ((i3 + ((2 : Int32))))]) (rest := []) (c_X7_isIn e_r12) zc_X7_isIn rfl (by decide) zm_X7_3 (Nat.le_of_ble_eq_true rfl) rfl dX7_mayClaim_119 ?_
                refine V_pc (pc' := 122) rfl ?_
                refine V_if_ne (tgt := 127) dX7_mayClaim_122 (by decide) (fun c13 => ?_) (fun c13 => ?_)
                · replace h := (oi h).2 c13
                  refine V_iload_n dX7_mayClaim_127 rfl 4 rfl ?_
                  refine V_istore (ls' := [(5, .int (i3)), (4, .ref (zad L (v8))), (0, .ref (zad L (a0))), (1, .int (i1)), (2, .int (i2)), (3, .int (i3))]) dX7_mayClaim_128 (by decide) rfl ?_
                  refine V_sub [2, 5, 1, 0] rfl ?_
                  exact s_X7_mayClaim_130 hq h
                · replace h := (oi h).1 c13
                  refine V_iconst (v := 0) dX7_mayClaim_125 (by decide) ?_
                  obtain rfl := Option.some.inj h
                  exact V_zret (ty := .boolean) rfl rfl hq dX7_mayClaim_126
          · replace h := (oi h).1 c22
            refine V_aload dX7_mayClaim_67 0 rfl ?_
            refine V_aload_n dX7_mayClaim_69 rfl 1 rfl ?_
            replace h := ob h
            obtain ⟨v16, e_v16, h⟩ := h
            refine V_getI zf_13_14 zl_X7_62 e_v16 dX7_mayClaim_70 ?_
            refine V_pc (pc' := 73) rfl ?_
            replace h := ob h
            obtain ⟨v17, e_v17, h⟩ := h
            refine V_iald e_v17 dX7_mayClaim_73 ?_
            refine V_pc (pc' := 74) rfl ?_
            refine V_iconst (v := 3) dX7_mayClaim_74 (by decide) ?_
            refine V_icmp_lt (tgt := 89) dX7_mayClaim_75 (by decide) (fun c21 => ?_) (fun c21 => ?_)
            · replace h := (oi h).1 c21
              refine V_iconst (v := 0) dX7_mayClaim_89 (by decide) ?_
              obtain rfl := Option.some.inj h
              exact V_zret (ty := .boolean) rfl rfl hq dX7_mayClaim_90
            · replace h := (oi h).2 c21
              refine V_aload_n dX7_mayClaim_78 rfl 1 rfl ?_
              replace h := ox h
              obtain ⟨c19, h⟩ := h
              replace h := ob h
              obtain ⟨r18, e_r18, h⟩ := h
              refine V_callV_I (As := []) (rest := []) (c_X7_mayFour e_r18) zc_X7_mayFour rfl (by decide) rfl (by decide) (Or.inl c19) zm_X7_167 (Nat.le_of_ble_eq_true rfl) rfl dX7_mayClaim_79 ?_
              refine V_pc (pc' := 82) rfl ?_
              refine V_if_eq (tgt := 89) dX7_mayClaim_82 (by decide) (fun c20 => ?_) (fun c20 => ?_)
              · replace h := (oi h).1 c20
                refine V_iconst (v := 0) dX7_mayClaim_89 (by decide) ?_
                obtain rfl := Option.some.inj h
                exact V_zret (ty := .boolean) rfl rfl hq dX7_mayClaim_90
              · replace h := (oi h).2 c20
                refine V_iconst (v := 1) dX7_mayClaim_85 (by decide) ?_
                refine V_goto (tgt := 90) dX7_mayClaim_86 (by decide) ?_
                obtain rfl := Option.some.inj h
                exact V_zret (ty := .boolean) rfl rfl hq dX7_mayClaim_90
        · replace h := (oi h).1 c26
          refine V_aload dX7_mayClaim_45 0 rfl ?_
          refine V_aload_n dX7_mayClaim_47 rfl 1 rfl ?_
          replace h := ob h
          obtain ⟨v23, e_v23, h⟩ := h
          refine V_getI zf_13_14 zl_X7_62 e_v23 dX7_mayClaim_48 ?_
          refine V_pc (pc' := 51) rfl ?_
          replace h := ob h
          obtain ⟨v24, e_v24, h⟩ := h
          refine V_iald e_v24 dX7_mayClaim_51 ?_
          refine V_pc (pc' := 52) rfl ?_
          refine V_iconst (v := 2) dX7_mayClaim_52 (by decide) ?_
          refine V_icmp_lt (tgt := 60) dX7_mayClaim_53 (by decide) (fun c25 => ?_) (fun c25 => ?_)
          · replace h := (oi h).1 c25
            refine V_iconst (v := 0) dX7_mayClaim_60 (by decide) ?_
            obtain rfl := Option.some.inj h
            exact V_zret (ty := .boolean) rfl rfl hq dX7_mayClaim_61
          · replace h := (oi h).2 c25
            refine V_iconst (v := 1) dX7_mayClaim_56 (by decide) ?_
            refine V_goto (tgt := 61) dX7_mayClaim_57 (by decide) ?_
            obtain rfl := Option.some.inj h
            exact V_zret (ty := .boolean) rfl rfl hq dX7_mayClaim_61
      · replace h := (oi h).2 c27
        refine V_iconst (v := 0) dX7_mayClaim_28 (by decide) ?_
        obtain rfl := Option.some.inj h
        exact V_zret (ty := .boolean) rfl rfl hq dX7_mayClaim_29
def f_X7_mayClaim (a0 : Nat) (i1 : Int32) (i2 : Int32) (i3 : Int32) (M : zM) : Option (Int32 × zM) := f_X7_mayClaim_0 a0 i1 i2 i3 M
theorem c_X7_mayClaim {L : zL} {l : Launch} {a0 : Nat} {i1 : Int32} {i2 : Int32} {i3 : Int32} {M : zM} {r : Int32 × zM} (h : f_X7_mayClaim a0 i1 i2 i3 M = some r) : CP L l yX7_mayClaim cX7_mayClaim 6 (some FieldType.boolean) 4 M [.ref (zad L (a0)), .int (i1), .int (i2), .int (i3)] (some (.int r.1)) r.2 :=
  CP.of ⟨by decide +kernel, by decide +kernel⟩ (Nat.le_of_ble_eq_true rfl) fun X Q hq => s_X7_mayClaim_0 hq h
/-! java/util/Objects.checkIndex(II)I -/
theorem dJ15_checkIndex_7cf53_0 : decode cJ15_checkIndex_7cf53 0 = .ok (.iload_n 0, 1) := by decide +kernel
theorem dJ15_checkIndex_7cf53_1 : decode cJ15_checkIndex_7cf53 1 = .ok (.iload_n 1, 1) := by decide +kernel
theorem dJ15_checkIndex_7cf53_2 : decode cJ15_checkIndex_7cf53 2 = .ok (.aconst_null, 1) := by decide +kernel
theorem dJ15_checkIndex_7cf53_3 : decode cJ15_checkIndex_7cf53 3 = .ok (.invokestatic 105, 3) := by decide +kernel
theorem dJ15_checkIndex_7cf53_6 : decode cJ15_checkIndex_7cf53 6 = .ok (.ireturn, 1) := by decide +kernel
def f_J15_checkIndex_7cf53_0 (i0 : Int32) (i1 : Int32) (M : zM) : Option (Int32 × zM) :=
  (f_J3_checkIndex_8e157 i0 i1 M).bind fun r1 =>
  some (r1.1, r1.2)
set_option maxRecDepth 20000 in
set_option maxHeartbeats 4000000 in
theorem s_J15_checkIndex_7cf53_0 {L : zL} {X : zX} {M0 : zM} {N : Nat × Nat} {Q : State → Prop} {r : Int32 × zM} (hq : vQ L X M0 N Q (some (.int r.1)) r.2) {i0 : Int32} {i1 : Int32} {M : zM} (h : f_J15_checkIndex_7cf53_0 i0 i1 M = some r) : V L X yJ15_checkIndex_7cf53 cJ15_checkIndex_7cf53 2 (some FieldType.int) 2 M0 N Q M 0 [(0, .int (i0)), (1, .int (i1))] [] := by
  unfold f_J15_checkIndex_7cf53_0 at h
  refine V_iload_n dJ15_checkIndex_7cf53_0 rfl 0 rfl ?_
  refine V_iload_n dJ15_checkIndex_7cf53_1 rfl 1 rfl ?_
  refine V_null dJ15_checkIndex_7cf53_2 ?_
  replace h := ob h
  obtain ⟨r1, e_r1, h⟩ := h
  refine V_callS_I (As := [.int (i0), .int (i1), va_rf (none)]) (rest := []) (c_J3_checkIndex_8e157 e_r1) zc_J3_checkIndex_8e157 rfl (by decide) zm_J15_105 (Nat.le_of_ble_eq_true rfl) rfl dJ15_checkIndex_7cf53_3 ?_
  refine V_pc (pc' := 6) rfl ?_
  obtain rfl := Option.some.inj h
  exact V_iret rfl hq dJ15_checkIndex_7cf53_6
def f_J15_checkIndex_7cf53 (i0 : Int32) (i1 : Int32) (M : zM) : Option (Int32 × zM) := f_J15_checkIndex_7cf53_0 i0 i1 M
theorem c_J15_checkIndex_7cf53 {L : zL} {l : Launch} {i0 : Int32} {i1 : Int32} {M : zM} {r : Int32 × zM} (h : f_J15_checkIndex_7cf53 i0 i1 M = some r) : CP L l yJ15_checkIndex_7cf53 cJ15_checkIndex_7cf53 2 (some FieldType.int) 2 M [.int (i0), .int (i1)] (some (.int r.1)) r.2 :=
  CP.of ⟨by decide +kernel, by decide +kernel⟩ (Nat.le_of_ble_eq_true rfl) fun X Q hq => s_J15_checkIndex_7cf53_0 hq h
/-! java/util/ArrayList.fastRemove([Ljava/lang/Object;I)V -/
theorem dJx4a65c_fastRemove_b59b0_0 : decode cJx4a65c_fastRemove_b59b0 0 = .ok (.aload_n 0, 1) := by decide +kernel
theorem dJx4a65c_fastRemove_b59b0_1 : decode cJx4a65c_fastRemove_b59b0 1 = .ok (.dup, 1) := by decide +kernel
theorem dJx4a65c_fastRemove_b59b0_2 : decode cJx4a65c_fastRemove_b59b0 2 = .ok (.getfield 63, 3) := by decide +kernel
theorem dJx4a65c_fastRemove_b59b0_5 : decode cJx4a65c_fastRemove_b59b0 5 = .ok (.iconst 1, 1) := by decide +kernel
theorem dJx4a65c_fastRemove_b59b0_6 : decode cJx4a65c_fastRemove_b59b0 6 = .ok (.iadd, 1) := by decide +kernel
theorem dJx4a65c_fastRemove_b59b0_7 : decode cJx4a65c_fastRemove_b59b0 7 = .ok (.putfield 63, 3) := by decide +kernel
theorem dJx4a65c_fastRemove_b59b0_10 : decode cJx4a65c_fastRemove_b59b0 10 = .ok (.aload_n 0, 1) := by decide +kernel
theorem dJx4a65c_fastRemove_b59b0_11 : decode cJx4a65c_fastRemove_b59b0 11 = .ok (.getfield 48, 3) := by decide +kernel
theorem dJx4a65c_fastRemove_b59b0_14 : decode cJx4a65c_fastRemove_b59b0 14 = .ok (.iconst 1, 1) := by decide +kernel
theorem dJx4a65c_fastRemove_b59b0_15 : decode cJx4a65c_fastRemove_b59b0 15 = .ok (.isub, 1) := by decide +kernel
theorem dJx4a65c_fastRemove_b59b0_16 : decode cJx4a65c_fastRemove_b59b0 16 = .ok (.dup, 1) := by decide +kernel
theorem dJx4a65c_fastRemove_b59b0_17 : decode cJx4a65c_fastRemove_b59b0 17 = .ok (.istore_n 3, 1) := by decide +kernel
theorem dJx4a65c_fastRemove_b59b0_18 : decode cJx4a65c_fastRemove_b59b0 18 = .ok (.iload_n 2, 1) := by decide +kernel
theorem dJx4a65c_fastRemove_b59b0_19 : decode cJx4a65c_fastRemove_b59b0 19 = .ok (.if_icmp .le 15, 3) := by decide +kernel
theorem dJx4a65c_fastRemove_b59b0_22 : decode cJx4a65c_fastRemove_b59b0 22 = .ok (.aload_n 1, 1) := by decide +kernel
theorem dJx4a65c_fastRemove_b59b0_23 : decode cJx4a65c_fastRemove_b59b0 23 = .ok (.iload_n 2, 1) := by decide +kernel
theorem dJx4a65c_fastRemove_b59b0_24 : decode cJx4a65c_fastRemove_b59b0 24 = .ok (.iconst 1, 1) := by decide +kernel
theorem dJx4a65c_fastRemove_b59b0_25 : decode cJx4a65c_fastRemove_b59b0 25 = .ok (.iadd, 1) := by decide +kernel
theorem dJx4a65c_fastRemove_b59b0_26 : decode cJx4a65c_fastRemove_b59b0 26 = .ok (.aload_n 1, 1) := by decide +kernel
theorem dJx4a65c_fastRemove_b59b0_27 : decode cJx4a65c_fastRemove_b59b0 27 = .ok (.iload_n 2, 1) := by decide +kernel
theorem dJx4a65c_fastRemove_b59b0_28 : decode cJx4a65c_fastRemove_b59b0 28 = .ok (.iload_n 3, 1) := by decide +kernel
theorem dJx4a65c_fastRemove_b59b0_29 : decode cJx4a65c_fastRemove_b59b0 29 = .ok (.iload_n 2, 1) := by decide +kernel
theorem dJx4a65c_fastRemove_b59b0_30 : decode cJx4a65c_fastRemove_b59b0 30 = .ok (.isub, 1) := by decide +kernel
theorem dJx4a65c_fastRemove_b59b0_31 : decode cJx4a65c_fastRemove_b59b0 31 = .ok (.invokestatic 112, 3) := by decide +kernel
theorem dJx4a65c_fastRemove_b59b0_34 : decode cJx4a65c_fastRemove_b59b0 34 = .ok (.aload_n 1, 1) := by decide +kernel
theorem dJx4a65c_fastRemove_b59b0_35 : decode cJx4a65c_fastRemove_b59b0 35 = .ok (.aload_n 0, 1) := by decide +kernel
theorem dJx4a65c_fastRemove_b59b0_36 : decode cJx4a65c_fastRemove_b59b0 36 = .ok (.iload_n 3, 1) := by decide +kernel
theorem dJx4a65c_fastRemove_b59b0_37 : decode cJx4a65c_fastRemove_b59b0 37 = .ok (.dup_x1, 1) := by decide +kernel
theorem dJx4a65c_fastRemove_b59b0_38 : decode cJx4a65c_fastRemove_b59b0 38 = .ok (.putfield 48, 3) := by decide +kernel
theorem dJx4a65c_fastRemove_b59b0_41 : decode cJx4a65c_fastRemove_b59b0 41 = .ok (.aconst_null, 1) := by decide +kernel
theorem dJx4a65c_fastRemove_b59b0_42 : decode cJx4a65c_fastRemove_b59b0 42 = .ok (.aastore, 1) := by decide +kernel
theorem dJx4a65c_fastRemove_b59b0_43 : decode cJx4a65c_fastRemove_b59b0 43 = .ok (.return_, 1) := by decide +kernel
def f_Jx4a65c_fastRemove_b59b0_34 (a0 : Nat) (a1 : Nat) (i3 : Int32) (M : zM) : Option (Unit × zM) :=
  (pI 5 2 M a0 i3).bind fun M1 =>
  (tQ 0 M1 a1 i3 none).bind fun M2 =>
  some ((), M2)
set_option maxRecDepth 20000 in
set_option maxHeartbeats 4000000 in
theorem s_Jx4a65c_fastRemove_b59b0_34 {L : zL} {X : zX} {M0 : zM} {N : Nat × Nat} {Q : State → Prop} {r : Unit × zM} (hq : vQ L X M0 N Q none r.2) {a0 : Nat} {a1 : Nat} {i3 : Int32} {M : zM} (h : f_Jx4a65c_fastRemove_b59b0_34 a0 a1 i3 M = some r) : V L X yJx4a65c_fastRemove_b59b0 cJx4a65c_fastRemove_b59b0 4 (none : Option FieldType) 1 M0 N Q M 34 [(0, .ref (zad L (a0))), (1, .ref (zad L (a1))), (3, .int (i3))] [] := by
  unfold f_Jx4a65c_fastRemove_b59b0_34 at h
  refine V_aload_n dJx4a65c_fastRemove_b59b0_34 rfl 1 rfl ?_
  refine V_aload_n dJx4a65c_fastRemove_b59b0_35 rfl 0 rfl ?_
  refine V_iload_n dJx4a65c_fastRemove_b59b0_36 rfl 2 rfl ?_
  refine V_dup_x1 dJx4a65c_fastRemove_b59b0_37 rfl rfl ?_
  replace h := ob h
  obtain ⟨M1, e_M1, h⟩ := h
  refine V_putI zf_5_2 zl_Jx4a65c_48 (Or.inl rfl) rfl e_M1 dJx4a65c_fastRemove_b59b0_38 ?_
  refine V_pc (pc' := 41) rfl ?_
  refine V_null dJx4a65c_fastRemove_b59b0_41 ?_
  replace h := ob h
  obtain ⟨M2, e_M2, h⟩ := h
  refine V_aastN (by decide) e_M2 dJx4a65c_fastRemove_b59b0_42 ?_
  obtain rfl := Option.some.inj h
  exact V_vret rfl hq dJx4a65c_fastRemove_b59b0_43
def f_Jx4a65c_fastRemove_b59b0_0 (a0 : Nat) (a1 : Nat) (i2 : Int32) (M : zM) : Option (Unit × zM) :=
  (gI 5 0 M a0).bind fun v1 =>
  (pI 5 0 M a0 ((v1 + ((1 : Int32))))).bind fun M2 =>
  (gI 5 2 M2 a0).bind fun v3 =>
  if ((v3 - ((1 : Int32)))) ≤ i2 then
  f_Jx4a65c_fastRemove_b59b0_34 a0 a1 ((v3 - ((1 : Int32)))) M2
  else
  (yQ M2 a1 ((i2 + ((1 : Int32)))) a1 i2 ((((v3 - ((1 : Int32)))) - i2))).bind fun M4 =>
  f_Jx4a65c_fastRemove_b59b0_34 a0 a1 ((v3 - ((1 : Int32)))) M4
set_option maxRecDepth 20000 in
set_option maxHeartbeats 4000000 in
theorem s_Jx4a65c_fastRemove_b59b0_0 {L : zL} {X : zX} {M0 : zM} {N : Nat × Nat} {Q : State → Prop} {r : Unit × zM} (hq : vQ L X M0 N Q none r.2) {a0 : Nat} {a1 : Nat} {i2 : Int32} {M : zM} (h : f_Jx4a65c_fastRemove_b59b0_0 a0 a1 i2 M = some r) : V L X yJx4a65c_fastRemove_b59b0 cJx4a65c_fastRemove_b59b0 4 (none : Option FieldType) 1 M0 N Q M 0 [(0, .ref (zad L (a0))), (1, .ref (zad L (a1))), (2, .int (i2))] [] := by
  unfold f_Jx4a65c_fastRemove_b59b0_0 at h
  refine V_aload_n dJx4a65c_fastRemove_b59b0_0 rfl 0 rfl ?_
  refine V_dup dJx4a65c_fastRemove_b59b0_1 rfl ?_
  replace h := ob h
  obtain ⟨v1, e_v1, h⟩ := h
  refine V_getI zf_5_0 zl_Jx4a65c_63 e_v1 dJx4a65c_fastRemove_b59b0_2 ?_
  refine V_pc (pc' := 5) rfl ?_
  refine V_iconst (v := 1) dJx4a65c_fastRemove_b59b0_5 (by decide) ?_
  refine V_iadd dJx4a65c_fastRemove_b59b0_6 ?_
  replace h := ob h
  obtain ⟨M2, e_M2, h⟩ := h
  refine V_putI zf_5_0 zl_Jx4a65c_63 (Or.inl rfl) rfl e_M2 dJx4a65c_fastRemove_b59b0_7 ?_
  refine V_pc (pc' := 10) rfl ?_
  refine V_aload_n dJx4a65c_fastRemove_b59b0_10 rfl 0 rfl ?_
  replace h := ob h
  obtain ⟨v3, e_v3, h⟩ := h
  refine V_getI zf_5_2 zl_Jx4a65c_48 e_v3 dJx4a65c_fastRemove_b59b0_11 ?_
  refine V_pc (pc' := 14) rfl ?_
  refine V_iconst (v := 1) dJx4a65c_fastRemove_b59b0_14 (by decide) ?_
  refine V_isub dJx4a65c_fastRemove_b59b0_15 ?_
  refine V_dup dJx4a65c_fastRemove_b59b0_16 rfl ?_
  refine V_istore_n (ls' := [(3, .int ((v3 - ((1 : Int32))))), (0, .ref (zad L (a0))), (1, .ref (zad L (a1))), (2, .int (i2))]) dJx4a65c_fastRemove_b59b0_17 rfl (by decide) rfl ?_
  refine V_iload_n dJx4a65c_fastRemove_b59b0_18 rfl 3 rfl ?_
  refine V_icmp_le (tgt := 34) dJx4a65c_fastRemove_b59b0_19 (by decide) (fun c5 => ?_) (fun c5 => ?_)
  · replace h := (oi h).1 c5
    refine V_sub [1, 2, 0] rfl ?_
    exact s_Jx4a65c_fastRemove_b59b0_34 hq h
  · replace h := (oi h).2 c5
    refine V_aload_n dJx4a65c_fastRemove_b59b0_22 rfl 2 rfl ?_
    refine V_iload_n dJx4a65c_fastRemove_b59b0_23 rfl 3 rfl ?_
    refine V_iconst (v := 1) dJx4a65c_fastRemove_b59b0_24 (by decide) ?_
    refine V_iadd dJx4a65c_fastRemove_b59b0_25 ?_
    refine V_aload_n dJx4a65c_fastRemove_b59b0_26 rfl 2 rfl ?_
    refine V_iload_n dJx4a65c_fastRemove_b59b0_27 rfl 3 rfl ?_
    refine V_iload_n dJx4a65c_fastRemove_b59b0_28 rfl 0 rfl ?_
    refine V_iload_n dJx4a65c_fastRemove_b59b0_29 rfl 3 rfl ?_
    refine V_isub dJx4a65c_fastRemove_b59b0_30 ?_
    replace h := ob h
    obtain ⟨M4, e_M4, h⟩ := h
    refine V_copyQ e_M4 zgo_11_0 zgo_3_0 zac_Jx4a65c_112 (by decide) (Nat.le_of_ble_eq_true rfl) dJx4a65c_fastRemove_b59b0_31 ?_
    refine V_sub [1, 2, 0] rfl ?_
    exact s_Jx4a65c_fastRemove_b59b0_34 hq h
def f_Jx4a65c_fastRemove_b59b0 (a0 : Nat) (a1 : Nat) (i2 : Int32) (M : zM) : Option (Unit × zM) := f_Jx4a65c_fastRemove_b59b0_0 a0 a1 i2 M
theorem c_Jx4a65c_fastRemove_b59b0 {L : zL} {l : Launch} {a0 : Nat} {a1 : Nat} {i2 : Int32} {M : zM} {r : Unit × zM} (h : f_Jx4a65c_fastRemove_b59b0 a0 a1 i2 M = some r) : CP L l yJx4a65c_fastRemove_b59b0 cJx4a65c_fastRemove_b59b0 4 (none : Option FieldType) 1 M [.ref (zad L (a0)), .ref (zad L (a1)), .int (i2)] none r.2 :=
  CP.of ⟨by decide +kernel, by decide +kernel⟩ (Nat.le_of_ble_eq_true rfl) fun X Q hq => s_Jx4a65c_fastRemove_b59b0_0 hq h
/-! java/util/ArrayList.remove(I)Ljava/lang/Object; -/
theorem dJx4a65c_remove_915e3_0 : decode cJx4a65c_remove_915e3 0 = .ok (.iload_n 1, 1) := by decide +kernel
theorem dJx4a65c_remove_915e3_1 : decode cJx4a65c_remove_915e3 1 = .ok (.aload_n 0, 1) := by decide +kernel
theorem dJx4a65c_remove_915e3_2 : decode cJx4a65c_remove_915e3 2 = .ok (.getfield 48, 3) := by decide +kernel
theorem dJx4a65c_remove_915e3_5 : decode cJx4a65c_remove_915e3 5 = .ok (.invokestatic 118, 3) := by decide +kernel
theorem dJx4a65c_remove_915e3_8 : decode cJx4a65c_remove_915e3 8 = .ok (.pop, 1) := by decide +kernel
theorem dJx4a65c_remove_915e3_9 : decode cJx4a65c_remove_915e3 9 = .ok (.aload_n 0, 1) := by decide +kernel
theorem dJx4a65c_remove_915e3_10 : decode cJx4a65c_remove_915e3 10 = .ok (.getfield 9, 3) := by decide +kernel
theorem dJx4a65c_remove_915e3_13 : decode cJx4a65c_remove_915e3 13 = .ok (.astore_n 2, 1) := by decide +kernel
theorem dJx4a65c_remove_915e3_14 : decode cJx4a65c_remove_915e3 14 = .ok (.aload_n 2, 1) := by decide +kernel
theorem dJx4a65c_remove_915e3_15 : decode cJx4a65c_remove_915e3 15 = .ok (.iload_n 1, 1) := by decide +kernel
theorem dJx4a65c_remove_915e3_16 : decode cJx4a65c_remove_915e3 16 = .ok (.aaload, 1) := by decide +kernel
theorem dJx4a65c_remove_915e3_17 : decode cJx4a65c_remove_915e3 17 = .ok (.astore_n 3, 1) := by decide +kernel
theorem dJx4a65c_remove_915e3_18 : decode cJx4a65c_remove_915e3 18 = .ok (.aload_n 0, 1) := by decide +kernel
theorem dJx4a65c_remove_915e3_19 : decode cJx4a65c_remove_915e3 19 = .ok (.aload_n 2, 1) := by decide +kernel
theorem dJx4a65c_remove_915e3_20 : decode cJx4a65c_remove_915e3 20 = .ok (.iload_n 1, 1) := by decide +kernel
theorem dJx4a65c_remove_915e3_21 : decode cJx4a65c_remove_915e3 21 = .ok (.invokevirtual 144, 3) := by decide +kernel
theorem dJx4a65c_remove_915e3_24 : decode cJx4a65c_remove_915e3 24 = .ok (.aload_n 3, 1) := by decide +kernel
theorem dJx4a65c_remove_915e3_25 : decode cJx4a65c_remove_915e3 25 = .ok (.areturn, 1) := by decide +kernel
def f_Jx4a65c_remove_915e3_0 (a0 : Nat) (i1 : Int32) (M : zM) : Option (Nat × zM) :=
  (gI 5 2 M a0).bind fun v1 =>
  (f_J15_checkIndex_7cf53 i1 v1 M).bind fun r2 =>
  (gR 5 1 r2.2 a0).bind fun v3 =>
  (lQ 0 r2.2 v3 i1).bind fun v4 =>
  if mK r2.2 a0 = 5 then
  (f_Jx4a65c_fastRemove_b59b0 a0 v3 i1 r2.2).bind fun r5 =>
  some (v4, r5.2)
  else none
set_option maxRecDepth 20000 in
set_option maxHeartbeats 4000000 in
theorem s_Jx4a65c_remove_915e3_0 {L : zL} {X : zX} {M0 : zM} {N : Nat × Nat} {Q : State → Prop} {r : Nat × zM} (hq : vQ L X M0 N Q (some (.ref (zad L r.1))) r.2) {a0 : Nat} {i1 : Int32} {M : zM} (h : f_Jx4a65c_remove_915e3_0 a0 i1 M = some r) : V L X yJx4a65c_remove_915e3 cJx4a65c_remove_915e3 4 (Option.some (FieldType.object "java/lang/Object")) 3 M0 N Q M 0 [(0, .ref (zad L (a0))), (1, .int (i1))] [] := by
  unfold f_Jx4a65c_remove_915e3_0 at h
  refine V_iload_n dJx4a65c_remove_915e3_0 rfl 1 rfl ?_
  refine V_aload_n dJx4a65c_remove_915e3_1 rfl 0 rfl ?_
  replace h := ob h
  obtain ⟨v1, e_v1, h⟩ := h
  refine V_getI zf_5_2 zl_Jx4a65c_48 e_v1 dJx4a65c_remove_915e3_2 ?_
  refine V_pc (pc' := 5) rfl ?_
  replace h := ob h
  obtain ⟨r2, e_r2, h⟩ := h
  refine V_callS_I (As := [.int (i1), .int (v1)]) (rest := []) (c_J15_checkIndex_7cf53 e_r2) zc_J15_checkIndex_7cf53 rfl (by decide) zm_Jx4a65c_118 (Nat.le_of_ble_eq_true rfl) rfl dJx4a65c_remove_915e3_5 ?_
  refine V_pc (pc' := 8) rfl ?_
  refine V_pop dJx4a65c_remove_915e3_8 rfl ?_
  refine V_aload_n dJx4a65c_remove_915e3_9 rfl 0 rfl ?_
  replace h := ob h
  obtain ⟨v3, e_v3, h⟩ := h
  refine V_getR zf_5_1 zl_Jx4a65c_9 e_v3 dJx4a65c_remove_915e3_10 ?_
  refine V_pc (pc' := 13) rfl ?_
  refine V_astore_n (ls' := [(2, .ref (zad L (v3))), (0, .ref (zad L (a0))), (1, .int (i1))]) dJx4a65c_remove_915e3_13 rfl (by decide) rfl ?_
  refine V_aload_n dJx4a65c_remove_915e3_14 rfl 0 rfl ?_
  refine V_iload_n dJx4a65c_remove_915e3_15 rfl 2 rfl ?_
  replace h := ob h
  obtain ⟨v4, e_v4, h⟩ := h
  refine V_aald (by decide) e_v4 dJx4a65c_remove_915e3_16 ?_
  refine V_pc (pc' := 17) rfl ?_
  refine V_astore_n (ls' := [(3, .ref (zad L (v4))), (2, .ref (zad L (v3))), (0, .ref (zad L (a0))), (1, .int (i1))]) dJx4a65c_remove_915e3_17 rfl (by decide) rfl ?_
  refine V_aload_n dJx4a65c_remove_915e3_18 rfl 2 rfl ?_
  refine V_aload_n dJx4a65c_remove_915e3_19 rfl 1 rfl ?_
  refine V_iload_n dJx4a65c_remove_915e3_20 rfl 3 rfl ?_
  replace h := ox h
  obtain ⟨c6, h⟩ := h
  replace h := ob h
  obtain ⟨r5, e_r5, h⟩ := h
  refine V_callV_V (As := [.ref (zad L (v3)), .int (i1)]) (rest := []) (c_Jx4a65c_fastRemove_b59b0 e_r5) zc_Jx4a65c_fastRemove_b59b0 rfl (by decide) rfl (by decide) (Or.inl c6) zm_Jx4a65c_144 (Nat.le_of_ble_eq_true rfl) rfl dJx4a65c_remove_915e3_21 ?_
  refine V_pc (pc' := 24) rfl ?_
  refine V_aload_n dJx4a65c_remove_915e3_24 rfl 0 rfl ?_
  obtain rfl := Option.some.inj h
  exact V_aret rfl (by first | exact Or.inl ⟨_, rfl⟩ | exact Or.inr ⟨_, rfl⟩) hq dJx4a65c_remove_915e3_25
def f_Jx4a65c_remove_915e3 (a0 : Nat) (i1 : Int32) (M : zM) : Option (Nat × zM) := f_Jx4a65c_remove_915e3_0 a0 i1 M
theorem c_Jx4a65c_remove_915e3 {L : zL} {l : Launch} {a0 : Nat} {i1 : Int32} {M : zM} {r : Nat × zM} (h : f_Jx4a65c_remove_915e3 a0 i1 M = some r) : CP L l yJx4a65c_remove_915e3 cJx4a65c_remove_915e3 4 (Option.some (FieldType.object "java/lang/Object")) 3 M [.ref (zad L (a0)), .int (i1)] (some (.ref (zad L r.1))) r.2 :=
  CP.of ⟨by decide +kernel, by decide +kernel⟩ (Nat.le_of_ble_eq_true rfl) fun X Q hq => s_Jx4a65c_remove_915e3_0 hq h
/-! WindsparlourModel.leave()V -/
theorem dX7_leave_0 : decode cX7_leave 0 = .ok (.aload_n 0, 1) := by decide +kernel
theorem dX7_leave_1 : decode cX7_leave 1 = .ok (.invokevirtual 104, 3) := by decide +kernel
theorem dX7_leave_4 : decode cX7_leave 4 = .ok (.getfield 124, 3) := by decide +kernel
theorem dX7_leave_7 : decode cX7_leave 7 = .ok (.aload_n 0, 1) := by decide +kernel
theorem dX7_leave_8 : decode cX7_leave 8 = .ok (.invokevirtual 104, 3) := by decide +kernel
theorem dX7_leave_11 : decode cX7_leave 11 = .ok (.getfield 124, 3) := by decide +kernel
theorem dX7_leave_14 : decode cX7_leave 14 = .ok (.invokevirtual 144, 3) := by decide +kernel
theorem dX7_leave_17 : decode cX7_leave 17 = .ok (.iconst 1, 1) := by decide +kernel
theorem dX7_leave_18 : decode cX7_leave 18 = .ok (.isub, 1) := by decide +kernel
theorem dX7_leave_19 : decode cX7_leave 19 = .ok (.invokevirtual 170, 3) := by decide +kernel
theorem dX7_leave_22 : decode cX7_leave 22 = .ok (.pop, 1) := by decide +kernel
theorem dX7_leave_23 : decode cX7_leave 23 = .ok (.return_, 1) := by decide +kernel
def f_X7_leave_0 (a0 : Nat) (M : zM) : Option (Unit × zM) :=
  if mK M a0 = 13 then
  (f_X7_its a0 M).bind fun r1 =>
  (gR 12 4 r1.2 r1.1).bind fun v3 =>
  if mK r1.2 a0 = 13 then
  (f_X7_its a0 r1.2).bind fun r4 =>
  (gR 12 4 r4.2 r4.1).bind fun v6 =>
  if mK r4.2 v6 = 5 then
  (f_Jx4a65c_size_8abf5 v6 r4.2).bind fun r7 =>
  if mK r7.2 v3 = 5 then
  (f_Jx4a65c_remove_915e3 v3 ((r7.1 - ((1 : Int32)))) r7.2).bind fun r9 =>
  some ((), r9.2)
  else none
  else none
  else none
  else none
set_option maxRecDepth 20000 in
set_option maxHeartbeats 4000000 in
theorem s_X7_leave_0 {L : zL} {X : zX} {M0 : zM} {N : Nat × Nat} {Q : State → Prop} {r : Unit × zM} (hq : vQ L X M0 N Q none r.2) {a0 : Nat} {M : zM} (h : f_X7_leave_0 a0 M = some r) : V L X yX7_leave cX7_leave 1 (none : Option FieldType) 4 M0 N Q M 0 [(0, .ref (zad L (a0)))] [] := by
  unfold f_X7_leave_0 at h
  refine V_aload_n dX7_leave_0 rfl 0 rfl ?_
  replace h := ox h
  obtain ⟨c2, h⟩ := h
  replace h := ob h
  obtain ⟨r1, e_r1, h⟩ := h
  refine V_callV_A (As := []) (rest := []) (c_X7_its e_r1) zc_X7_its rfl (by decide) rfl (by decide) (Or.inl c2) zm_X7_104 (Nat.le_of_ble_eq_true rfl) rfl dX7_leave_1 ?_
  refine V_pc (pc' := 4) rfl ?_
  replace h := ob h
  obtain ⟨v3, e_v3, h⟩ := h
  refine V_getR zf_12_4 zl_X7_124 e_v3 dX7_leave_4 ?_
  refine V_pc (pc' := 7) rfl ?_
  refine V_aload_n dX7_leave_7 rfl 0 rfl ?_
  replace h := ox h
  obtain ⟨c5, h⟩ := h
  replace h := ob h
  obtain ⟨r4, e_r4, h⟩ := h
  refine V_callV_A (As := []) (rest := [.ref (zad L (v3))]) (c_X7_its e_r4) zc_X7_its rfl (by decide) rfl (by decide) (Or.inl c5) zm_X7_104 (Nat.le_of_ble_eq_true rfl) rfl dX7_leave_8 ?_
  refine V_pc (pc' := 11) rfl ?_
  replace h := ob h
  obtain ⟨v6, e_v6, h⟩ := h
  refine V_getR zf_12_4 zl_X7_124 e_v6 dX7_leave_11 ?_
  refine V_pc (pc' := 14) rfl ?_
  replace h := ox h
  obtain ⟨c8, h⟩ := h
  replace h := ob h
  obtain ⟨r7, e_r7, h⟩ := h
  refine V_callV_I (As := []) (rest := [.ref (zad L (v3))]) (c_Jx4a65c_size_8abf5 e_r7) zc_Jx4a65c_size_8abf5 rfl (by decide) rfl (by decide) (Or.inl c8) zm_X7_144 (Nat.le_of_ble_eq_true rfl) rfl dX7_leave_14 ?_
  refine V_pc (pc' := 17) rfl ?_
  refine V_iconst (v := 1) dX7_leave_17 (by decide) ?_
  refine V_isub dX7_leave_18 ?_
  replace h := ox h
  obtain ⟨c10, h⟩ := h
  replace h := ob h
  obtain ⟨r9, e_r9, h⟩ := h
  refine V_callV_A (As := [.int ((r7.1 - ((1 : Int32))))]) (rest := []) (c_Jx4a65c_remove_915e3 e_r9) zc_Jx4a65c_remove_915e3 rfl (by decide) rfl (by decide) (Or.inl c10) zm_X7_170 (Nat.le_of_ble_eq_true rfl) rfl dX7_leave_19 ?_
  refine V_pc (pc' := 22) rfl ?_
  refine V_pop dX7_leave_22 rfl ?_
  obtain rfl := Option.some.inj h
  exact V_vret rfl hq dX7_leave_23
def f_X7_leave (a0 : Nat) (M : zM) : Option (Unit × zM) := f_X7_leave_0 a0 M
theorem c_X7_leave {L : zL} {l : Launch} {a0 : Nat} {M : zM} {r : Unit × zM} (h : f_X7_leave a0 M = some r) : CP L l yX7_leave cX7_leave 1 (none : Option FieldType) 4 M [.ref (zad L (a0))] none r.2 :=
  CP.of ⟨by decide +kernel, by decide +kernel⟩ (Nat.le_of_ble_eq_true rfl) fun X Q hq => s_X7_leave_0 hq h
/-! WindsparlourModel.drawLast()I -/
theorem dX7_drawLast_0 : decode cX7_drawLast 0 = .ok (.aload_n 0, 1) := by decide +kernel
theorem dX7_drawLast_1 : decode cX7_drawLast 1 = .ok (.dup, 1) := by decide +kernel
theorem dX7_drawLast_2 : decode cX7_drawLast 2 = .ok (.getfield 101, 3) := by decide +kernel
theorem dX7_drawLast_5 : decode cX7_drawLast 5 = .ok (.iconst 1, 1) := by decide +kernel
theorem dX7_drawLast_6 : decode cX7_drawLast 6 = .ok (.iadd, 1) := by decide +kernel
theorem dX7_drawLast_7 : decode cX7_drawLast 7 = .ok (.putfield 101, 3) := by decide +kernel
theorem dX7_drawLast_10 : decode cX7_drawLast 10 = .ok (.aload_n 0, 1) := by decide +kernel
theorem dX7_drawLast_11 : decode cX7_drawLast 11 = .ok (.aload_n 0, 1) := by decide +kernel
theorem dX7_drawLast_12 : decode cX7_drawLast 12 = .ok (.getfield 42, 3) := by decide +kernel
theorem dX7_drawLast_15 : decode cX7_drawLast 15 = .ok (.aload_n 0, 1) := by decide +kernel
theorem dX7_drawLast_16 : decode cX7_drawLast 16 = .ok (.dup, 1) := by decide +kernel
theorem dX7_drawLast_17 : decode cX7_drawLast 17 = .ok (.getfield 72, 3) := by decide +kernel
theorem dX7_drawLast_20 : decode cX7_drawLast 20 = .ok (.dup_x1, 1) := by decide +kernel
theorem dX7_drawLast_21 : decode cX7_drawLast 21 = .ok (.iconst 1, 1) := by decide +kernel
theorem dX7_drawLast_22 : decode cX7_drawLast 22 = .ok (.isub, 1) := by decide +kernel
theorem dX7_drawLast_23 : decode cX7_drawLast 23 = .ok (.putfield 72, 3) := by decide +kernel
theorem dX7_drawLast_26 : decode cX7_drawLast 26 = .ok (.iaload, 1) := by decide +kernel
theorem dX7_drawLast_27 : decode cX7_drawLast 27 = .ok (.invokevirtual 118, 3) := by decide +kernel
theorem dX7_drawLast_30 : decode cX7_drawLast 30 = .ok (.ireturn, 1) := by decide +kernel
def f_X7_drawLast_0 (a0 : Nat) (M : zM) : Option (Int32 × zM) :=
  (gI 13 10 M a0).bind fun v1 =>
  (pI 13 10 M a0 ((v1 + ((1 : Int32))))).bind fun M2 =>
  (gR 13 2 M2 a0).bind fun v3 =>
  (gI 13 4 M2 a0).bind fun v4 =>
  (pI 13 4 M2 a0 ((v4 - ((1 : Int32))))).bind fun M5 =>
  (lA 0 M5 v3 v4).bind fun v6 =>
  if mK M5 a0 = 13 then
  (f_X7_take a0 v6 M5).bind fun r7 =>
  some (r7.1, r7.2)
  else none
set_option maxRecDepth 20000 in
set_option maxHeartbeats 4000000 in
theorem s_X7_drawLast_0 {L : zL} {X : zX} {M0 : zM} {N : Nat × Nat} {Q : State → Prop} {r : Int32 × zM} (hq : vQ L X M0 N Q (some (.int r.1)) r.2) {a0 : Nat} {M : zM} (h : f_X7_drawLast_0 a0 M = some r) : V L X yX7_drawLast cX7_drawLast 1 (some FieldType.int) 3 M0 N Q M 0 [(0, .ref (zad L (a0)))] [] := by
  unfold f_X7_drawLast_0 at h
  refine V_aload_n dX7_drawLast_0 rfl 0 rfl ?_
  refine V_dup dX7_drawLast_1 rfl ?_
  replace h := ob h
  obtain ⟨v1, e_v1, h⟩ := h
  refine V_getI zf_13_10 zl_X7_101 e_v1 dX7_drawLast_2 ?_
  refine V_pc (pc' := 5) rfl ?_
  refine V_iconst (v := 1) dX7_drawLast_5 (by decide) ?_
  refine V_iadd dX7_drawLast_6 ?_
  replace h := ob h
  obtain ⟨M2, e_M2, h⟩ := h
  refine V_putI zf_13_10 zl_X7_101 (Or.inl rfl) rfl e_M2 dX7_drawLast_7 ?_
  refine V_pc (pc' := 10) rfl ?_
  refine V_aload_n dX7_drawLast_10 rfl 0 rfl ?_
  refine V_aload_n dX7_drawLast_11 rfl 0 rfl ?_
  replace h := ob h
  obtain ⟨v3, e_v3, h⟩ := h
  refine V_getR zf_13_2 zl_X7_42 e_v3 dX7_drawLast_12 ?_
  refine V_pc (pc' := 15) rfl ?_
  refine V_aload_n dX7_drawLast_15 rfl 0 rfl ?_
  refine V_dup dX7_drawLast_16 rfl ?_
  replace h := ob h
  obtain ⟨v4, e_v4, h⟩ := h
  refine V_getI zf_13_4 zl_X7_72 e_v4 dX7_drawLast_17 ?_
  refine V_pc (pc' := 20) rfl ?_
  refine V_dup_x1 dX7_drawLast_20 rfl rfl ?_
  refine V_iconst (v := 1) dX7_drawLast_21 (by decide) ?_
  refine V_isub dX7_drawLast_22 ?_
  replace h := ob h
  obtain ⟨M5, e_M5, h⟩ := h
  refine V_putI zf_13_4 zl_X7_72 (Or.inl rfl) rfl e_M5 dX7_drawLast_23 ?_
  refine V_pc (pc' := 26) rfl ?_
  replace h := ob h
  obtain ⟨v6, e_v6, h⟩ := h
  refine V_iald e_v6 dX7_drawLast_26 ?_
  refine V_pc (pc' := 27) rfl ?_
  replace h := ox h
  obtain ⟨c8, h⟩ := h
  replace h := ob h
  obtain ⟨r7, e_r7, h⟩ := h
  refine V_callV_I (As := [.int (v6)]) (rest := []) (c_X7_take e_r7) zc_X7_take rfl (by decide) rfl (by decide) (Or.inl c8) zm_X7_118 (Nat.le_of_ble_eq_true rfl) rfl dX7_drawLast_27 ?_
  refine V_pc (pc' := 30) rfl ?_
  obtain rfl := Option.some.inj h
  exact V_iret rfl hq dX7_drawLast_30
def f_X7_drawLast (a0 : Nat) (M : zM) : Option (Int32 × zM) := f_X7_drawLast_0 a0 M
theorem c_X7_drawLast {L : zL} {l : Launch} {a0 : Nat} {M : zM} {r : Int32 × zM} (h : f_X7_drawLast a0 M = some r) : CP L l yX7_drawLast cX7_drawLast 1 (some FieldType.int) 3 M [.ref (zad L (a0))] (some (.int r.1)) r.2 :=
  CP.of ⟨by decide +kernel, by decide +kernel⟩ (Nat.le_of_ble_eq_true rfl) fun X Q hq => s_X7_drawLast_0 hq h
