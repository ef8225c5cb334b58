/-! ===== METHODS, by program ===== -/
/-! java/lang/AbstractStringBuilder.append(C)Ljava/lang/AbstractStringBuilder; -/
theorem dJ5_append_3fe6f_0 : decode cJ5_append_3fe6f 0 = .ok (.aload_n 0, 1) := by decide +kernel
theorem dJ5_append_3fe6f_1 : decode cJ5_append_3fe6f 1 = .ok (.aload_n 0, 1) := by decide +kernel
theorem dJ5_append_3fe6f_2 : decode cJ5_append_3fe6f 2 = .ok (.getfield 79, 3) := by decide +kernel
theorem dJ5_append_3fe6f_5 : decode cJ5_append_3fe6f 5 = .ok (.iconst 1, 1) := by decide +kernel
theorem dJ5_append_3fe6f_6 : decode cJ5_append_3fe6f 6 = .ok (.iadd, 1) := by decide +kernel
theorem dJ5_append_3fe6f_7 : decode cJ5_append_3fe6f 7 = .ok (.invokevirtual 100, 3) := by decide +kernel
theorem dJ5_append_3fe6f_10 : decode cJ5_append_3fe6f 10 = .ok (.aload_n 0, 1) := by decide +kernel
theorem dJ5_append_3fe6f_11 : decode cJ5_append_3fe6f 11 = .ok (.invokevirtual 83, 3) := by decide +kernel
theorem dJ5_append_3fe6f_14 : decode cJ5_append_3fe6f 14 = .ok (.ifCond .eq 31, 3) := by decide +kernel
theorem dJ5_append_3fe6f_17 : decode cJ5_append_3fe6f 17 = .ok (.iload_n 1, 1) := by decide +kernel
theorem dJ5_append_3fe6f_18 : decode cJ5_append_3fe6f 18 = .ok (.invokestatic 191, 3) := by decide +kernel
theorem dJ5_append_3fe6f_21 : decode cJ5_append_3fe6f 21 = .ok (.ifCond .eq 24, 3) := by decide +kernel
theorem dJ5_append_3fe6f_24 : decode cJ5_append_3fe6f 24 = .ok (.aload_n 0, 1) := by decide +kernel
theorem dJ5_append_3fe6f_25 : decode cJ5_append_3fe6f 25 = .ok (.getfield 15, 3) := by decide +kernel
theorem dJ5_append_3fe6f_28 : decode cJ5_append_3fe6f 28 = .ok (.aload_n 0, 1) := by decide +kernel
theorem dJ5_append_3fe6f_29 : decode cJ5_append_3fe6f 29 = .ok (.dup, 1) := by decide +kernel
theorem dJ5_append_3fe6f_30 : decode cJ5_append_3fe6f 30 = .ok (.getfield 79, 3) := by decide +kernel
theorem dJ5_append_3fe6f_33 : decode cJ5_append_3fe6f 33 = .ok (.dup_x1, 1) := by decide +kernel
theorem dJ5_append_3fe6f_34 : decode cJ5_append_3fe6f 34 = .ok (.iconst 1, 1) := by decide +kernel
theorem dJ5_append_3fe6f_35 : decode cJ5_append_3fe6f 35 = .ok (.iadd, 1) := by decide +kernel
theorem dJ5_append_3fe6f_36 : decode cJ5_append_3fe6f 36 = .ok (.putfield 79, 3) := by decide +kernel
theorem dJ5_append_3fe6f_39 : decode cJ5_append_3fe6f 39 = .ok (.iload_n 1, 1) := by decide +kernel
theorem dJ5_append_3fe6f_40 : decode cJ5_append_3fe6f 40 = .ok (.i2b, 1) := by decide +kernel
theorem dJ5_append_3fe6f_41 : decode cJ5_append_3fe6f 41 = .ok (.bastore, 1) := by decide +kernel
theorem dJ5_append_3fe6f_42 : decode cJ5_append_3fe6f 42 = .ok (.goto 33, 3) := by decide +kernel
theorem dJ5_append_3fe6f_45 : decode cJ5_append_3fe6f 45 = .ok (.aload_n 0, 1) := by decide +kernel
theorem dJ5_append_3fe6f_46 : decode cJ5_append_3fe6f 46 = .ok (.invokevirtual 83, 3) := by decide +kernel
theorem dJ5_append_3fe6f_49 : decode cJ5_append_3fe6f 49 = .ok (.ifCond .eq 7, 3) := by decide +kernel
theorem dJ5_append_3fe6f_52 : decode cJ5_append_3fe6f 52 = .ok (.aload_n 0, 1) := by decide +kernel
theorem dJ5_append_3fe6f_53 : decode cJ5_append_3fe6f 53 = .ok (.invokevirtual 195, 3) := by decide +kernel
theorem dJ5_append_3fe6f_56 : decode cJ5_append_3fe6f 56 = .ok (.aload_n 0, 1) := by decide +kernel
theorem dJ5_append_3fe6f_57 : decode cJ5_append_3fe6f 57 = .ok (.getfield 15, 3) := by decide +kernel
theorem dJ5_append_3fe6f_60 : decode cJ5_append_3fe6f 60 = .ok (.aload_n 0, 1) := by decide +kernel
theorem dJ5_append_3fe6f_61 : decode cJ5_append_3fe6f 61 = .ok (.dup, 1) := by decide +kernel
theorem dJ5_append_3fe6f_62 : decode cJ5_append_3fe6f 62 = .ok (.getfield 79, 3) := by decide +kernel
theorem dJ5_append_3fe6f_65 : decode cJ5_append_3fe6f 65 = .ok (.dup_x1, 1) := by decide +kernel
theorem dJ5_append_3fe6f_66 : decode cJ5_append_3fe6f 66 = .ok (.iconst 1, 1) := by decide +kernel
theorem dJ5_append_3fe6f_67 : decode cJ5_append_3fe6f 67 = .ok (.iadd, 1) := by decide +kernel
theorem dJ5_append_3fe6f_68 : decode cJ5_append_3fe6f 68 = .ok (.putfield 79, 3) := by decide +kernel
theorem dJ5_append_3fe6f_71 : decode cJ5_append_3fe6f 71 = .ok (.iload_n 1, 1) := by decide +kernel
theorem dJ5_append_3fe6f_72 : decode cJ5_append_3fe6f 72 = .ok (.invokestatic 197, 3) := by decide +kernel
theorem dJ5_append_3fe6f_75 : decode cJ5_append_3fe6f 75 = .ok (.aload_n 0, 1) := by decide +kernel
theorem dJ5_append_3fe6f_76 : decode cJ5_append_3fe6f 76 = .ok (.areturn, 1) := by decide +kernel
def f_J5_append_3fe6f_56 (a0 : Nat) (i1 : Int32) (M : zM) : Option (Nat × zM) :=
  (gR 2 0 M a0).bind fun v1 =>
  (gI 2 3 M a0).bind fun v2 =>
  (pI 2 3 M a0 ((v2 + ((1 : Int32))))).bind fun M3 =>
  none
set_option maxRecDepth 20000 in
set_option maxHeartbeats 4000000 in
theorem s_J5_append_3fe6f_56 {L : zL} {X : zX} {M0 : zM} {N : Nat × Nat} {Q : State → Prop} {r : Nat × zM} (hq : vQ L X M0 N Q (some (.ref (zad L r.1))) r.2) {a0 : Nat} {i1 : Int32} {M : zM} (h : f_J5_append_3fe6f_56 a0 i1 M = some r) : V L X yJ5_append_3fe6f cJ5_append_3fe6f 2 (Option.some (FieldType.object "java/lang/AbstractStringBuilder")) 5 M0 N Q M 56 [(0, .ref (zad L (a0))), (1, .int (i1))] [] := by
  unfold f_J5_append_3fe6f_56 at h
  refine V_aload_n dJ5_append_3fe6f_56 rfl 0 rfl ?_
  replace h := ob h
  obtain ⟨v1, e_v1, h⟩ := h
  refine V_getR zf_2_0 zl_J5_15 e_v1 dJ5_append_3fe6f_57 ?_
  refine V_pc (pc' := 60) rfl ?_
  refine V_aload_n dJ5_append_3fe6f_60 rfl 0 rfl ?_
  refine V_dup dJ5_append_3fe6f_61 rfl ?_
  replace h := ob h
  obtain ⟨v2, e_v2, h⟩ := h
  refine V_getI zf_2_3 zl_J5_79 e_v2 dJ5_append_3fe6f_62 ?_
  refine V_pc (pc' := 65) rfl ?_
  refine V_dup_x1 dJ5_append_3fe6f_65 rfl rfl ?_
  refine V_iconst (v := 1) dJ5_append_3fe6f_66 (by decide) ?_
  refine V_iadd dJ5_append_3fe6f_67 ?_
  replace h := ob h
  obtain ⟨M3, e_M3, h⟩ := h
  refine V_putI zf_2_3 zl_J5_79 (Or.inl rfl) rfl e_M3 dJ5_append_3fe6f_68 ?_
  refine V_pc (pc' := 71) rfl ?_
  refine V_iload_n dJ5_append_3fe6f_71 rfl 1 rfl ?_
  cases h
def f_J5_append_3fe6f_45 (a0 : Nat) (i1 : Int32) (M : zM) : Option (Nat × zM) :=
  if mK M a0 = 2 then
  (f_J5_isLatin1_aae02 a0 M).bind fun r1 =>
  if r1.1 = 0 then
  f_J5_append_3fe6f_56 a0 i1 r1.2
  else
  none
  else none
set_option maxRecDepth 20000 in
set_option maxHeartbeats 4000000 in
theorem s_J5_append_3fe6f_45 {L : zL} {X : zX} {M0 : zM} {N : Nat × Nat} {Q : State → Prop} {r : Nat × zM} (hq : vQ L X M0 N Q (some (.ref (zad L r.1))) r.2) {a0 : Nat} {i1 : Int32} {M : zM} (h : f_J5_append_3fe6f_45 a0 i1 M = some r) : V L X yJ5_append_3fe6f cJ5_append_3fe6f 2 (Option.some (FieldType.object "java/lang/AbstractStringBuilder")) 5 M0 N Q M 45 [(0, .ref (zad L (a0))), (1, .int (i1))] [] := by
  unfold f_J5_append_3fe6f_45 at h
  refine V_aload_n dJ5_append_3fe6f_45 rfl 0 rfl ?_
  replace h := ox h
  obtain ⟨c2, h⟩ := h
  replace h := ob h
  obtain ⟨r1, e_r1, h⟩ := h
  refine V_callV_I (As := []) (rest := []) (c_J5_isLatin1_aae02 e_r1) zc_J5_isLatin1_aae02 rfl (by decide) rfl (by decide) (Or.inl c2) zm_J5_83 (Nat.le_of_ble_eq_true rfl) rfl dJ5_append_3fe6f_46 ?_
  refine V_pc (pc' := 49) rfl ?_
  refine V_if_eq (tgt := 56) dJ5_append_3fe6f_49 (by decide) (fun c3 => ?_) (fun c3 => ?_)
  · replace h := (oi h).1 c3
    exact s_J5_append_3fe6f_56 hq h
  · replace h := (oi h).2 c3
    refine V_aload_n dJ5_append_3fe6f_52 rfl 0 rfl ?_
    cases h
def f_J5_append_3fe6f_0 (a0 : Nat) (i1 : Int32) (M : zM) : Option (Nat × zM) :=
  (gI 2 3 M a0).bind fun v1 =>
  if mK M a0 = 2 then
  (f_J5_ensureCapacityInternal_d00df a0 ((v1 + ((1 : Int32)))) M).bind fun r2 =>
  if mK r2.2 a0 = 2 then
  (f_J5_isLatin1_aae02 a0 r2.2).bind fun r4 =>
  if r4.1 = 0 then
  f_J5_append_3fe6f_45 a0 i1 r4.2
  else
  (f_J1_canEncode_fc78d i1 r4.2).bind fun r6 =>
  if r6.1 = 0 then
  f_J5_append_3fe6f_45 a0 i1 r6.2
  else
  (gR 2 0 r6.2 a0).bind fun v7 =>
  (gI 2 3 r6.2 a0).bind fun v8 =>
  (pI 2 3 r6.2 a0 ((v8 + ((1 : Int32))))).bind fun M9 =>
  (tB M9 v7 v8 ((i1.toInt8.toInt32))).bind fun M10 =>
  some (a0, M10)
  else none
  else none
set_option maxRecDepth 20000 in
set_option maxHeartbeats 4000000 in
theorem s_J5_append_3fe6f_0 {L : zL} {X : zX} {M0 : zM} {N : Nat × Nat} {Q : State → Prop} {r : Nat × zM} (hq : vQ L X M0 N Q (some (.ref (zad L r.1))) r.2) {a0 : Nat} {i1 : Int32} {M : zM} (h : f_J5_append_3fe6f_0 a0 i1 M = some r) : V L X yJ5_append_3fe6f cJ5_append_3fe6f 2 (Option.some (FieldType.object "java/lang/AbstractStringBuilder")) 5 M0 N Q M 0 [(0, .ref (zad L (a0))), (1, .int (i1))] [] := by
  unfold f_J5_append_3fe6f_0 at h
  refine V_aload_n dJ5_append_3fe6f_0 rfl 0 rfl ?_
  refine V_aload_n dJ5_append_3fe6f_1 rfl 0 rfl ?_
  replace h := ob h
  obtain ⟨v1, e_v1, h⟩ := h
  refine V_getI zf_2_3 zl_J5_79 e_v1 dJ5_append_3fe6f_2 ?_
  refine V_pc (pc' := 5) rfl ?_
  refine V_iconst (v := 1) dJ5_append_3fe6f_5 (by decide) ?_
  refine V_iadd dJ5_append_3fe6f_6 ?_
  replace h := ox h
  obtain ⟨c3, h⟩ := h
  replace h := ob h
  obtain ⟨r2, e_r2, h⟩ := h
  refine V_callV_V (As := [.int ((v1 + ((1 : Int32))))]) (rest := []) (c_J5_ensureCapacityInternal_d00df e_r2) zc_J5_ensureCapacityInternal_d00df rfl (by decide) rfl (by decide) (Or.inl c3) zm_J5_100 (Nat.le_of_ble_eq_true rfl) rfl dJ5_append_3fe6f_7 ?_
  refine V_pc (pc' := 10) rfl ?_
  refine V_aload_n dJ5_append_3fe6f_10 rfl 0 rfl ?_
  replace h := ox h
  obtain ⟨c5, h⟩ := h
  replace h := ob h
  obtain ⟨r4, e_r4, h⟩ := h
  refine V_callV_I (As := []) (rest := []) (c_J5_isLatin1_aae02 e_r4) zc_J5_isLatin1_aae02 rfl (by decide) rfl (by decide) (Or.inl c5) zm_J5_83 (Nat.le_of_ble_eq_true rfl) rfl dJ5_append_3fe6f_11 ?_
  refine V_pc (pc' := 14) rfl ?_
  refine V_if_eq (tgt := 45) dJ5_append_3fe6f_14 (by decide) (fun c12 => ?_) (fun c12 => ?_)
  · replace h := (oi h).1 c12
    exact s_J5_append_3fe6f_45 hq h
  · replace h := (oi h).2 c12
    refine V_iload_n dJ5_append_3fe6f_17 rfl 1 rfl ?_
    replace h := ob h
    obtain ⟨r6, e_r6, h⟩ := h
    refine V_callS_I (As := [.int (i1)]) (rest := []) (c_J1_canEncode_fc78d e_r6) zc_J1_canEncode_fc78d rfl (by decide) zm_J5_191 (Nat.le_of_ble_eq_true rfl) rfl dJ5_append_3fe6f_18 ?_
    refine V_pc (pc' := 21) rfl ?_
    refine V_if_eq (tgt := 45) dJ5_append_3fe6f_21 (by decide) (fun c11 => ?_) (fun c11 => ?_)
    · replace h := (oi h).1 c11
      exact s_J5_append_3fe6f_45 hq h
    · replace h := (oi h).2 c11
      refine V_aload_n dJ5_append_3fe6f_24 rfl 0 rfl ?_
      replace h := ob h
      obtain ⟨v7, e_v7, h⟩ := h
      refine V_getR zf_2_0 zl_J5_15 e_v7 dJ5_append_3fe6f_25 ?_
      refine V_pc (pc' := 28) rfl ?_
      refine V_aload_n dJ5_append_3fe6f_28 rfl 0 rfl ?_
      refine V_dup dJ5_append_3fe6f_29 rfl ?_
      replace h := ob h
      obtain ⟨v8, e_v8, h⟩ := h
      refine V_getI zf_2_3 zl_J5_79 e_v8 dJ5_append_3fe6f_30 ?_
      refine V_pc (pc' := 33) rfl ?_
      refine V_dup_x1 dJ5_append_3fe6f_33 rfl rfl ?_
      refine V_iconst (v := 1) dJ5_append_3fe6f_34 (by decide) ?_
      refine V_iadd dJ5_append_3fe6f_35 ?_
      replace h := ob h
      obtain ⟨M9, e_M9, h⟩ := h
      refine V_putI zf_2_3 zl_J5_79 (Or.inl rfl) rfl e_M9 dJ5_append_3fe6f_36 ?_
      refine V_pc (pc' := 39) rfl ?_
      refine V_iload_n dJ5_append_3fe6f_39 rfl 1 rfl ?_
      refine V_i2b dJ5_append_3fe6f_40 ?_
      replace h := ob h
      obtain ⟨M10, e_M10, h⟩ := h
      refine V_bast e_M10 dJ5_append_3fe6f_41 ?_
      refine V_goto (tgt := 75) dJ5_append_3fe6f_42 (by decide) ?_
      refine V_aload_n dJ5_append_3fe6f_75 rfl 0 rfl ?_
      obtain rfl := Option.some.inj h
      exact V_aret rfl (by first | exact Or.inl ⟨_, rfl⟩ | exact Or.inr ⟨_, rfl⟩) hq dJ5_append_3fe6f_76
def f_J5_append_3fe6f (a0 : Nat) (i1 : Int32) (M : zM) : Option (Nat × zM) := f_J5_append_3fe6f_0 a0 i1 M
theorem c_J5_append_3fe6f {L : zL} {l : Launch} {a0 : Nat} {i1 : Int32} {M : zM} {r : Nat × zM} (h : f_J5_append_3fe6f a0 i1 M = some r) : CP L l yJ5_append_3fe6f cJ5_append_3fe6f 2 (Option.some (FieldType.object "java/lang/AbstractStringBuilder")) 5 M [.ref (zad L (a0)), .int (i1)] (some (.ref (zad L r.1))) r.2 :=
  CP.of ⟨by decide +kernel, by decide +kernel⟩ (Nat.le_of_ble_eq_true rfl) fun X Q hq => s_J5_append_3fe6f_0 hq h
/-! java/lang/StringBuilder.append(C)Ljava/lang/StringBuilder; -/
theorem dJ4_append_cf468_0 : decode cJ4_append_cf468 0 = .ok (.aload_n 0, 1) := by decide +kernel
theorem dJ4_append_cf468_1 : decode cJ4_append_cf468 1 = .ok (.iload_n 1, 1) := by decide +kernel
theorem dJ4_append_cf468_2 : decode cJ4_append_cf468 2 = .ok (.invokespecial 50, 3) := by decide +kernel
theorem dJ4_append_cf468_5 : decode cJ4_append_cf468 5 = .ok (.pop, 1) := by decide +kernel
theorem dJ4_append_cf468_6 : decode cJ4_append_cf468 6 = .ok (.aload_n 0, 1) := by decide +kernel
theorem dJ4_append_cf468_7 : decode cJ4_append_cf468 7 = .ok (.areturn, 1) := by decide +kernel
def f_J4_append_cf468_0 (a0 : Nat) (i1 : Int32) (M : zM) : Option (Nat × zM) :=
  if mK M a0 = 2 then
  (f_J5_append_3fe6f a0 i1 M).bind fun r1 =>
  some (a0, r1.2)
  else none
set_option maxRecDepth 20000 in
set_option maxHeartbeats 4000000 in
theorem s_J4_append_cf468_0 {L : zL} {X : zX} {M0 : zM} {N : Nat × Nat} {Q : State → Prop} {r : Nat × zM} (hq : vQ L X M0 N Q (some (.ref (zad L r.1))) r.2) {a0 : Nat} {i1 : Int32} {M : zM} (h : f_J4_append_cf468_0 a0 i1 M = some r) : V L X yJ4_append_cf468 cJ4_append_cf468 2 (Option.some (FieldType.object "java/lang/StringBuilder")) 6 M0 N Q M 0 [(0, .ref (zad L (a0))), (1, .int (i1))] [] := by
  unfold f_J4_append_cf468_0 at h
  refine V_aload_n dJ4_append_cf468_0 rfl 0 rfl ?_
  refine V_iload_n dJ4_append_cf468_1 rfl 1 rfl ?_
  replace h := ox h
  obtain ⟨c2, h⟩ := h
  replace h := ob h
  obtain ⟨r1, e_r1, h⟩ := h
  refine V_callU_A (As := [.int (i1)]) (rest := []) (c_J5_append_3fe6f e_r1) zc_J5_append_3fe6f rfl (by decide) rfl (by decide) (Or.inl c2) zm_J4_50 (Nat.le_of_ble_eq_true rfl) rfl dJ4_append_cf468_2 ?_
  refine V_pc (pc' := 5) rfl ?_
  refine V_pop dJ4_append_cf468_5 rfl ?_
  refine V_aload_n dJ4_append_cf468_6 rfl 0 rfl ?_
  obtain rfl := Option.some.inj h
  exact V_aret rfl (by first | exact Or.inl ⟨_, rfl⟩ | exact Or.inr ⟨_, rfl⟩) hq dJ4_append_cf468_7
def f_J4_append_cf468 (a0 : Nat) (i1 : Int32) (M : zM) : Option (Nat × zM) := f_J4_append_cf468_0 a0 i1 M
theorem c_J4_append_cf468 {L : zL} {l : Launch} {a0 : Nat} {i1 : Int32} {M : zM} {r : Nat × zM} (h : f_J4_append_cf468 a0 i1 M = some r) : CP L l yJ4_append_cf468 cJ4_append_cf468 2 (Option.some (FieldType.object "java/lang/StringBuilder")) 6 M [.ref (zad L (a0)), .int (i1)] (some (.ref (zad L r.1))) r.2 :=
  CP.of ⟨by decide +kernel, by decide +kernel⟩ (Nat.le_of_ble_eq_true rfl) fun X Q hq => s_J4_append_cf468_0 hq h
/-! Windsparlour.writeHonours(Ljava/lang/StringBuilder;LWindsparlour$Seat;)V -/
theorem dX3_writeHonours_0 : decode cX3_writeHonours 0 = .ok (.ldc_w 320, 3) := by decide +kernel
theorem dX3_writeHonours_3 : decode cX3_writeHonours 3 = .ok (.astore_n 2, 1) := by decide +kernel
theorem dX3_writeHonours_4 : decode cX3_writeHonours 4 = .ok (.iconst 0, 1) := by decide +kernel
theorem dX3_writeHonours_5 : decode cX3_writeHonours 5 = .ok (.istore_n 3, 1) := by decide +kernel
theorem dX3_writeHonours_6 : decode cX3_writeHonours 6 = .ok (.iload_n 3, 1) := by decide +kernel
theorem dX3_writeHonours_7 : decode cX3_writeHonours 7 = .ok (.aload_n 2, 1) := by decide +kernel
theorem dX3_writeHonours_8 : decode cX3_writeHonours 8 = .ok (.invokevirtual 322, 3) := by decide +kernel
theorem dX3_writeHonours_11 : decode cX3_writeHonours 11 = .ok (.if_icmp .ge 40, 3) := by decide +kernel
theorem dX3_writeHonours_14 : decode cX3_writeHonours 14 = .ok (.aload_n 1, 1) := by decide +kernel
theorem dX3_writeHonours_15 : decode cX3_writeHonours 15 = .ok (.bipush 18, 2) := by decide +kernel
theorem dX3_writeHonours_17 : decode cX3_writeHonours 17 = .ok (.iload_n 3, 1) := by decide +kernel
theorem dX3_writeHonours_18 : decode cX3_writeHonours 18 = .ok (.iadd, 1) := by decide +kernel
theorem dX3_writeHonours_19 : decode cX3_writeHonours 19 = .ok (.invokevirtual 112, 3) := by decide +kernel
theorem dX3_writeHonours_22 : decode cX3_writeHonours 22 = .ok (.istore 4, 2) := by decide +kernel
theorem dX3_writeHonours_24 : decode cX3_writeHonours 24 = .ok (.iload 4, 2) := by decide +kernel
theorem dX3_writeHonours_26 : decode cX3_writeHonours 26 = .ok (.ifCond .le 19, 3) := by decide +kernel
theorem dX3_writeHonours_29 : decode cX3_writeHonours 29 = .ok (.aload_n 0, 1) := by decide +kernel
theorem dX3_writeHonours_30 : decode cX3_writeHonours 30 = .ok (.aload_n 2, 1) := by decide +kernel
theorem dX3_writeHonours_31 : decode cX3_writeHonours 31 = .ok (.iload_n 3, 1) := by decide +kernel
theorem dX3_writeHonours_32 : decode cX3_writeHonours 32 = .ok (.invokevirtual 325, 3) := by decide +kernel
theorem dX3_writeHonours_35 : decode cX3_writeHonours 35 = .ok (.invokevirtual 317, 3) := by decide +kernel
theorem dX3_writeHonours_38 : decode cX3_writeHonours 38 = .ok (.pop, 1) := by decide +kernel
theorem dX3_writeHonours_39 : decode cX3_writeHonours 39 = .ok (.iinc 4 (-1), 3) := by decide +kernel
theorem dX3_writeHonours_42 : decode cX3_writeHonours 42 = .ok (.goto (-18), 3) := by decide +kernel
theorem dX3_writeHonours_45 : decode cX3_writeHonours 45 = .ok (.iinc 3 1, 3) := by decide +kernel
theorem dX3_writeHonours_48 : decode cX3_writeHonours 48 = .ok (.goto (-42), 3) := by decide +kernel
theorem dX3_writeHonours_51 : decode cX3_writeHonours 51 = .ok (.return_, 1) := by decide +kernel
def f_X3_writeHonours_24 (K6 : Nat → Nat → Nat → Int32 → zM → Option (Unit × zM)) (n : Nat) (a0 : Nat) (a1 : Nat) (a2 : Nat) (i3 : Int32) (i4 : Int32) (M : zM) : Option (Unit × zM) := match n with
  | 0 => none
  | n + 1 =>
    if i4 ≤ 0 then
    K6 a0 a1 a2 ((i3 + (1 : Int32))) M
    else
    if mK M a2 = 1 ∨ mK M a2 = 301 then
    (f_J0_charAt_5068e a2 i3 M).bind fun r1 =>
    if mK r1.2 a0 = 2 then
    (f_J4_append_cf468 a0 r1.1 r1.2).bind fun r3 =>
    f_X3_writeHonours_24 K6 n a0 a1 a2 i3 ((i4 + (-1 : Int32))) r3.2
    else none
    else none
set_option maxRecDepth 20000 in
set_option maxHeartbeats 4000000 in
theorem s_X3_writeHonours_24 {L : zL} {X : zX} {M0 : zM} {N : Nat × Nat} {Q : State → Prop} {r : Unit × zM} {K6 : Nat → Nat → Nat → Int32 → zM → Option (Unit × zM)} (hK6 : ∀ (a0 : Nat) (a1 : Nat) (a2 : Nat) (i3 : Int32) (M : zM), K6 a0 a1 a2 i3 M = some r → V L X yX3_writeHonours cX3_writeHonours 5 (none : Option FieldType) 7 M0 N Q M 6 [(0, .ref (zad L (a0))), (1, .ref (zad L (a1))), (2, .ref (zad L (a2))), (3, .int (i3))] []) (hq : vQ L X M0 N Q none r.2) {n : Nat} {a0 : Nat} {a1 : Nat} {a2 : Nat} {i3 : Int32} {i4 : Int32} {M : zM} : f_X3_writeHonours_24 K6 n a0 a1 a2 i3 i4 M = some r → V L X yX3_writeHonours cX3_writeHonours 5 (none : Option FieldType) 7 M0 N Q M 24 [(0, .ref (zad L (a0))), (1, .ref (zad L (a1))), (2, .ref (zad L (a2))), (3, .int (i3)), (4, .int (i4))] [] := by
  induction n generalizing a0 a1 a2 i3 i4 M with
  | zero =>
    intro h
    rw [f_X3_writeHonours_24] at h
    cases h
  | succ n ih0 =>
    intro h
    have ih : ∀ (a0 : Nat) (a1 : Nat) (a2 : Nat) (i3 : Int32) (i4 : Int32) (M : zM), f_X3_writeHonours_24 K6 n a0 a1 a2 i3 i4 M = some r → V L X yX3_writeHonours cX3_writeHonours 5 (none : Option FieldType) 7 M0 N Q M 24 [(0, .ref (zad L (a0))), (1, .ref (zad L (a1))), (2, .ref (zad L (a2))), (3, .int (i3)), (4, .int (i4))] [] := fun a0 a1 a2 i3 i4 M h => ih0 h
    rw [f_X3_writeHonours_24] at h
    refine V_iload dX3_writeHonours_24 4 rfl ?_
    refine V_if_le (tgt := 45) dX3_writeHonours_26 (by decide) (fun c5 => ?_) (fun c5 => ?_)
    · replace h := (oi h).1 c5
      refine V_iinc (v := i3 + (1 : Int32)) (ls' := [(3, .int ((i3 + (1 : Int32)))), (0, .ref (zad L (a0))), (1, .ref (zad L (a1))), (2, .ref (zad L (a2))), (4, .int (i4))]) dX3_writeHonours_45 3 rfl (by rfl) (by decide) rfl ?_
      refine V_goto (tgt := 6) dX3_writeHonours_48 (by decide) ?_
      refine V_sub [1, 2, 3, 0] rfl ?_
      exact hK6 _ _ _ _ _ h
    · replace h := (oi h).2 c5
      refine V_aload_n dX3_writeHonours_29 rfl 0 rfl ?_
      refine V_aload_n dX3_writeHonours_30 rfl 2 rfl ?_
      refine V_iload_n dX3_writeHonours_31 rfl 3 rfl ?_
      replace h := ox h
      obtain ⟨c2, h⟩ := h
      replace h := ob h
      obtain ⟨r1, e_r1, h⟩ := h
      refine V_callV_I (As := [.int (i3)]) (rest := [.ref (zad L (a0))]) (c_J0_charAt_5068e e_r1) zc_J0_charAt_5068e rfl (by decide) rfl (by decide) (c2) zm_X3_325 (Nat.le_of_ble_eq_true rfl) rfl dX3_writeHonours_32 ?_
      refine V_pc (pc' := 35) rfl ?_
      replace h := ox h
      obtain ⟨c4, h⟩ := h
      replace h := ob h
      obtain ⟨r3, e_r3, h⟩ := h
      refine V_callV_A (As := [.int (r1.1)]) (rest := []) (c_J4_append_cf468 e_r3) zc_J4_append_cf468 rfl (by decide) rfl (by decide) (Or.inl c4) zm_X3_317 (Nat.le_of_ble_eq_true rfl) rfl dX3_writeHonours_35 ?_
      refine V_pc (pc' := 38) rfl ?_
      refine V_pop dX3_writeHonours_38 rfl ?_
      refine V_iinc (v := i4 + (-1 : Int32)) (ls' := [(4, .int ((i4 + (-1 : Int32)))), (0, .ref (zad L (a0))), (1, .ref (zad L (a1))), (2, .ref (zad L (a2))), (3, .int (i3))]) dX3_writeHonours_39 4 rfl (by rfl) (by decide) rfl ?_
      refine V_goto (tgt := 24) dX3_writeHonours_42 (by decide) ?_
      refine V_sub [1, 2, 3, 4, 0] rfl ?_
      exact ih _ _ _ _ _ _ h
def f_X3_writeHonours_6 (n : Nat) (a0 : Nat) (a1 : Nat) (a2 : Nat) (i3 : Int32) (M : zM) : Option (Unit × zM) := match n with
  | 0 => none
  | n + 1 =>
    if mK M a2 = 1 ∨ mK M a2 = 301 then
    (f_J0_length_8abf5 a2 M).bind fun r1 =>
    if r1.1 ≤ i3 then
    some ((), r1.2)
    else
    if mK r1.2 a1 = 7 then
    (f_X1_count a1 ((((18 : Int32)) + i3)) r1.2).bind fun r3 =>
    f_X3_writeHonours_24 (f_X3_writeHonours_6 n) zN a0 a1 a2 i3 r3.1 r3.2
    else none
    else none
set_option maxRecDepth 20000 in
set_option maxHeartbeats 4000000 in
theorem s_X3_writeHonours_6 {L : zL} {X : zX} {M0 : zM} {N : Nat × Nat} {Q : State → Prop} {r : Unit × zM} (hq : vQ L X M0 N Q none r.2) {n : Nat} {a0 : Nat} {a1 : Nat} {a2 : Nat} {i3 : Int32} {M : zM} : f_X3_writeHonours_6 n a0 a1 a2 i3 M = some r → V L X yX3_writeHonours cX3_writeHonours 5 (none : Option FieldType) 7 M0 N Q M 6 [(0, .ref (zad L (a0))), (1, .ref (zad L (a1))), (2, .ref (zad L (a2))), (3, .int (i3))] [] := by
  induction n generalizing a0 a1 a2 i3 M with
  | zero =>
    intro h
    rw [f_X3_writeHonours_6] at h
    cases h
  | succ n ih0 =>
    intro h
    have ih : ∀ (a0 : Nat) (a1 : Nat) (a2 : Nat) (i3 : Int32) (M : zM), f_X3_writeHonours_6 n a0 a1 a2 i3 M = some r → V L X yX3_writeHonours cX3_writeHonours 5 (none : Option FieldType) 7 M0 N Q M 6 [(0, .ref (zad L (a0))), (1, .ref (zad L (a1))), (2, .ref (zad L (a2))), (3, .int (i3))] [] := fun a0 a1 a2 i3 M h => ih0 h
    rw [f_X3_writeHonours_6] at h
    refine V_iload_n dX3_writeHonours_6 rfl 3 rfl ?_
    refine V_aload_n dX3_writeHonours_7 rfl 2 rfl ?_
    replace h := ox h
    obtain ⟨c2, h⟩ := h
    replace h := ob h
    obtain ⟨r1, e_r1, h⟩ := h
    refine V_callV_I (As := []) (rest := [.int (i3)]) (c_J0_length_8abf5 e_r1) zc_J0_length_8abf5 rfl (by decide) rfl (by decide) (c2) zm_X3_322 (Nat.le_of_ble_eq_true rfl) rfl dX3_writeHonours_8 ?_
    refine V_pc (pc' := 11) rfl ?_
    refine V_icmp_ge (tgt := 51) dX3_writeHonours_11 (by decide) (fun c5 => ?_) (fun c5 => ?_)
    · replace h := (oi h).1 c5
      obtain rfl := Option.some.inj h
      exact V_vret rfl hq dX3_writeHonours_51
    · replace h := (oi h).2 c5
      refine V_aload_n dX3_writeHonours_14 rfl 1 rfl ?_
      refine V_bipush (v := 18) dX3_writeHonours_15 (by decide) ?_
      refine V_iload_n dX3_writeHonours_17 rfl 3 rfl ?_
      refine V_iadd dX3_writeHonours_18 ?_
      replace h := ox h
      obtain ⟨c4, h⟩ := h
      replace h := ob h
      obtain ⟨r3, e_r3, h⟩ := h
      refine V_callV_I (As := [.int ((((18 : Int32)) + i3))]) (rest := []) (c_X1_count e_r3) zc_X1_count rfl (by decide) rfl (by decide) (Or.inl c4) zm_X3_112 (Nat.le_of_ble_eq_true rfl) rfl dX3_writeHonours_19 ?_
      refine V_pc (pc' := 22) rfl ?_
      refine V_istore (ls' := [(4, .int (r3.1)), (0, .ref (zad L (a0))), (1, .ref (zad L (a1))), (2, .ref (zad L (a2))), (3, .int (i3))]) dX3_writeHonours_22 (by decide) rfl ?_
      refine V_sub [1, 2, 3, 4, 0] rfl ?_
      exact s_X3_writeHonours_24 ih hq h
def f_X3_writeHonours_0 (a0 : Nat) (a1 : Nat) (M : zM) : Option (Unit × zM) :=
  f_X3_writeHonours_6 zN a0 a1 20 ((0 : Int32)) M
set_option maxRecDepth 20000 in
set_option maxHeartbeats 4000000 in
theorem s_X3_writeHonours_0 {L : zL} {X : zX} {M0 : zM} {N : Nat × Nat} {Q : State → Prop} {r : Unit × zM} (hq : vQ L X M0 N Q none r.2) {a0 : Nat} {a1 : Nat} {M : zM} (h : f_X3_writeHonours_0 a0 a1 M = some r) : V L X yX3_writeHonours cX3_writeHonours 5 (none : Option FieldType) 7 M0 N Q M 0 [(0, .ref (zad L (a0))), (1, .ref (zad L (a1)))] [] := by
  unfold f_X3_writeHonours_0 at h
  refine V_ldcSw (zqs_20 L) dX3_writeHonours_0 ?_
  refine V_astore_n (ls' := [(2, .ref (zad L (20))), (0, .ref (zad L (a0))), (1, .ref (zad L (a1)))]) dX3_writeHonours_3 rfl (by decide) rfl ?_
  refine V_iconst (v := 0) dX3_writeHonours_4 (by decide) ?_
  refine V_istore_n (ls' := [(3, .int ((0 : Int32))), (2, .ref (zad L (20))), (0, .ref (zad L (a0))), (1, .ref (zad L (a1)))]) dX3_writeHonours_5 rfl (by decide) rfl ?_
  refine V_sub [2, 3, 1, 0] rfl ?_
  exact s_X3_writeHonours_6 hq h
def f_X3_writeHonours (a0 : Nat) (a1 : Nat) (M : zM) : Option (Unit × zM) := f_X3_writeHonours_0 a0 a1 M
theorem c_X3_writeHonours {L : zL} {l : Launch} {a0 : Nat} {a1 : Nat} {M : zM} {r : Unit × zM} (h : f_X3_writeHonours a0 a1 M = some r) : CP L l yX3_writeHonours cX3_writeHonours 5 (none : Option FieldType) 7 M [.ref (zad L (a0)), .ref (zad L (a1))] none r.2 :=
  CP.of ⟨by decide +kernel, by decide +kernel⟩ (Nat.le_of_ble_eq_true rfl) fun X Q hq => s_X3_writeHonours_0 hq h
/-! Windsparlour.writeSuit(Ljava/lang/StringBuilder;LWindsparlour$Seat;IC)V -/
theorem dX3_writeSuit_0 : decode cX3_writeSuit 0 = .ok (.aload_n 0, 1) := by decide +kernel
theorem dX3_writeSuit_1 : decode cX3_writeSuit 1 = .ok (.invokevirtual 310, 3) := by decide +kernel
theorem dX3_writeSuit_4 : decode cX3_writeSuit 4 = .ok (.istore 4, 2) := by decide +kernel
theorem dX3_writeSuit_6 : decode cX3_writeSuit 6 = .ok (.iconst 1, 1) := by decide +kernel
theorem dX3_writeSuit_7 : decode cX3_writeSuit 7 = .ok (.istore 5, 2) := by decide +kernel
theorem dX3_writeSuit_9 : decode cX3_writeSuit 9 = .ok (.iload 5, 2) := by decide +kernel
theorem dX3_writeSuit_11 : decode cX3_writeSuit 11 = .ok (.bipush 9, 2) := by decide +kernel
theorem dX3_writeSuit_13 : decode cX3_writeSuit 13 = .ok (.if_icmp .gt 39, 3) := by decide +kernel
theorem dX3_writeSuit_16 : decode cX3_writeSuit 16 = .ok (.aload_n 1, 1) := by decide +kernel
theorem dX3_writeSuit_17 : decode cX3_writeSuit 17 = .ok (.iload_n 2, 1) := by decide +kernel
theorem dX3_writeSuit_18 : decode cX3_writeSuit 18 = .ok (.iload 5, 2) := by decide +kernel
theorem dX3_writeSuit_20 : decode cX3_writeSuit 20 = .ok (.iadd, 1) := by decide +kernel
theorem dX3_writeSuit_21 : decode cX3_writeSuit 21 = .ok (.iconst 1, 1) := by decide +kernel
theorem dX3_writeSuit_22 : decode cX3_writeSuit 22 = .ok (.isub, 1) := by decide +kernel
theorem dX3_writeSuit_23 : decode cX3_writeSuit 23 = .ok (.invokevirtual 112, 3) := by decide +kernel
theorem dX3_writeSuit_26 : decode cX3_writeSuit 26 = .ok (.istore 6, 2) := by decide +kernel
theorem dX3_writeSuit_28 : decode cX3_writeSuit 28 = .ok (.iload 6, 2) := by decide +kernel
theorem dX3_writeSuit_30 : decode cX3_writeSuit 30 = .ok (.ifCond .le 16, 3) := by decide +kernel
theorem dX3_writeSuit_33 : decode cX3_writeSuit 33 = .ok (.aload_n 0, 1) := by decide +kernel
theorem dX3_writeSuit_34 : decode cX3_writeSuit 34 = .ok (.iload 5, 2) := by decide +kernel
theorem dX3_writeSuit_36 : decode cX3_writeSuit 36 = .ok (.invokevirtual 313, 3) := by decide +kernel
theorem dX3_writeSuit_39 : decode cX3_writeSuit 39 = .ok (.pop, 1) := by decide +kernel
theorem dX3_writeSuit_40 : decode cX3_writeSuit 40 = .ok (.iinc 6 (-1), 3) := by decide +kernel
theorem dX3_writeSuit_43 : decode cX3_writeSuit 43 = .ok (.goto (-15), 3) := by decide +kernel
theorem dX3_writeSuit_46 : decode cX3_writeSuit 46 = .ok (.iinc 5 1, 3) := by decide +kernel
theorem dX3_writeSuit_49 : decode cX3_writeSuit 49 = .ok (.goto (-40), 3) := by decide +kernel
theorem dX3_writeSuit_52 : decode cX3_writeSuit 52 = .ok (.aload_n 0, 1) := by decide +kernel
theorem dX3_writeSuit_53 : decode cX3_writeSuit 53 = .ok (.invokevirtual 310, 3) := by decide +kernel
theorem dX3_writeSuit_56 : decode cX3_writeSuit 56 = .ok (.iload 4, 2) := by decide +kernel
theorem dX3_writeSuit_58 : decode cX3_writeSuit 58 = .ok (.if_icmp .le 9, 3) := by decide +kernel
theorem dX3_writeSuit_61 : decode cX3_writeSuit 61 = .ok (.aload_n 0, 1) := by decide +kernel
theorem dX3_writeSuit_62 : decode cX3_writeSuit 62 = .ok (.iload_n 3, 1) := by decide +kernel
theorem dX3_writeSuit_63 : decode cX3_writeSuit 63 = .ok (.invokevirtual 317, 3) := by decide +kernel
theorem dX3_writeSuit_66 : decode cX3_writeSuit 66 = .ok (.pop, 1) := by decide +kernel
theorem dX3_writeSuit_67 : decode cX3_writeSuit 67 = .ok (.return_, 1) := by decide +kernel
def f_X3_writeSuit_28 (K9 : Nat → Nat → Int32 → Int32 → Int32 → Int32 → zM → Option (Unit × zM)) (n : Nat) (a0 : Nat) (a1 : Nat) (i2 : Int32) (i3 : Int32) (i4 : Int32) (i5 : Int32) (i6 : Int32) (M : zM) : Option (Unit × zM) := match n with
  | 0 => none
  | n + 1 =>
    if i6 ≤ 0 then
    K9 a0 a1 i2 i3 i4 ((i5 + (1 : Int32))) M
    else
    if mK M a0 = 2 then
    (f_J4_append_bf812 a0 i5 M).bind fun r1 =>
    f_X3_writeSuit_28 K9 n a0 a1 i2 i3 i4 i5 ((i6 + (-1 : Int32))) r1.2
    else none
set_option maxRecDepth 20000 in
set_option maxHeartbeats 4000000 in
theorem s_X3_writeSuit_28 {L : zL} {X : zX} {M0 : zM} {N : Nat × Nat} {Q : State → Prop} {r : Unit × zM} {K9 : Nat → Nat → Int32 → Int32 → Int32 → Int32 → zM → Option (Unit × zM)} (hK9 : ∀ (a0 : Nat) (a1 : Nat) (i2 : Int32) (i3 : Int32) (i4 : Int32) (i5 : Int32) (M : zM), K9 a0 a1 i2 i3 i4 i5 M = some r → V L X yX3_writeSuit cX3_writeSuit 7 (none : Option FieldType) 7 M0 N Q M 9 [(0, .ref (zad L (a0))), (1, .ref (zad L (a1))), (2, .int (i2)), (3, .int (i3)), (4, .int (i4)), (5, .int (i5))] []) (hq : vQ L X M0 N Q none r.2) {n : Nat} {a0 : Nat} {a1 : Nat} {i2 : Int32} {i3 : Int32} {i4 : Int32} {i5 : Int32} {i6 : Int32} {M : zM} : f_X3_writeSuit_28 K9 n a0 a1 i2 i3 i4 i5 i6 M = some r → V L X yX3_writeSuit cX3_writeSuit 7 (none : Option FieldType) 7 M0 N Q M 28 [(0, .ref (zad L (a0))), (1, .ref (zad L (a1))), (2, .int (i2)), (3, .int (i3)), (4, .int (i4)), (5, .int (i5)), (6, .int (i6))] [] := by
  induction n generalizing a0 a1 i2 i3 i4 i5 i6 M with
  | zero =>
    intro h
    rw [f_X3_writeSuit_28] at h
    cases h
  | succ n ih0 =>
    intro h
    have ih : ∀ (a0 : Nat) (a1 : Nat) (i2 : Int32) (i3 : Int32) (i4 : Int32) (i5 : Int32) (i6 : Int32) (M : zM), f_X3_writeSuit_28 K9 n a0 a1 i2 i3 i4 i5 i6 M = some r → V L X yX3_writeSuit cX3_writeSuit 7 (none : Option FieldType) 7 M0 N Q M 28 [(0, .ref (zad L (a0))), (1, .ref (zad L (a1))), (2, .int (i2)), (3, .int (i3)), (4, .int (i4)), (5, .int (i5)), (6, .int (i6))] [] := fun a0 a1 i2 i3 i4 i5 i6 M h => ih0 h
    rw [f_X3_writeSuit_28] at h
    refine V_iload dX3_writeSuit_28 6 rfl ?_
    refine V_if_le (tgt := 46) dX3_writeSuit_30 (by decide) (fun c3 => ?_) (fun c3 => ?_)
    · replace h := (oi h).1 c3
      refine V_iinc (v := i5 + (1 : Int32)) (ls' := [(5, .int ((i5 + (1 : Int32)))), (0, .ref (zad L (a0))), (1, .ref (zad L (a1))), (2, .int (i2)), (3, .int (i3)), (4, .int (i4)), (6, .int (i6))]) dX3_writeSuit_46 5 rfl (by rfl) (by decide) rfl ?_
      refine V_goto (tgt := 9) dX3_writeSuit_49 (by decide) ?_
      refine V_sub [1, 2, 3, 4, 5, 0] rfl ?_
      exact hK9 _ _ _ _ _ _ _ h
    · replace h := (oi h).2 c3
      refine V_aload_n dX3_writeSuit_33 rfl 0 rfl ?_
      refine V_iload dX3_writeSuit_34 5 rfl ?_
      replace h := ox h
      obtain ⟨c2, h⟩ := h
      replace h := ob h
      obtain ⟨r1, e_r1, h⟩ := h
      refine V_callV_A (As := [.int (i5)]) (rest := []) (c_J4_append_bf812 e_r1) zc_J4_append_bf812 rfl (by decide) rfl (by decide) (Or.inl c2) zm_X3_313 (Nat.le_of_ble_eq_true rfl) rfl dX3_writeSuit_36 ?_
      refine V_pc (pc' := 39) rfl ?_
      refine V_pop dX3_writeSuit_39 rfl ?_
      refine V_iinc (v := i6 + (-1 : Int32)) (ls' := [(6, .int ((i6 + (-1 : Int32)))), (0, .ref (zad L (a0))), (1, .ref (zad L (a1))), (2, .int (i2)), (3, .int (i3)), (4, .int (i4)), (5, .int (i5))]) dX3_writeSuit_40 6 rfl (by rfl) (by decide) rfl ?_
      refine V_goto (tgt := 28) dX3_writeSuit_43 (by decide) ?_
      refine V_sub [1, 2, 3, 4, 5, 6, 0] rfl ?_
      exact ih _ _ _ _ _ _ _ _ h
def f_X3_writeSuit_9 (n : Nat) (a0 : Nat) (a1 : Nat) (i2 : Int32) (i3 : Int32) (i4 : Int32) (i5 : Int32) (M : zM) : Option (Unit × zM) := match n with
  | 0 => none
  | n + 1 =>
    if ((9 : Int32)) < i5 then
    if mK M a0 = 2 then
    (f_J4_length_8abf5 a0 M).bind fun r1 =>
    if r1.1 ≤ i4 then
    some ((), r1.2)
    else
    if mK r1.2 a0 = 2 then
    (f_J4_append_cf468 a0 i3 r1.2).bind fun r3 =>
    some ((), r3.2)
    else none
    else none
    else
    if mK M a1 = 7 then
    (f_X1_count a1 ((((i2 + i5)) - ((1 : Int32)))) M).bind fun r6 =>
    f_X3_writeSuit_28 (f_X3_writeSuit_9 n) zN a0 a1 i2 i3 i4 i5 r6.1 r6.2
    else none
set_option maxRecDepth 20000 in
set_option maxHeartbeats 4000000 in
theorem s_X3_writeSuit_9 {L : zL} {X : zX} {M0 : zM} {N : Nat × Nat} {Q : State → Prop} {r : Unit × zM} (hq : vQ L X M0 N Q none r.2) {n : Nat} {a0 : Nat} {a1 : Nat} {i2 : Int32} {i3 : Int32} {i4 : Int32} {i5 : Int32} {M : zM} : f_X3_writeSuit_9 n a0 a1 i2 i3 i4 i5 M = some r → V L X yX3_writeSuit cX3_writeSuit 7 (none : Option FieldType) 7 M0 N Q M 9 [(0, .ref (zad L (a0))), (1, .ref (zad L (a1))), (2, .int (i2)), (3, .int (i3)), (4, .int (i4)), (5, .int (i5))] [] := by
  induction n generalizing a0 a1 i2 i3 i4 i5 M with
  | zero =>
    intro h
    rw [f_X3_writeSuit_9] at h
    cases h
  | succ n ih0 =>
    intro h
    have ih : ∀ (a0 : Nat) (a1 : Nat) (i2 : Int32) (i3 : Int32) (i4 : Int32) (i5 : Int32) (M : zM), f_X3_writeSuit_9 n a0 a1 i2 i3 i4 i5 M = some r → V L X yX3_writeSuit cX3_writeSuit 7 (none : Option FieldType) 7 M0 N Q M 9 [(0, .ref (zad L (a0))), (1, .ref (zad L (a1))), (2, .int (i2)), (3, .int (i3)), (4, .int (i4)), (5, .int (i5))] [] := fun a0 a1 i2 i3 i4 i5 M h => ih0 h
    rw [f_X3_writeSuit_9] at h
    refine V_iload dX3_writeSuit_9 5 rfl ?_
    refine V_bipush (v := 9) dX3_writeSuit_11 (by decide) ?_
    refine V_icmp_gt (tgt := 52) dX3_writeSuit_13 (by decide) (fun c8 => ?_) (fun c8 => ?_)
    · replace h := (oi h).1 c8
      refine V_aload_n dX3_writeSuit_52 rfl 0 rfl ?_
      replace h := ox h
      obtain ⟨c2, h⟩ := h
      replace h := ob h
      obtain ⟨r1, e_r1, h⟩ := h
      refine V_callV_I (As := []) (rest := []) (c_J4_length_8abf5 e_r1) zc_J4_length_8abf5 rfl (by decide) rfl (by decide) (Or.inl c2) zm_X3_310 (Nat.le_of_ble_eq_true rfl) rfl dX3_writeSuit_53 ?_
      refine V_pc (pc' := 56) rfl ?_
      refine V_iload dX3_writeSuit_56 4 rfl ?_
      refine V_icmp_le (tgt := 67) dX3_writeSuit_58 (by decide) (fun c5 => ?_) (fun c5 => ?_)
      · replace h := (oi h).1 c5
        obtain rfl := Option.some.inj h
        exact V_vret rfl hq dX3_writeSuit_67
      · replace h := (oi h).2 c5
        refine V_aload_n dX3_writeSuit_61 rfl 0 rfl ?_
        refine V_iload_n dX3_writeSuit_62 rfl 3 rfl ?_
        replace h := ox h
        obtain ⟨c4, h⟩ := h
        replace h := ob h
        obtain ⟨r3, e_r3, h⟩ := h
        refine V_callV_A (As := [.int (i3)]) (rest := []) (c_J4_append_cf468 e_r3) zc_J4_append_cf468 rfl (by decide) rfl (by decide) (Or.inl c4) zm_X3_317 (Nat.le_of_ble_eq_true rfl) rfl dX3_writeSuit_63 ?_
        refine V_pc (pc' := 66) rfl ?_
        refine V_pop dX3_writeSuit_66 rfl ?_
        obtain rfl := Option.some.inj h
        exact V_vret rfl hq dX3_writeSuit_67
    · replace h := (oi h).2 c8
      refine V_aload_n dX3_writeSuit_16 rfl 1 rfl ?_
      refine V_iload_n dX3_writeSuit_17 rfl 2 rfl ?_
      refine V_iload dX3_writeSuit_18 5 rfl ?_
      refine V_iadd dX3_writeSuit_20 ?_
      refine V_iconst (v := 1) dX3_writeSuit_21 (by decide) ?_
      refine V_isub dX3_writeSuit_22 ?_
      replace h := ox h
      obtain ⟨c7, h⟩ := h
      replace h := ob h
      obtain ⟨r6, e_r6, h⟩ := h
      refine V_callV_I (As := [.int ((((i2 + i5)) - ((1 : Int32))))]) (rest := []) (c_X1_count e_r6) zc_X1_count rfl (by decide) rfl (by decide) (Or.inl c7) zm_X3_112 (Nat.le_of_ble_eq_true rfl) rfl dX3_writeSuit_23 ?_
      refine V_pc (pc' := 26) rfl ?_
      refine V_istore (ls' := [(6, .int (r6.1)), (0, .ref (zad L (a0))), (1, .ref (zad L (a1))), (2, .int (i2)), (3, .int (i3)), (4, .int (i4)), (5, .int (i5))]) dX3_writeSuit_26 (by decide) rfl ?_
      refine V_sub [1, 2, 3, 4, 5, 6, 0] rfl ?_
      exact s_X3_writeSuit_28 ih hq h
def f_X3_writeSuit_0 (a0 : Nat) (a1 : Nat) (i2 : Int32) (i3 : Int32) (M : zM) : Option (Unit × zM) :=
  if mK M a0 = 2 then
  (f_J4_length_8abf5 a0 M).bind fun r1 =>
  f_X3_writeSuit_9 zN a0 a1 i2 i3 r1.1 ((1 : Int32)) r1.2
  else none
set_option maxRecDepth 20000 in
set_option maxHeartbeats 4000000 in
theorem s_X3_writeSuit_0 {L : zL} {X : zX} {M0 : zM} {N : Nat × Nat} {Q : State → Prop} {r : Unit × zM} (hq : vQ L X M0 N Q none r.2) {a0 : Nat} {a1 : Nat} {i2 : Int32} {i3 : Int32} {M : zM} (h : f_X3_writeSuit_0 a0 a1 i2 i3 M = some r) : V L X yX3_writeSuit cX3_writeSuit 7 (none : Option FieldType) 7 M0 N Q M 0 [(0, .ref (zad L (a0))), (1, .ref (zad L (a1))), (2, .int (i2)), (3, .int (i3))] [] := by
  unfold f_X3_writeSuit_0 at h
  refine V_aload_n dX3_writeSuit_0 rfl 0 rfl ?_
  replace h := ox h
  obtain ⟨c2, h⟩ := h
  replace h := ob h
  obtain ⟨r1, e_r1, h⟩ := h
  refine V_callV_I (As := []) (rest := []) (c_J4_length_8abf5 e_r1) zc_J4_length_8abf5 rfl (by decide) rfl (by decide) (Or.inl c2) zm_X3_310 (Nat.le_of_ble_eq_true rfl) rfl dX3_writeSuit_1 ?_
  refine V_pc (pc' := 4) rfl ?_
  refine V_istore (ls' := [(4, .int (r1.1)), (0, .ref (zad L (a0))), (1, .ref (zad L (a1))), (2, .int (i2)), (3, .int (i3))]) dX3_writeSuit_4 (by decide) rfl ?_
  refine V_iconst (v := 1) dX3_writeSuit_6 (by decide) ?_
  refine V_istore (ls' := [(5, .int ((1 : Int32))), (4, .int (r1.1)), (0, .ref (zad L (a0))), (1, .ref (zad L (a1))), (2, .int (i2)), (3, .int (i3))]) dX3_writeSuit_7 (by decide) rfl ?_
  refine V_sub [2, 3, 4, 5, 1, 0] rfl ?_
  exact s_X3_writeSuit_9 hq h
def f_X3_writeSuit (a0 : Nat) (a1 : Nat) (i2 : Int32) (i3 : Int32) (M : zM) : Option (Unit × zM) := f_X3_writeSuit_0 a0 a1 i2 i3 M
theorem c_X3_writeSuit {L : zL} {l : Launch} {a0 : Nat} {a1 : Nat} {i2 : Int32} {i3 : Int32} {M : zM} {r : Unit × zM} (h : f_X3_writeSuit a0 a1 i2 i3 M = some r) : CP L l yX3_writeSuit cX3_writeSuit 7 (none : Option FieldType) 7 M [.ref (zad L (a0)), .ref (zad L (a1)), .int (i2), .int (i3)] none r.2 :=
  CP.of ⟨by decide +kernel, by decide +kernel⟩ (Nat.le_of_ble_eq_true rfl) fun X Q hq => s_X3_writeSuit_0 hq h
/-! Windsparlour.hand(I)Ljava/lang/String; -/
theorem dX3_hand_0 : decode cX3_hand 0 = .ok (.iload_n 1, 1) := by decide +kernel
theorem dX3_hand_1 : decode cX3_hand 1 = .ok (.invokestatic 143, 3) := by decide +kernel
theorem dX3_hand_4 : decode cX3_hand 4 = .ok (.aload_n 0, 1) := by decide +kernel
theorem dX3_hand_5 : decode cX3_hand 5 = .ok (.getfield 11, 3) := by decide +kernel
theorem dX3_hand_8 : decode cX3_hand 8 = .ok (.iload_n 1, 1) := by decide +kernel
theorem dX3_hand_9 : decode cX3_hand 9 = .ok (.aaload, 1) := by decide +kernel
theorem dX3_hand_10 : decode cX3_hand 10 = .ok (.astore_n 2, 1) := by decide +kernel
theorem dX3_hand_11 : decode cX3_hand 11 = .ok (.new 235, 3) := by decide +kernel
theorem dX3_hand_14 : decode cX3_hand 14 = .ok (.dup, 1) := by decide +kernel
theorem dX3_hand_15 : decode cX3_hand 15 = .ok (.invokespecial 237, 3) := by decide +kernel
theorem dX3_hand_18 : decode cX3_hand 18 = .ok (.astore_n 3, 1) := by decide +kernel
theorem dX3_hand_19 : decode cX3_hand 19 = .ok (.aload_n 3, 1) := by decide +kernel
theorem dX3_hand_20 : decode cX3_hand 20 = .ok (.aload_n 2, 1) := by decide +kernel
theorem dX3_hand_21 : decode cX3_hand 21 = .ok (.iconst 0, 1) := by decide +kernel
theorem dX3_hand_22 : decode cX3_hand 22 = .ok (.bipush 100, 2) := by decide +kernel
theorem dX3_hand_24 : decode cX3_hand 24 = .ok (.invokestatic 238, 3) := by decide +kernel
theorem dX3_hand_27 : decode cX3_hand 27 = .ok (.aload_n 3, 1) := by decide +kernel
theorem dX3_hand_28 : decode cX3_hand 28 = .ok (.aload_n 2, 1) := by decide +kernel
theorem dX3_hand_29 : decode cX3_hand 29 = .ok (.bipush 9, 2) := by decide +kernel
theorem dX3_hand_31 : decode cX3_hand 31 = .ok (.bipush 98, 2) := by decide +kernel
theorem dX3_hand_33 : decode cX3_hand 33 = .ok (.invokestatic 238, 3) := by decide +kernel
theorem dX3_hand_36 : decode cX3_hand 36 = .ok (.aload_n 3, 1) := by decide +kernel
theorem dX3_hand_37 : decode cX3_hand 37 = .ok (.aload_n 2, 1) := by decide +kernel
theorem dX3_hand_38 : decode cX3_hand 38 = .ok (.invokestatic 242, 3) := by decide +kernel
theorem dX3_hand_41 : decode cX3_hand 41 = .ok (.aload_n 3, 1) := by decide +kernel
theorem dX3_hand_42 : decode cX3_hand 42 = .ok (.invokevirtual 246, 3) := by decide +kernel
theorem dX3_hand_45 : decode cX3_hand 45 = .ok (.areturn, 1) := by decide +kernel
def f_X3_hand_0 (a0 : Nat) (i1 : Int32) (M : zM) : Option ((String ⊕ Nat) × zM) :=
  xb (f_X3_requirePlayer i1 M) fun w1 Mw1 =>
  (gR 9 0 Mw1 a0).bind fun v10 =>
  (lQ 1 Mw1 v10 i1).bind fun v11 =>
  (f_J4_init_da8c8 (mX Mw1) (nO Mw1 2 4)).bind fun r12 =>
  (f_X3_writeSuit (mX Mw1) v11 ((0 : Int32)) ((100 : Int32)) r12.2).bind fun r13 =>
  (f_X3_writeSuit (mX Mw1) v11 ((9 : Int32)) ((98 : Int32)) r13.2).bind fun r14 =>
  (f_X3_writeHonours (mX Mw1) v11 r14.2).bind fun r15 =>
  if mK r15.2 (mX Mw1) = 2 then
  (f_J4_toString_0e30d (mX Mw1) r15.2).bind fun r16 =>
  some (Sum.inr (r16.1), r16.2)
  else none
set_option maxRecDepth 20000 in
set_option maxHeartbeats 4000000 in
theorem s_X3_hand_0 {L : zL} {X : zX} {M0 : zM} {N : Nat × Nat} {Q : State → Prop} {r : (String ⊕ Nat) × zM} (hq : vQX L X M0 N Q (zoA L r.1) r.2) {a0 : Nat} {i1 : Int32} {M : zM} (h : f_X3_hand_0 a0 i1 M = some r) : V L X yX3_hand cX3_hand 4 (Option.some (FieldType.object "java/lang/String")) 13 M0 N Q M 0 [(0, .ref (zad L (a0))), (1, .int (i1))] [] := by
  unfold f_X3_hand_0 at h
  refine V_iload_n dX3_hand_0 rfl 1 rfl ?_
  replace h := xbs h
  rcases h with ⟨E_r1, M_r1, e_r1, rfl⟩ | ⟨w1, Mw1, e_r1, h⟩
  · exact V_callSt (As := [.int (i1)]) (rest := []) (c_X3_requirePlayer e_r1) hq (by decide +kernel) zc_X3_requirePlayer rfl (by decide) zm_X3_143 (Nat.le_of_ble_eq_true rfl) rfl dX3_hand_1
  · refine V_callSx_V (As := [.int (i1)]) (rest := []) (c_X3_requirePlayer e_r1) zc_X3_requirePlayer rfl (by decide) zm_X3_143 (Nat.le_of_ble_eq_true rfl) rfl dX3_hand_1 ?_
    refine V_pc (pc' := 4) rfl ?_
    refine V_aload_n dX3_hand_4 rfl 0 rfl ?_
    replace h := ob h
    obtain ⟨v10, e_v10, h⟩ := h
    refine V_getR zf_9_0 zl_X3_11 e_v10 dX3_hand_5 ?_
    refine V_pc (pc' := 8) rfl ?_
    refine V_iload_n dX3_hand_8 rfl 1 rfl ?_
    replace h := ob h
    obtain ⟨v11, e_v11, h⟩ := h
    refine V_aald (by decide) e_v11 dX3_hand_9 ?_
    refine V_pc (pc' := 10) rfl ?_
    refine V_astore_n (ls' := [(2, .ref (zad L (v11))), (0, .ref (zad L (a0))), (1, .int (i1))]) dX3_hand_10 rfl (by decide) rfl ?_
    refine V_new (by decide) rfl zin2 zty2 zdf2 zn_X3_235 dX3_hand_11 ?_
    refine V_dup dX3_hand_14 rfl ?_
    replace h := ob h
    obtain ⟨r12, e_r12, h⟩ := h
    refine V_callI_V (As := []) (rest := [.ref (zad L (mX Mw1))]) (c_J4_init_da8c8 e_r12) zc_J4_init_da8c8 rfl (by decide) zm_X3_237 rfl (Nat.le_of_ble_eq_true rfl) rfl dX3_hand_15 ?_
    refine V_pc (pc' := 18) rfl ?_
    refine V_astore_n (ls' := [(3, .ref (zad L (mX Mw1))), (2, .ref (zad L (v11))), (0, .ref (zad L (a0))), (1, .int (i1))]) dX3_hand_18 rfl (by decide) rfl ?_
    refine V_aload_n dX3_hand_19 rfl 0 rfl ?_
    refine V_aload_n dX3_hand_20 rfl 1 rfl ?_
    refine V_iconst (v := 0) dX3_hand_21 (by decide) ?_
    refine V_bipush (v := 100) dX3_hand_22 (by decide) ?_
    replace h := ob h
    obtain ⟨r13, e_r13, h⟩ := h
    refine V_callS_V (As := [.ref (zad L (mX Mw1)), .ref (zad L (v11)), .int ((0 : Int32)), .int ((100 : Int32))]) (rest := []) (c_X3_writeSuit e_r13) zc_X3_writeSuit rfl (by decide) zm_X3_238 (Nat.le_of_ble_eq_true rfl) rfl dX3_hand_24 ?_
    refine V_pc (pc' := 27) rfl ?_
    refine V_aload_n dX3_hand_27 rfl 0 rfl ?_
    refine V_aload_n dX3_hand_28 rfl 1 rfl ?_
    refine V_bipush (v := 9) dX3_hand_29 (by decide) ?_
    refine V_bipush (v := 98) dX3_hand_31 (by decide) ?_
    replace h := ob h
    obtain ⟨r14, e_r14, h⟩ := h
    refine V_callS_V (As := [.ref (zad L (mX Mw1)), .ref (zad L (v11)), .int ((9 : Int32)), .int ((98 : Int32))]) (rest := []) (c_X3_writeSuit e_r14) zc_X3_writeSuit rfl (by decide) zm_X3_238 (Nat.le_of_ble_eq_true rfl) rfl dX3_hand_33 ?_
    refine V_pc (pc' := 36) rfl ?_
    refine V_aload_n dX3_hand_36 rfl 0 rfl ?_
    refine V_aload_n dX3_hand_37 rfl 1 rfl ?_
    replace h := ob h
    obtain ⟨r15, e_r15, h⟩ := h
    refine V_callS_V (As := [.ref (zad L (mX Mw1)), .ref (zad L (v11))]) (rest := []) (c_X3_writeHonours e_r15) zc_X3_writeHonours rfl (by decide) zm_X3_242 (Nat.le_of_ble_eq_true rfl) rfl dX3_hand_38 ?_
    refine V_pc (pc' := 41) rfl ?_
    refine V_aload_n dX3_hand_41 rfl 0 rfl ?_
    replace h := ox h
    obtain ⟨c17, h⟩ := h
    replace h := ob h
    obtain ⟨r16, e_r16, h⟩ := h
    refine V_callV_A (As := []) (rest := []) (c_J4_toString_0e30d e_r16) zc_J4_toString_0e30d rfl (by decide) rfl (by decide) (Or.inl c17) zm_X3_246 (Nat.le_of_ble_eq_true rfl) rfl dX3_hand_42 ?_
    refine V_pc (pc' := 45) rfl ?_
    obtain rfl := Option.some.inj h
    exact V_aretX rfl (by first | exact Or.inl ⟨_, rfl⟩ | exact Or.inr ⟨_, rfl⟩) hq dX3_hand_45
def f_X3_hand (a0 : Nat) (i1 : Int32) (M : zM) : Option ((String ⊕ Nat) × zM) := f_X3_hand_0 a0 i1 M
theorem c_X3_hand {L : zL} {l : Launch} {a0 : Nat} {i1 : Int32} {M : zM} {r : (String ⊕ Nat) × zM} (h : f_X3_hand a0 i1 M = some r) : CX L l yX3_hand cX3_hand 4 (Option.some (FieldType.object "java/lang/String")) 13 M [.ref (zad L (a0)), .int (i1)] (zoA L r.1) r.2 :=
  CX.of ⟨by decide +kernel, by decide +kernel⟩ (Nat.le_of_ble_eq_true rfl) fun X Q hq => s_X3_hand_0 hq h
/-! Windsparlour.many(I)I -/
theorem dX3_many_0 : decode cX3_many 0 = .ok (.iload_n 1, 1) := by decide +kernel
theorem dX3_many_1 : decode cX3_many 1 = .ok (.tableswitch 132 0 9 #[55, 60, 77, 82, 87, 107, 112, 117, 122, 127], 55) := by decide +kernel
theorem dX3_many_56 : decode cX3_many 56 = .ok (.aload_n 0, 1) := by decide +kernel
theorem dX3_many_57 : decode cX3_many 57 = .ok (.getfield 42, 3) := by decide +kernel
theorem dX3_many_60 : decode cX3_many 60 = .ok (.ireturn, 1) := by decide +kernel
theorem dX3_many_61 : decode cX3_many 61 = .ok (.aload_n 0, 1) := by decide +kernel
theorem dX3_many_62 : decode cX3_many 62 = .ok (.getfield 42, 3) := by decide +kernel
theorem dX3_many_65 : decode cX3_many 65 = .ok (.iconst 3, 1) := by decide +kernel
theorem dX3_many_66 : decode cX3_many 66 = .ok (.if_icmp .ne 7, 3) := by decide +kernel
theorem dX3_many_69 : decode cX3_many 69 = .ok (.iconst (-1), 1) := by decide +kernel
theorem dX3_many_70 : decode cX3_many 70 = .ok (.goto 7, 3) := by decide +kernel
theorem dX3_many_73 : decode cX3_many 73 = .ok (.aload_n 0, 1) := by decide +kernel
theorem dX3_many_74 : decode cX3_many 74 = .ok (.getfield 45, 3) := by decide +kernel
theorem dX3_many_77 : decode cX3_many 77 = .ok (.ireturn, 1) := by decide +kernel
theorem dX3_many_78 : decode cX3_many 78 = .ok (.aload_n 0, 1) := by decide +kernel
theorem dX3_many_79 : decode cX3_many 79 = .ok (.invokevirtual 250, 3) := by decide +kernel
theorem dX3_many_82 : decode cX3_many 82 = .ok (.ireturn, 1) := by decide +kernel
theorem dX3_many_83 : decode cX3_many 83 = .ok (.aload_n 0, 1) := by decide +kernel
theorem dX3_many_84 : decode cX3_many 84 = .ok (.getfield 57, 3) := by decide +kernel
theorem dX3_many_87 : decode cX3_many 87 = .ok (.ireturn, 1) := by decide +kernel
theorem dX3_many_88 : decode cX3_many 88 = .ok (.aload_n 0, 1) := by decide +kernel
theorem dX3_many_89 : decode cX3_many 89 = .ok (.getfield 42, 3) := by decide +kernel
theorem dX3_many_92 : decode cX3_many 92 = .ok (.iconst 2, 1) := by decide +kernel
theorem dX3_many_93 : decode cX3_many 93 = .ok (.if_icmp .ne 13, 3) := by decide +kernel
theorem dX3_many_96 : decode cX3_many 96 = .ok (.aload_n 0, 1) := by decide +kernel
theorem dX3_many_97 : decode cX3_many 97 = .ok (.invokevirtual 108, 3) := by decide +kernel
theorem dX3_many_100 : decode cX3_many 100 = .ok (.invokevirtual 253, 3) := by decide +kernel
theorem dX3_many_103 : decode cX3_many 103 = .ok (.goto 4, 3) := by decide +kernel
theorem dX3_many_106 : decode cX3_many 106 = .ok (.iconst (-1), 1) := by decide +kernel
theorem dX3_many_107 : decode cX3_many 107 = .ok (.ireturn, 1) := by decide +kernel
theorem dX3_many_108 : decode cX3_many 108 = .ok (.aload_n 0, 1) := by decide +kernel
theorem dX3_many_109 : decode cX3_many 109 = .ok (.getfield 39, 3) := by decide +kernel
theorem dX3_many_112 : decode cX3_many 112 = .ok (.ireturn, 1) := by decide +kernel
theorem dX3_many_113 : decode cX3_many 113 = .ok (.aload_n 0, 1) := by decide +kernel
theorem dX3_many_114 : decode cX3_many 114 = .ok (.getfield 54, 3) := by decide +kernel
theorem dX3_many_117 : decode cX3_many 117 = .ok (.ireturn, 1) := by decide +kernel
theorem dX3_many_118 : decode cX3_many 118 = .ok (.aload_n 0, 1) := by decide +kernel
theorem dX3_many_119 : decode cX3_many 119 = .ok (.getfield 51, 3) := by decide +kernel
theorem dX3_many_122 : decode cX3_many 122 = .ok (.ireturn, 1) := by decide +kernel
theorem dX3_many_123 : decode cX3_many 123 = .ok (.aload_n 0, 1) := by decide +kernel
theorem dX3_many_124 : decode cX3_many 124 = .ok (.getfield 48, 3) := by decide +kernel
theorem dX3_many_127 : decode cX3_many 127 = .ok (.ireturn, 1) := by decide +kernel
theorem dX3_many_128 : decode cX3_many 128 = .ok (.aload_n 0, 1) := by decide +kernel
theorem dX3_many_129 : decode cX3_many 129 = .ok (.getfield 60, 3) := by decide +kernel
theorem dX3_many_132 : decode cX3_many 132 = .ok (.ireturn, 1) := by decide +kernel
theorem dX3_many_133 : decode cX3_many 133 = .ok (.new 71, 3) := by decide +kernel
theorem dX3_many_136 : decode cX3_many 136 = .ok (.dup, 1) := by decide +kernel
theorem dX3_many_137 : decode cX3_many 137 = .ok (.ldc_w 256, 3) := by decide +kernel
theorem dX3_many_140 : decode cX3_many 140 = .ok (.invokespecial 75, 3) := by decide +kernel
theorem dX3_many_143 : decode cX3_many 143 = .ok (.athrow, 1) := by decide +kernel
def f_X3_many_0 (a0 : Nat) (i1 : Int32) (M : zM) : Option ((String ⊕ Int32) × zM) :=
  if i1 = 0 then
  (gI 9 7 M a0).bind fun v28 =>
  some (Sum.inr (v28), M)
  else
  if i1 = 1 then
  (gI 9 7 M a0).bind fun v25 =>
  if v25 = ((3 : Int32)) then
  some (Sum.inr ((-1 : Int32)), M)
  else
  (gI 9 8 M a0).bind fun v26 =>
  some (Sum.inr (v26), M)
  else
  if i1 = 2 then
  if mK M a0 = 9 then
  (f_X3_tilesLeft a0 M).bind fun r23 =>
  some (Sum.inr (r23.1), r23.2)
  else none
  else
  if i1 = 3 then
  (gI 9 12 M a0).bind fun v22 =>
  some (Sum.inr (v22), M)
  else
  if i1 = 4 then
  (gI 9 7 M a0).bind fun v16 =>
  if v16 = ((2 : Int32)) then
  if mK M a0 = 9 then
  (f_X3_seatInTurn a0 M).bind fun r17 =>
  if mK r17.2 r17.1 = 7 then
  (f_X1_latestInRiver r17.1 r17.2).bind fun r19 =>
  some (Sum.inr (r19.1), r19.2)
  else none
  else none
  else
  some (Sum.inr ((-1 : Int32)), M)
  else
  if i1 = 5 then
  (gI 9 6 M a0).bind fun v15 =>
  some (Sum.inr (v15), M)
  else
  if i1 = 6 then
  (gI 9 11 M a0).bind fun v14 =>
  some (Sum.inr (v14), M)
  else
  if i1 = 7 then
  (gI 9 10 M a0).bind fun v13 =>
  some (Sum.inr (v13), M)
  else
  if i1 = 8 then
  (gI 9 9 M a0).bind fun v12 =>
  some (Sum.inr (v12), M)
  else
  if i1 = 9 then
  (gI 9 13 M a0).bind fun v11 =>
  some (Sum.inr (v11), M)
  else
  some (Sum.inl "java/lang/IllegalArgumentException", nE M)
set_option maxRecDepth 20000 in
set_option maxHeartbeats 4000000 in
theorem s_X3_many_0 {L : zL} {X : zX} {M0 : zM} {N : Nat × Nat} {Q : State → Prop} {r : (String ⊕ Int32) × zM} (hq : vQX L X M0 N Q (zoI r.1) r.2) {a0 : Nat} {i1 : Int32} {M : zM} (h : f_X3_many_0 a0 i1 M = some r) : V L X yX3_many cX3_many 2 (some FieldType.int) 6 M0 N Q M 0 [(0, .ref (zad L (a0))), (1, .int (i1))] [] := by
  unfold f_X3_many_0 at h
  refine V_iload_n dX3_many_0 rfl 1 rfl ?_
  by_cases c1 : i1 = 0
  · replace h := (oi h).1 c1
    refine V_tabIn (off := 55) (tgt := 56) dX3_many_1 (by rw [c1]; decide) (by rw [c1]; decide) (by rw [c1]; decide) (by decide) ?_
    refine V_aload_n dX3_many_56 rfl 0 rfl ?_
    replace h := ob h
    obtain ⟨v28, e_v28, h⟩ := h
    refine V_getI zf_9_7 zl_X3_42 e_v28 dX3_many_57 ?_
    refine V_pc (pc' := 60) rfl ?_
    obtain rfl := Option.some.inj h
    exact V_iretX rfl hq dX3_many_60
  · replace h := (oi h).2 c1
    by_cases c2 : i1 = 1
    · replace h := (oi h).1 c2
      refine V_tabIn (off := 60) (tgt := 61) dX3_many_1 (by rw [c2]; decide) (by rw [c2]; decide) (by rw [c2]; decide) (by decide) ?_
      refine V_aload_n dX3_many_61 rfl 0 rfl ?_
      replace h := ob h
      obtain ⟨v25, e_v25, h⟩ := h
      refine V_getI zf_9_7 zl_X3_42 e_v25 dX3_many_62 ?_
      refine V_pc (pc' := 65) rfl ?_
      refine V_iconst (v := 3) dX3_many_65 (by decide) ?_
      refine V_icmp_ne (tgt := 73) dX3_many_66 (by decide) (fun c27 => ?_) (fun c27 => ?_)
      · replace h := (oi h).2 c27
        refine V_aload_n dX3_many_73 rfl 0 rfl ?_
        replace h := ob h
        obtain ⟨v26, e_v26, h⟩ := h
        refine V_getI zf_9_8 zl_X3_45 e_v26 dX3_many_74 ?_
        refine V_pc (pc' := 77) rfl ?_
        obtain rfl := Option.some.inj h
        exact V_iretX rfl hq dX3_many_77
      · replace h := (oi h).1 c27
        refine V_iconst (v := -1) dX3_many_69 (by decide) ?_
        refine V_goto (tgt := 77) dX3_many_70 (by decide) ?_
        obtain rfl := Option.some.inj h
        exact V_iretX rfl hq dX3_many_77
    · replace h := (oi h).2 c2
      by_cases c3 : i1 = 2
      · replace h := (oi h).1 c3
        refine V_tabIn (off := 77) (tgt := 78) dX3_many_1 (by rw [c3]; decide) (by rw [c3]; decide) (by rw [c3]; decide) (by decide) ?_
        refine V_aload_n dX3_many_78 rfl 0 rfl ?_
        replace h := ox h
        obtain ⟨c24, h⟩ := h
        replace h := ob h
        obtain ⟨r23, e_r23, h⟩ := h
        refine V_callV_I (As := []) (rest := []) (c_X3_tilesLeft e_r23) zc_X3_tilesLeft rfl (by decide) rfl (by decide) (Or.inl c24) zm_X3_250 (Nat.le_of_ble_eq_true rfl) rfl dX3_many_79 ?_
        refine V_pc (pc' := 82) rfl ?_
        obtain rfl := Option.some.inj h
        exact V_iretX rfl hq dX3_many_82
      · replace h := (oi h).2 c3
        by_cases c4 : i1 = 3
        · replace h := (oi h).1 c4
          refine V_tabIn (off := 82) (tgt := 83) dX3_many_1 (by rw [c4]; decide) (by rw [c4]; decide) (by rw [c4]; decide) (by decide) ?_
          refine V_aload_n dX3_many_83 rfl 0 rfl ?_
          replace h := ob h
          obtain ⟨v22, e_v22, h⟩ := h
          refine V_getI zf_9_12 zl_X3_57 e_v22 dX3_many_84 ?_
          refine V_pc (pc' := 87) rfl ?_
          obtain rfl := Option.some.inj h
          exact V_iretX rfl hq dX3_many_87
        · replace h := (oi h).2 c4
          by_cases c5 : i1 = 4
          · replace h := (oi h).1 c5
            refine V_tabIn (off := 87) (tgt := 88) dX3_many_1 (by rw [c5]; decide) (by rw [c5]; decide) (by rw [c5]; decide) (by decide) ?_
            refine V_aload_n dX3_many_88 rfl 0 rfl ?_
            replace h := ob h
            obtain ⟨v16, e_v16, h⟩ := h
            refine V_getI zf_9_7 zl_X3_42 e_v16 dX3_many_89 ?_
            refine V_pc (pc' := 92) rfl ?_
            refine V_iconst (v := 2) dX3_many_92 (by decide) ?_
            refine V_icmp_ne (tgt := 106) dX3_many_93 (by decide) (fun c21 => ?_) (fun c21 => ?_)
            · replace h := (oi h).2 c21
              refine V_iconst (v := -1) dX3_many_106 (by decide) ?_
              obtain rfl := Option.some.inj h
              exact V_iretX rfl hq dX3_many_107
            · replace h := (oi h).1 c21
              refine V_aload_n dX3_many_96 rfl 0 rfl ?_
              replace h := ox h
              obtain ⟨c18, h⟩ := h
              replace h := ob h
              obtain ⟨r17, e_r17, h⟩ := h
              refine V_callV_A (As := []) (rest := []) (c_X3_seatInTurn e_r17) zc_X3_seatInTurn rfl (by decide) rfl (by decide) (Or.inl c18) zm_X3_108 (Nat.le_of_ble_eq_true rfl) rfl dX3_many_97 ?_
              refine V_pc (pc' := 100) rfl ?_
              replace h := ox h
              obtain ⟨c20, h⟩ := h
              replace h := ob h
              obtain ⟨r19, e_r19, h⟩ := h
              refine V_callV_I (As := []) (rest := []) (c_X1_latestInRiver e_r19) zc_X1_latestInRiver rfl (by decide) rfl (by decide) (Or.inl c20) zm_X3_253 (Nat.le_of_ble_eq_true rfl) rfl dX3_many_100 ?_
              refine V_pc (pc' := 103) rfl ?_
              refine V_goto (tgt := 107) dX3_many_103 (by decide) ?_
              obtain rfl := Option.some.inj h
              exact V_iretX rfl hq dX3_many_107
          · replace h := (oi h).2 c5
            by_cases c6 : i1 = 5
            · replace h := (oi h).1 c6
              refine V_tabIn (off := 107) (tgt := 108) dX3_many_1 (by rw [c6]; decide) (by rw [c6]; decide) (by rw [c6]; decide) (by decide) ?_
              refine V_aload_n dX3_many_108 rfl 0 rfl ?_
              replace h := ob h
              obtain ⟨v15, e_v15, h⟩ := h
              refine V_getI zf_9_6 zl_X3_39 e_v15 dX3_many_109 ?_
              refine V_pc (pc' := 112) rfl ?_
              obtain rfl := Option.some.inj h
              exact V_iretX rfl hq dX3_many_112
            · replace h := (oi h).2 c6
              by_cases c7 : i1 = 6
              · replace h := (oi h).1 c7
                refine V_tabIn (off := 112) (tgt := 113) dX3_many_1 (by rw [c7]; decide) (by rw [c7]; decide) (by rw [c7]; decide) (by decide) ?_
                refine V_aload_n dX3_many_113 rfl 0 rfl ?_
                replace h := ob h
                obtain ⟨v14, e_v14, h⟩ := h
                refine V_getI zf_9_11 zl_X3_54 e_v14 dX3_many_114 ?_
                refine V_pc (pc' := 117) rfl ?_
                obtain rfl := Option.some.inj h
                exact V_iretX rfl hq dX3_many_117
              · replace h := (oi h).2 c7
                by_cases c8 : i1 = 7
                · replace h := (oi h).1 c8
                  refine V_tabIn (off := 117) (tgt := 118) dX3_many_1 (by rw [c8]; decide) (by rw [c8]; decide) (by rw [c8]; decide) (by decide) ?_
                  refine V_aload_n dX3_many_118 rfl 0 rfl ?_
                  replace h := ob h
                  obtain ⟨v13, e_v13, h⟩ := h
                  refine V_getI zf_9_10 zl_X3_51 e_v13 dX3_many_119 ?_
                  refine V_pc (pc' := 122) rfl ?_
                  obtain rfl := Option.some.inj h
                  exact V_iretX rfl hq dX3_many_122
                · replace h := (oi h).2 c8
                  by_cases c9 : i1 = 8
                  · replace h := (oi h).1 c9
                    refine V_tabIn (off := 122) (tgt := 123) dX3_many_1 (by rw [c9]; decide) (by rw [c9]; decide) (by rw [c9]; decide) (by decide) ?_
                    refine V_aload_n dX3_many_123 rfl 0 rfl ?_
                    replace h := ob h
                    obtain ⟨v12, e_v12, h⟩ := h
                    refine V_getI zf_9_9 zl_X3_48 e_v12 dX3_many_124 ?_
                    refine V_pc (pc' := 127) rfl ?_
                    obtain rfl := Option.some.inj h
                    exact V_iretX rfl hq dX3_many_127
                  · replace h := (oi h).2 c9
                    by_cases c10 : i1 = 9
                    · replace h := (oi h).1 c10
                      refine V_tabIn (off := 127) (tgt := 128) dX3_many_1 (by rw [c10]; decide) (by rw [c10]; decide) (by rw [c10]; decide) (by decide) ?_
                      refine V_aload_n dX3_many_128 rfl 0 rfl ?_
                      replace h := ob h
                      obtain ⟨v11, e_v11, h⟩ := h
                      refine V_getI zf_9_13 zl_X3_60 e_v11 dX3_many_129 ?_
                      refine V_pc (pc' := 132) rfl ?_
                      obtain rfl := Option.some.inj h
                      exact V_iretX rfl hq dX3_many_132
                    · replace h := (oi h).2 c10
                      have hsw : (i1).toInt < 0 ∨ 9 < (i1).toInt := by
                        have q0 : ¬ (i1).toInt = 0 := fun e => c1 (Int32.toInt_inj.mp (e.trans (by decide)))
                        have q1 : ¬ (i1).toInt = 1 := fun e => c2 (Int32.toInt_inj.mp (e.trans (by decide)))
                        have q2 : ¬ (i1).toInt = 2 := fun e => c3 (Int32.toInt_inj.mp (e.trans (by decide)))
                        have q3 : ¬ (i1).toInt = 3 := fun e => c4 (Int32.toInt_inj.mp (e.trans (by decide)))
                        have q4 : ¬ (i1).toInt = 4 := fun e => c5 (Int32.toInt_inj.mp (e.trans (by decide)))
                        have q5 : ¬ (i1).toInt = 5 := fun e => c6 (Int32.toInt_inj.mp (e.trans (by decide)))
                        have q6 : ¬ (i1).toInt = 6 := fun e => c7 (Int32.toInt_inj.mp (e.trans (by decide)))
                        have q7 : ¬ (i1).toInt = 7 := fun e => c8 (Int32.toInt_inj.mp (e.trans (by decide)))
                        have q8 : ¬ (i1).toInt = 8 := fun e => c9 (Int32.toInt_inj.mp (e.trans (by decide)))
                        have q9 : ¬ (i1).toInt = 9 := fun e => c10 (Int32.toInt_inj.mp (e.trans (by decide)))
                        omega
                      refine V_tabOut (tgt := 133) dX3_many_1 hsw (by decide) ?_
                      obtain rfl := Option.some.inj h
                      exact V_throwW (E := "java/lang/IllegalArgumentException") (tx := "no such number") hq zx_X3_75 zk_X3_71 zs_X3_256 (by decide +kernel) (by decide) (Nat.le_of_ble_eq_true rfl) dX3_many_133 dX3_many_136 dX3_many_137 dX3_many_140 dX3_many_143
def f_X3_many (a0 : Nat) (i1 : Int32) (M : zM) : Option ((String ⊕ Int32) × zM) := f_X3_many_0 a0 i1 M
theorem c_X3_many {L : zL} {l : Launch} {a0 : Nat} {i1 : Int32} {M : zM} {r : (String ⊕ Int32) × zM} (h : f_X3_many a0 i1 M = some r) : CX L l yX3_many cX3_many 2 (some FieldType.int) 6 M [.ref (zad L (a0)), .int (i1)] (zoI r.1) r.2 :=
  CX.of ⟨by decide +kernel, by decide +kernel⟩ (Nat.le_of_ble_eq_true rfl) fun X Q hq => s_X3_many_0 hq h
/-! Windsparlour.fourLeads(I)I -/
theorem dX3_fourLeads_0 : decode cX3_fourLeads 0 = .ok (.iconst 0, 1) := by decide +kernel
theorem dX3_fourLeads_1 : decode cX3_fourLeads 1 = .ok (.istore_n 2, 1) := by decide +kernel
theorem dX3_fourLeads_2 : decode cX3_fourLeads 2 = .ok (.iconst 0, 1) := by decide +kernel
theorem dX3_fourLeads_3 : decode cX3_fourLeads 3 = .ok (.istore_n 3, 1) := by decide +kernel
theorem dX3_fourLeads_4 : decode cX3_fourLeads 4 = .ok (.iload_n 3, 1) := by decide +kernel
theorem dX3_fourLeads_5 : decode cX3_fourLeads 5 = .ok (.iconst 4, 1) := by decide +kernel
theorem dX3_fourLeads_6 : decode cX3_fourLeads 6 = .ok (.if_icmp .ge 21, 3) := by decide +kernel
theorem dX3_fourLeads_9 : decode cX3_fourLeads 9 = .ok (.iload_n 2, 1) := by decide +kernel
theorem dX3_fourLeads_10 : decode cX3_fourLeads 10 = .ok (.aload_n 0, 1) := by decide +kernel
theorem dX3_fourLeads_11 : decode cX3_fourLeads 11 = .ok (.getfield 11, 3) := by decide +kernel
theorem dX3_fourLeads_14 : decode cX3_fourLeads 14 = .ok (.iload_n 3, 1) := by decide +kernel
theorem dX3_fourLeads_15 : decode cX3_fourLeads 15 = .ok (.aaload, 1) := by decide +kernel
theorem dX3_fourLeads_16 : decode cX3_fourLeads 16 = .ok (.getfield 140, 3) := by decide +kernel
theorem dX3_fourLeads_19 : decode cX3_fourLeads 19 = .ok (.iadd, 1) := by decide +kernel
theorem dX3_fourLeads_20 : decode cX3_fourLeads 20 = .ok (.istore_n 2, 1) := by decide +kernel
theorem dX3_fourLeads_21 : decode cX3_fourLeads 21 = .ok (.iinc 3 1, 3) := by decide +kernel
theorem dX3_fourLeads_24 : decode cX3_fourLeads 24 = .ok (.goto (-20), 3) := by decide +kernel
theorem dX3_fourLeads_27 : decode cX3_fourLeads 27 = .ok (.iconst 4, 1) := by decide +kernel
theorem dX3_fourLeads_28 : decode cX3_fourLeads 28 = .ok (.aload_n 0, 1) := by decide +kernel
theorem dX3_fourLeads_29 : decode cX3_fourLeads 29 = .ok (.getfield 11, 3) := by decide +kernel
theorem dX3_fourLeads_32 : decode cX3_fourLeads 32 = .ok (.iload_n 1, 1) := by decide +kernel
theorem dX3_fourLeads_33 : decode cX3_fourLeads 33 = .ok (.aaload, 1) := by decide +kernel
theorem dX3_fourLeads_34 : decode cX3_fourLeads 34 = .ok (.getfield 140, 3) := by decide +kernel
theorem dX3_fourLeads_37 : decode cX3_fourLeads 37 = .ok (.imul, 1) := by decide +kernel
theorem dX3_fourLeads_38 : decode cX3_fourLeads 38 = .ok (.iload_n 2, 1) := by decide +kernel
theorem dX3_fourLeads_39 : decode cX3_fourLeads 39 = .ok (.isub, 1) := by decide +kernel
theorem dX3_fourLeads_40 : decode cX3_fourLeads 40 = .ok (.ireturn, 1) := by decide +kernel
def f_X3_fourLeads_4 (n : Nat) (a0 : Nat) (i1 : Int32) (i2 : Int32) (i3 : Int32) (M : zM) : Option (Int32 × zM) := match n with
  | 0 => none
  | n + 1 =>
    if ((4 : Int32)) ≤ i3 then
    (gR 9 0 M a0).bind fun v1 =>
    (lQ 1 M v1 i1).bind fun v2 =>
    (gI 7 7 M v2).bind fun v3 =>
    some ((((((4 : Int32)) * v3)) - i2), M)
    else
    (gR 9 0 M a0).bind fun v4 =>
    (lQ 1 M v4 i3).bind fun v5 =>
    (gI 7 7 M v5).bind fun v6 =>
    f_X3_fourLeads_4 n a0 i1 ((i2 + v6)) ((i3 + (1 : Int32))) M
set_option maxRecDepth 20000 in
set_option maxHeartbeats 4000000 in
theorem s_X3_fourLeads_4 {L : zL} {X : zX} {M0 : zM} {N : Nat × Nat} {Q : State → Prop} {r : Int32 × zM} (hq : vQ L X M0 N Q (some (.int r.1)) r.2) {n : Nat} {a0 : Nat} {i1 : Int32} {i2 : Int32} {i3 : Int32} {M : zM} : f_X3_fourLeads_4 n a0 i1 i2 i3 M = some r → V L X yX3_fourLeads cX3_fourLeads 4 (some FieldType.int) 1 M0 N Q M 4 [(0, .ref (zad L (a0))), (1, .int (i1)), (2, .int (i2)), (3, .int (i3))] [] := by
  induction n generalizing a0 i1 i2 i3 M with
  | zero =>
    intro h
    rw [f_X3_fourLeads_4] at h
    cases h
  | succ n ih0 =>
    intro h
    have ih : ∀ (a0 : Nat) (i1 : Int32) (i2 : Int32) (i3 : Int32) (M : zM), f_X3_fourLeads_4 n a0 i1 i2 i3 M = some r → V L X yX3_fourLeads cX3_fourLeads 4 (some FieldType.int) 1 M0 N Q M 4 [(0, .ref (zad L (a0))), (1, .int (i1)), (2, .int (i2)), (3, .int (i3))] [] := fun a0 i1 i2 i3 M h => ih0 h
    rw [f_X3_fourLeads_4] at h
    refine V_iload_n dX3_fourLeads_4 rfl 3 rfl ?_
    refine V_iconst (v := 4) dX3_fourLeads_5 (by decide) ?_
    refine V_icmp_ge (tgt := 27) dX3_fourLeads_6 (by decide) (fun c7 => ?_) (fun c7 => ?_)
    · replace h := (oi h).1 c7
      refine V_iconst (v := 4) dX3_fourLeads_27 (by decide) ?_
      refine V_aload_n dX3_fourLeads_28 rfl 0 rfl ?_
      replace h := ob h
      obtain ⟨v1, e_v1, h⟩ := h
      refine V_getR zf_9_0 zl_X3_11 e_v1 dX3_fourLeads_29 ?_
      refine V_pc (pc' := 32) rfl ?_
      refine V_iload_n dX3_fourLeads_32 rfl 1 rfl ?_
      replace h := ob h
      obtain ⟨v2, e_v2, h⟩ := h
      refine V_aald (by decide) e_v2 dX3_fourLeads_33 ?_
      refine V_pc (pc' := 34) rfl ?_
      replace h := ob h
      obtain ⟨v3, e_v3, h⟩ := h
      refine V_getI zf_7_7 zl_X3_140 e_v3 dX3_fourLeads_34 ?_
      refine V_pc (pc' := 37) rfl ?_
      refine V_imul dX3_fourLeads_37 ?_
      refine V_iload_n dX3_fourLeads_38 rfl 2 rfl ?_
      refine V_isub dX3_fourLeads_39 ?_
      obtain rfl := Option.some.inj h
      exact V_iret rfl hq dX3_fourLeads_40
    · replace h := (oi h).2 c7
      refine V_iload_n dX3_fourLeads_9 rfl 2 rfl ?_
      refine V_aload_n dX3_fourLeads_10 rfl 0 rfl ?_
      replace h := ob h
      obtain ⟨v4, e_v4, h⟩ := h
      refine V_getR zf_9_0 zl_X3_11 e_v4 dX3_fourLeads_11 ?_
      refine V_pc (pc' := 14) rfl ?_
      refine V_iload_n dX3_fourLeads_14 rfl 3 rfl ?_
      replace h := ob h
      obtain ⟨v5, e_v5, h⟩ := h
      refine V_aald (by decide) e_v5 dX3_fourLeads_15 ?_
      refine V_pc (pc' := 16) rfl ?_
      replace h := ob h
      obtain ⟨v6, e_v6, h⟩ := h
      refine V_getI zf_7_7 zl_X3_140 e_v6 dX3_fourLeads_16 ?_
      refine V_pc (pc' := 19) rfl ?_
      refine V_iadd dX3_fourLeads_19 ?_
      refine V_istore_n (ls' := [(2, .int ((i2 + v6))), (0, .ref (zad L (a0))), (1, .int (i1)), (3, .int (i3))]) dX3_fourLeads_20 rfl (by decide) rfl ?_
      refine V_iinc (v := i3 + (1 : Int32)) (ls' := [(3, .int ((i3 + (1 : Int32)))), (2, .int ((i2 + v6))), (0, .ref (zad L (a0))), (1, .int (i1))]) dX3_fourLeads_21 3 rfl (by rfl) (by decide) rfl ?_
      refine V_goto (tgt := 4) dX3_fourLeads_24 (by decide) ?_
      refine V_sub [2, 3, 1, 0] rfl ?_
      exact ih _ _ _ _ _ h
def f_X3_fourLeads_0 (a0 : Nat) (i1 : Int32) (M : zM) : Option (Int32 × zM) :=
  f_X3_fourLeads_4 zN a0 i1 ((0 : Int32)) ((0 : Int32)) M
set_option maxRecDepth 20000 in
set_option maxHeartbeats 4000000 in
theorem s_X3_fourLeads_0 {L : zL} {X : zX} {M0 : zM} {N : Nat × Nat} {Q : State → Prop} {r : Int32 × zM} (hq : vQ L X M0 N Q (some (.int r.1)) r.2) {a0 : Nat} {i1 : Int32} {M : zM} (h : f_X3_fourLeads_0 a0 i1 M = some r) : V L X yX3_fourLeads cX3_fourLeads 4 (some FieldType.int) 1 M0 N Q M 0 [(0, .ref (zad L (a0))), (1, .int (i1))] [] := by
  unfold f_X3_fourLeads_0 at h
  refine V_iconst (v := 0) dX3_fourLeads_0 (by decide) ?_
  refine V_istore_n (ls' := [(2, .int ((0 : Int32))), (0, .ref (zad L (a0))), (1, .int (i1))]) dX3_fourLeads_1 rfl (by decide) rfl ?_
  refine V_iconst (v := 0) dX3_fourLeads_2 (by decide) ?_
  refine V_istore_n (ls' := [(3, .int ((0 : Int32))), (2, .int ((0 : Int32))), (0, .ref (zad L (a0))), (1, .int (i1))]) dX3_fourLeads_3 rfl (by decide) rfl ?_
  refine V_sub [2, 3, 1, 0] rfl ?_
  exact s_X3_fourLeads_4 hq h
def f_X3_fourLeads (a0 : Nat) (i1 : Int32) (M : zM) : Option (Int32 × zM) := f_X3_fourLeads_0 a0 i1 M
theorem c_X3_fourLeads {L : zL} {l : Launch} {a0 : Nat} {i1 : Int32} {M : zM} {r : Int32 × zM} (h : f_X3_fourLeads a0 i1 M = some r) : CP L l yX3_fourLeads cX3_fourLeads 4 (some FieldType.int) 1 M [.ref (zad L (a0)), .int (i1)] (some (.int r.1)) r.2 :=
  CP.of ⟨by decide +kernel, by decide +kernel⟩ (Nat.le_of_ble_eq_true rfl) fun X Q hq => s_X3_fourLeads_0 hq h
/-! Windsparlour.lead(I)D -/
theorem dX3_lead_0 : decode cX3_lead 0 = .ok (.iload_n 1, 1) := by decide +kernel
theorem dX3_lead_1 : decode cX3_lead 1 = .ok (.invokestatic 143, 3) := by decide +kernel
theorem dX3_lead_4 : decode cX3_lead 4 = .ok (.aload_n 0, 1) := by decide +kernel
theorem dX3_lead_5 : decode cX3_lead 5 = .ok (.iload_n 1, 1) := by decide +kernel
theorem dX3_lead_6 : decode cX3_lead 6 = .ok (.invokevirtual 258, 3) := by decide +kernel
theorem dX3_lead_9 : decode cX3_lead 9 = .ok (.i2d, 1) := by decide +kernel
theorem dX3_lead_10 : decode cX3_lead 10 = .ok (.ldc2_w 261, 3) := by decide +kernel
theorem dX3_lead_13 : decode cX3_lead 13 = .ok (.ddiv, 1) := by decide +kernel
theorem dX3_lead_14 : decode cX3_lead 14 = .ok (.dreturn, 1) := by decide +kernel
def f_X3_lead_0 (a0 : Nat) (i1 : Int32) (M : zM) : Option ((String ⊕ UInt64) × zM) :=
  xb (f_X3_requirePlayer i1 M) fun w1 Mw1 =>
  if mK Mw1 a0 = 9 then
  (f_X3_fourLeads a0 i1 Mw1).bind fun r5 =>
  if (FP.ddiv ((FP.i2d r5.1)) ((4616189618054758400 : UInt64))) &&& 0x7fffffffffffffff ≤ 0x7ff0000000000000 then
  some (Sum.inr ((FP.ddiv ((FP.i2d r5.1)) ((4616189618054758400 : UInt64)))), r5.2)
  else none
  else none
set_option maxRecDepth 20000 in
set_option maxHeartbeats 4000000 in
theorem s_X3_lead_0 {L : zL} {X : zX} {M0 : zM} {N : Nat × Nat} {Q : State → Prop} {r : (String ⊕ UInt64) × zM} (hq : vQX L X M0 N Q (zoD r.1) r.2) {a0 : Nat} {i1 : Int32} {M : zM} (h : f_X3_lead_0 a0 i1 M = some r) : V L X yX3_lead cX3_lead 2 (some FieldType.double) 7 M0 N Q M 0 [(0, .ref (zad L (a0))), (1, .int (i1))] [] := by
  unfold f_X3_lead_0 at h
  refine V_iload_n dX3_lead_0 rfl 1 rfl ?_
  replace h := xbs h
  rcases h with ⟨E_r1, M_r1, e_r1, rfl⟩ | ⟨w1, Mw1, e_r1, h⟩
  · exact V_callSt (As := [.int (i1)]) (rest := []) (c_X3_requirePlayer e_r1) hq (by decide +kernel) zc_X3_requirePlayer rfl (by decide) zm_X3_143 (Nat.le_of_ble_eq_true rfl) rfl dX3_lead_1
  · refine V_callSx_V (As := [.int (i1)]) (rest := []) (c_X3_requirePlayer e_r1) zc_X3_requirePlayer rfl (by decide) zm_X3_143 (Nat.le_of_ble_eq_true rfl) rfl dX3_lead_1 ?_
    refine V_pc (pc' := 4) rfl ?_
    refine V_aload_n dX3_lead_4 rfl 0 rfl ?_
    refine V_iload_n dX3_lead_5 rfl 1 rfl ?_
    replace h := ox h
    obtain ⟨c6, h⟩ := h
    replace h := ob h
    obtain ⟨r5, e_r5, h⟩ := h
    refine V_callV_I (As := [.int (i1)]) (rest := []) (c_X3_fourLeads e_r5) zc_X3_fourLeads rfl (by decide) rfl (by decide) (Or.inl c6) zm_X3_258 (Nat.le_of_ble_eq_true rfl) rfl dX3_lead_6 ?_
    refine V_pc (pc' := 9) rfl ?_
    refine V_i2d dX3_lead_9 ?_
    refine V_ldc2d zcn_X3_261 dX3_lead_10 ?_
    replace h := ox h
    obtain ⟨c7, h⟩ := h
    refine V_ddiv dX3_lead_13 c7 ?_
    obtain rfl := Option.some.inj h
    exact V_dretX rfl hq dX3_lead_14
def f_X3_lead (a0 : Nat) (i1 : Int32) (M : zM) : Option ((String ⊕ UInt64) × zM) := f_X3_lead_0 a0 i1 M
theorem c_X3_lead {L : zL} {l : Launch} {a0 : Nat} {i1 : Int32} {M : zM} {r : (String ⊕ UInt64) × zM} (h : f_X3_lead a0 i1 M = some r) : CX L l yX3_lead cX3_lead 2 (some FieldType.double) 7 M [.ref (zad L (a0)), .int (i1)] (zoD r.1) r.2 :=
  CX.of ⟨by decide +kernel, by decide +kernel⟩ (Nat.le_of_ble_eq_true rfl) fun X Q hq => s_X3_lead_0 hq h
/-! Windsparlour.worth(II)I -/
theorem dX3_worth_0 : decode cX3_worth 0 = .ok (.iload_n 1, 1) := by decide +kernel
theorem dX3_worth_1 : decode cX3_worth 1 = .ok (.invokestatic 143, 3) := by decide +kernel
theorem dX3_worth_4 : decode cX3_worth 4 = .ok (.iload_n 2, 1) := by decide +kernel
theorem dX3_worth_5 : decode cX3_worth 5 = .ok (.invokestatic 105, 3) := by decide +kernel
theorem dX3_worth_8 : decode cX3_worth 8 = .ok (.aload_n 0, 1) := by decide +kernel
theorem dX3_worth_9 : decode cX3_worth 9 = .ok (.getfield 11, 3) := by decide +kernel
theorem dX3_worth_12 : decode cX3_worth 12 = .ok (.iload_n 1, 1) := by decide +kernel
theorem dX3_worth_13 : decode cX3_worth 13 = .ok (.aaload, 1) := by decide +kernel
theorem dX3_worth_14 : decode cX3_worth 14 = .ok (.astore_n 3, 1) := by decide +kernel
theorem dX3_worth_15 : decode cX3_worth 15 = .ok (.aload_n 0, 1) := by decide +kernel
theorem dX3_worth_16 : decode cX3_worth 16 = .ok (.aload_n 3, 1) := by decide +kernel
theorem dX3_worth_17 : decode cX3_worth 17 = .ok (.invokevirtual 209, 3) := by decide +kernel
theorem dX3_worth_20 : decode cX3_worth 20 = .ok (.iload_n 2, 1) := by decide +kernel
theorem dX3_worth_21 : decode cX3_worth 21 = .ok (.lshr, 1) := by decide +kernel
theorem dX3_worth_22 : decode cX3_worth 22 = .ok (.lconst 1, 1) := by decide +kernel
theorem dX3_worth_23 : decode cX3_worth 23 = .ok (.land, 1) := by decide +kernel
theorem dX3_worth_24 : decode cX3_worth 24 = .ok (.lconst 0, 1) := by decide +kernel
theorem dX3_worth_25 : decode cX3_worth 25 = .ok (.lcmp, 1) := by decide +kernel
theorem dX3_worth_26 : decode cX3_worth 26 = .ok (.ifCond .ne 5, 3) := by decide +kernel
theorem dX3_worth_29 : decode cX3_worth 29 = .ok (.iconst (-1), 1) := by decide +kernel
theorem dX3_worth_30 : decode cX3_worth 30 = .ok (.ireturn, 1) := by decide +kernel
theorem dX3_worth_31 : decode cX3_worth 31 = .ok (.aload_n 3, 1) := by decide +kernel
theorem dX3_worth_32 : decode cX3_worth 32 = .ok (.iload_n 2, 1) := by decide +kernel
theorem dX3_worth_33 : decode cX3_worth 33 = .ok (.iconst 1, 1) := by decide +kernel
theorem dX3_worth_34 : decode cX3_worth 34 = .ok (.invokevirtual 157, 3) := by decide +kernel
theorem dX3_worth_37 : decode cX3_worth 37 = .ok (.aload_n 0, 1) := by decide +kernel
theorem dX3_worth_38 : decode cX3_worth 38 = .ok (.getfield 25, 3) := by decide +kernel
theorem dX3_worth_41 : decode cX3_worth 41 = .ok (.aload_n 3, 1) := by decide +kernel
theorem dX3_worth_42 : decode cX3_worth 42 = .ok (.iconst 0, 1) := by decide +kernel
theorem dX3_worth_43 : decode cX3_worth 43 = .ok (.aload_n 0, 1) := by decide +kernel
theorem dX3_worth_44 : decode cX3_worth 44 = .ok (.getfield 57, 3) := by decide +kernel
theorem dX3_worth_47 : decode cX3_worth 47 = .ok (.aload_n 0, 1) := by decide +kernel
theorem dX3_worth_48 : decode cX3_worth 48 = .ok (.iload_n 1, 1) := by decide +kernel
theorem dX3_worth_49 : decode cX3_worth 49 = .ok (.invokevirtual 184, 3) := by decide +kernel
theorem dX3_worth_52 : decode cX3_worth 52 = .ok (.invokevirtual 187, 3) := by decide +kernel
theorem dX3_worth_55 : decode cX3_worth 55 = .ok (.istore 4, 2) := by decide +kernel
theorem dX3_worth_57 : decode cX3_worth 57 = .ok (.aload_n 3, 1) := by decide +kernel
theorem dX3_worth_58 : decode cX3_worth 58 = .ok (.iload_n 2, 1) := by decide +kernel
theorem dX3_worth_59 : decode cX3_worth 59 = .ok (.iconst (-1), 1) := by decide +kernel
theorem dX3_worth_60 : decode cX3_worth 60 = .ok (.invokevirtual 157, 3) := by decide +kernel
theorem dX3_worth_63 : decode cX3_worth 63 = .ok (.iload 4, 2) := by decide +kernel
theorem dX3_worth_65 : decode cX3_worth 65 = .ok (.ireturn, 1) := by decide +kernel
def f_X3_worth_0 (a0 : Nat) (i1 : Int32) (i2 : Int32) (M : zM) : Option ((String ⊕ Int32) × zM) :=
  xb (f_X3_requirePlayer i1 M) fun w1 Mw1 =>
  xb (f_X3_requireKind i2 Mw1) fun w33 Mw33 =>
  (gR 9 0 Mw33 a0).bind fun v49 =>
  (lQ 1 Mw33 v49 i1).bind fun v50 =>
  if mK Mw33 a0 = 9 then
  (f_X3_waitsOf a0 v50 Mw33).bind fun r51 =>
  if ((lg_cmp ((((r51.1 >>> (i2.toInt64 &&& 63))) &&& ((1 : Int64)))) ((0 : Int64)))) = 0 then
  some (Sum.inr ((-1 : Int32)), r51.2)
  else
  if mK r51.2 v50 = 7 then
  (f_X1_change v50 i2 ((1 : Int32)) r51.2).bind fun r53 =>
  (gR 9 2 r53.2 a0).bind fun v55 =>
  (gI 9 12 r53.2 a0).bind fun v56 =>
  if mK r53.2 a0 = 9 then
  (f_X3_windOf a0 i1 r53.2).bind fun r57 =>
  if mK r57.2 v55 = 8 then
  (f_X2_value v55 v50 ((0 : Int32)) v56 r57.1 r57.2).bind fun r59 =>
  if mK r59.2 v50 = 7 then
  (f_X1_change v50 i2 ((-1 : Int32)) r59.2).bind fun r61 =>
  some (Sum.inr (r59.1), r61.2)
  else none
  else none
  else none
  else none
  else none
set_option maxRecDepth 20000 in
set_option maxHeartbeats 4000000 in
theorem s_X3_worth_0 {L : zL} {X : zX} {M0 : zM} {N : Nat × Nat} {Q : State → Prop} {r : (String ⊕ Int32) × zM} (hq : vQX L X M0 N Q (zoI r.1) r.2) {a0 : Nat} {i1 : Int32} {i2 : Int32} {M : zM} (h : f_X3_worth_0 a0 i1 i2 M = some r) : V L X yX3_worth cX3_worth 5 (some FieldType.int) 7 M0 N Q M 0 [(0, .ref (zad L (a0))), (1, .int (i1)), (2, .int (i2))] [] := by
  unfold f_X3_worth_0 at h
  refine V_iload_n dX3_worth_0 rfl 1 rfl ?_
  replace h := xbs h
  rcases h with ⟨E_r1, M_r1, e_r1, rfl⟩ | ⟨w1, Mw1, e_r1, h⟩
  · exact V_callSt (As := [.int (i1)]) (rest := []) (c_X3_requirePlayer e_r1) hq (by decide +kernel) zc_X3_requirePlayer rfl (by decide) zm_X3_143 (Nat.le_of_ble_eq_true rfl) rfl dX3_worth_1
  · refine V_callSx_V (As := [.int (i1)]) (rest := []) (c_X3_requirePlayer e_r1) zc_X3_requirePlayer rfl (by decide) zm_X3_143 (Nat.le_of_ble_eq_true rfl) rfl dX3_worth_1 ?_
    refine V_pc (pc' := 4) rfl ?_
    refine V_iload_n dX3_worth_4 rfl 2 rfl ?_
    replace h := xbs h
    rcases h with ⟨E_r33, M_r33, e_r33, rfl⟩ | ⟨w33, Mw33, e_r33, h⟩
    · exact V_callSt (As := [.int (i2)]) (rest := []) (c_X3_requireKind e_r33) hq (by decide +kernel) zc_X3_requireKind rfl (by decide) zm_X3_105 (Nat.le_of_ble_eq_true rfl) rfl dX3_worth_5
    · refine V_callSx_V (As := [.int (i2)]) (rest := []) (c_X3_requireKind e_r33) zc_X3_requireKind rfl (by decide) zm_X3_105 (Nat.le_of_ble_eq_true rfl) rfl dX3_worth_5 ?_
      refine V_pc (pc' := 8) rfl ?_
      refine V_aload_n dX3_worth_8 rfl 0 rfl ?_
      replace h := ob h
      obtain ⟨v49, e_v49, h⟩ := h
      refine V_getR zf_9_0 zl_X3_11 e_v49 dX3_worth_9 ?_
      refine V_pc (pc' := 12) rfl ?_
      refine V_iload_n dX3_worth_12 rfl 1 rfl ?_
      replace h := ob h
      obtain ⟨v50, e_v50, h⟩ := h
      refine V_aald (by decide) e_v50 dX3_worth_13 ?_
      refine V_pc (pc' := 14) rfl ?_
      refine V_astore_n (ls' := [(3, .ref (zad L (v50))), (0, .ref (zad L (a0))), (1, .int (i1)), (2, .int (i2))]) dX3_worth_14 rfl (by decide) rfl ?_
      refine V_aload_n dX3_worth_15 rfl 1 rfl ?_
      refine V_aload_n dX3_worth_16 rfl 0 rfl ?_
      replace h := ox h
      obtain ⟨c52, h⟩ := h
      replace h := ob h
      obtain ⟨r51, e_r51, h⟩ := h
      refine V_callV_J (As := [.ref (zad L (v50))]) (rest := []) (c_X3_waitsOf e_r51) zc_X3_waitsOf rfl (by decide) rfl (by decide) (Or.inl c52) zm_X3_209 (Nat.le_of_ble_eq_true rfl) rfl dX3_worth_17 ?_
      refine V_pc (pc' := 20) rfl ?_
      refine V_iload_n dX3_worth_20 rfl 3 rfl ?_
      refine V_lshr dX3_worth_21 ?_
      refine V_lconst (v := 1) dX3_worth_22 (by decide) ?_
      refine V_land dX3_worth_23 ?_
      refine V_lconst (v := 0) dX3_worth_24 (by decide) ?_
      refine V_lcmp dX3_worth_25 ?_
      refine V_if_ne (tgt := 31) dX3_worth_26 (by decide) (fun c63 => ?_) (fun c63 => ?_)
      · replace h := (oi h).2 c63
        refine V_aload_n dX3_worth_31 rfl 0 rfl ?_
        refine V_iload_n dX3_worth_32 rfl 3 rfl ?_
        refine V_iconst (v := 1) dX3_worth_33 (by decide) ?_
        replace h := ox h
        obtain ⟨c54, h⟩ := h
        replace h := ob h
        obtain ⟨r53, e_r53, h⟩ := h
        refine V_callV_V (As := [.int (i2), .int ((1 : Int32))]) (rest := []) (c_X1_change e_r53) zc_X1_change rfl (by decide) rfl (by decide) (Or.inl c54) zm_X3_157 (Nat.le_of_ble_eq_true rfl) rfl dX3_worth_34 ?_
        refine V_pc (pc' := 37) rfl ?_
        refine V_aload_n dX3_worth_37 rfl 1 rfl ?_
        replace h := ob h
        obtain ⟨v55, e_v55, h⟩ := h
        refine V_getR zf_9_2 zl_X3_25 e_v55 dX3_worth_38 ?_
        refine V_pc (pc' := 41) rfl ?_
        refine V_aload_n dX3_worth_41 rfl 0 rfl ?_
        refine V_iconst (v := 0) dX3_worth_42 (by decide) ?_
        refine V_aload_n dX3_worth_43 rfl 1 rfl ?_
        replace h := ob h
        obtain ⟨v56, e_v56, h⟩ := h
        refine V_getI zf_9_12 zl_X3_57 e_v56 dX3_worth_44 ?_
        refine V_pc (pc' := 47) rfl ?_
        refine V_aload_n dX3_worth_47 rfl 1 rfl ?_
        refine V_iload_n dX3_worth_48 rfl 2 rfl ?_
        replace h := ox h
        obtain ⟨c58, h⟩ := h
        replace h := ob h
        obtain ⟨r57, e_r57, h⟩ := h
        refine V_callV_I (As := [.int (i1)]) (rest := [.int (v56), .int ((0 : Int32)), .ref (zad L (v50)), .ref (zad L (v55))]) (c_X3_windOf e_r57) zc_X3_windOf rfl (by decide) rfl (by decide) (Or.inl c58) zm_X3_184 (Nat.le_of_ble_eq_true rfl) rfl dX3_worth_49 ?_
        refine V_pc (pc' := 52) rfl ?_
        replace h := ox h
        obtain ⟨c60, h⟩ := h
        replace h := ob h
        obtain ⟨r59, e_r59, h⟩ := h
        refine V_callV_I (As := [.ref (zad L (v50)), .int ((0 : Int32)), .int (v56), .int (r57.1)]) (rest := []) (c_X2_value e_r59) zc_X2_value rfl (by decide) rfl (by decide) (Or.inl c60) zm_X3_187 (Nat.le_of_ble_eq_true rfl) rfl dX3_worth_52 ?_
        refine V_pc (pc' := 55) rfl ?_
        refine V_istore (ls' := [(4, .int (r59.1)), (3, .ref (zad L (v50))), (0, .ref (zad L (a0))), (1, .int (i1)), (2, .int (i2))]) dX3_worth_55 (by decide) rfl ?_
        refine V_aload_n dX3_worth_57 rfl 1 rfl ?_
        refine V_iload_n dX3_worth_58 rfl 4 rfl ?_
        refine V_iconst (v := -1) dX3_worth_59 (by decide) ?_
        replace h := ox h
        obtain ⟨c62, h⟩ := h
        replace h := ob h
        obtain ⟨r61, e_r61, h⟩ := h
        refine V_callV_V (As := [.int (i2), .int ((-1 : Int32))]) (rest := []) (c_X1_change e_r61) zc_X1_change rfl (by decide) rfl (by decide) (Or.inl c62) zm_X3_157 (Nat.le_of_ble_eq_true rfl) rfl dX3_worth_60 ?_
        refine V_pc (pc' := 63) rfl ?_
        refine V_iload dX3_worth_63 0 rfl ?_
        obtain rfl := Option.some.inj h
        exact V_iretX rfl hq dX3_worth_65
      · replace h := (oi h).1 c63
        refine V_iconst (v := -1) dX3_worth_29 (by decide) ?_
        obtain rfl := Option.some.inj h
        exact V_iretX rfl hq dX3_worth_30
def f_X3_worth (a0 : Nat) (i1 : Int32) (i2 : Int32) (M : zM) : Option ((String ⊕ Int32) × zM) := f_X3_worth_0 a0 i1 i2 M
theorem c_X3_worth {L : zL} {l : Launch} {a0 : Nat} {i1 : Int32} {i2 : Int32} {M : zM} {r : (String ⊕ Int32) × zM} (h : f_X3_worth a0 i1 i2 M = some r) : CX L l yX3_worth cX3_worth 5 (some FieldType.int) 7 M [.ref (zad L (a0)), .int (i1), .int (i2)] (zoI r.1) r.2 :=
  CX.of ⟨by decide +kernel, by decide +kernel⟩ (Nat.le_of_ble_eq_true rfl) fun X Q hq => s_X3_worth_0 hq h
/-! Windsparlour.farWith(LWindsparlour$Seat;II)I -/
theorem dX3_farWith_0 : decode cX3_farWith 0 = .ok (.aload_n 1, 1) := by decide +kernel
theorem dX3_farWith_1 : decode cX3_farWith 1 = .ok (.iload_n 2, 1) := by decide +kernel
theorem dX3_farWith_2 : decode cX3_farWith 2 = .ok (.iload_n 3, 1) := by decide +kernel
theorem dX3_farWith_3 : decode cX3_farWith 3 = .ok (.invokevirtual 157, 3) := by decide +kernel
theorem dX3_farWith_6 : decode cX3_farWith 6 = .ok (.aload_n 0, 1) := by decide +kernel
theorem dX3_farWith_7 : decode cX3_farWith 7 = .ok (.getfield 18, 3) := by decide +kernel
theorem dX3_farWith_10 : decode cX3_farWith 10 = .ok (.aload_n 1, 1) := by decide +kernel
theorem dX3_farWith_11 : decode cX3_farWith 11 = .ok (.getfield 201, 3) := by decide +kernel
theorem dX3_farWith_14 : decode cX3_farWith 14 = .ok (.aload_n 1, 1) := by decide +kernel
theorem dX3_farWith_15 : decode cX3_farWith 15 = .ok (.getfield 167, 3) := by decide +kernel
theorem dX3_farWith_18 : decode cX3_farWith 18 = .ok (.invokevirtual 205, 3) := by decide +kernel
theorem dX3_farWith_21 : decode cX3_farWith 21 = .ok (.istore 4, 2) := by decide +kernel
theorem dX3_farWith_23 : decode cX3_farWith 23 = .ok (.aload_n 1, 1) := by decide +kernel
theorem dX3_farWith_24 : decode cX3_farWith 24 = .ok (.iload_n 2, 1) := by decide +kernel
theorem dX3_farWith_25 : decode cX3_farWith 25 = .ok (.iload_n 3, 1) := by decide +kernel
theorem dX3_farWith_26 : decode cX3_farWith 26 = .ok (.ineg, 1) := by decide +kernel
theorem dX3_farWith_27 : decode cX3_farWith 27 = .ok (.invokevirtual 157, 3) := by decide +kernel
theorem dX3_farWith_30 : decode cX3_farWith 30 = .ok (.iload 4, 2) := by decide +kernel
theorem dX3_farWith_32 : decode cX3_farWith 32 = .ok (.ireturn, 1) := by decide +kernel
def f_X3_farWith_0 (a0 : Nat) (a1 : Nat) (i2 : Int32) (i3 : Int32) (M : zM) : Option (Int32 × zM) :=
  if mK M a1 = 7 then
  (f_X1_change a1 i2 i3 M).bind fun r1 =>
  (gR 9 1 r1.2 a0).bind fun v3 =>
  (gR 7 0 r1.2 a1).bind fun v4 =>
  (gI 7 4 r1.2 a1).bind fun v5 =>
  if mK r1.2 v3 = 6 then
  (f_X0_far v3 v4 v5 r1.2).bind fun r6 =>
  if mK r6.2 a1 = 7 then
  (f_X1_change a1 i2 ((-i3)) r6.2).bind fun r8 =>
  some (r6.1, r8.2)
  else none
  else none
  else none
set_option maxRecDepth 20000 in
set_option maxHeartbeats 4000000 in
theorem s_X3_farWith_0 {L : zL} {X : zX} {M0 : zM} {N : Nat × Nat} {Q : State → Prop} {r : Int32 × zM} (hq : vQ L X M0 N Q (some (.int r.1)) r.2) {a0 : Nat} {a1 : Nat} {i2 : Int32} {i3 : Int32} {M : zM} (h : f_X3_farWith_0 a0 a1 i2 i3 M = some r) : V L X yX3_farWith cX3_farWith 5 (some FieldType.int) 69 M0 N Q M 0 [(0, .ref (zad L (a0))), (1, .ref (zad L (a1))), (2, .int (i2)), (3, .int (i3))] [] := by
  unfold f_X3_farWith_0 at h
  refine V_aload_n dX3_farWith_0 rfl 1 rfl ?_
  refine V_iload_n dX3_farWith_1 rfl 2 rfl ?_
  refine V_iload_n dX3_farWith_2 rfl 3 rfl ?_
  replace h := ox h
  obtain ⟨c2, h⟩ := h
  replace h := ob h
  obtain ⟨r1, e_r1, h⟩ := h
  refine V_callV_V (As := [.int (i2), .int (i3)]) (rest := []) (c_X1_change e_r1) zc_X1_change rfl (by decide) rfl (by decide) (Or.inl c2) zm_X3_157 (Nat.le_of_ble_eq_true rfl) rfl dX3_farWith_3 ?_
  refine V_pc (pc' := 6) rfl ?_
  refine V_aload_n dX3_farWith_6 rfl 0 rfl ?_
  replace h := ob h
  obtain ⟨v3, e_v3, h⟩ := h
  refine V_getR zf_9_1 zl_X3_18 e_v3 dX3_farWith_7 ?_
  refine V_pc (pc' := 10) rfl ?_
  refine V_aload_n dX3_farWith_10 rfl 1 rfl ?_
  replace h := ob h
  obtain ⟨v4, e_v4, h⟩ := h
  refine V_getR zf_7_0 zl_X3_201 e_v4 dX3_farWith_11 ?_
  refine V_pc (pc' := 14) rfl ?_
  refine V_aload_n dX3_farWith_14 rfl 1 rfl ?_
  replace h := ob h
  obtain ⟨v5, e_v5, h⟩ := h
  refine V_getI zf_7_4 zl_X3_167 e_v5 dX3_farWith_15 ?_
  refine V_pc (pc' := 18) rfl ?_
  replace h := ox h
  obtain ⟨c7, h⟩ := h
  replace h := ob h
  obtain ⟨r6, e_r6, h⟩ := h
  refine V_callV_I (As := [.ref (zad L (v4)), .int (v5)]) (rest := []) (c_X0_far e_r6) zc_X0_far rfl (by decide) rfl (by decide) (Or.inl c7) zm_X3_205 (Nat.le_of_ble_eq_true rfl) rfl dX3_farWith_18 ?_
  refine V_pc (pc' := 21) rfl ?_
  refine V_istore (ls' := [(4, .int (r6.1)), (0, .ref (zad L (a0))), (1, .ref (zad L (a1))), (2, .int (i2)), (3, .int (i3))]) dX3_farWith_21 (by decide) rfl ?_
  refine V_aload_n dX3_farWith_23 rfl 2 rfl ?_
  refine V_iload_n dX3_farWith_24 rfl 3 rfl ?_
  refine V_iload_n dX3_farWith_25 rfl 4 rfl ?_
  refine V_ineg dX3_farWith_26 ?_
  replace h := ox h
  obtain ⟨c9, h⟩ := h
  replace h := ob h
  obtain ⟨r8, e_r8, h⟩ := h
  refine V_callV_V (As := [.int (i2), .int ((-i3))]) (rest := []) (c_X1_change e_r8) zc_X1_change rfl (by decide) rfl (by decide) (Or.inl c9) zm_X3_157 (Nat.le_of_ble_eq_true rfl) rfl dX3_farWith_27 ?_
  refine V_pc (pc' := 30) rfl ?_
  refine V_iload dX3_farWith_30 0 rfl ?_
  obtain rfl := Option.some.inj h
  exact V_iret rfl hq dX3_farWith_32
def f_X3_farWith (a0 : Nat) (a1 : Nat) (i2 : Int32) (i3 : Int32) (M : zM) : Option (Int32 × zM) := f_X3_farWith_0 a0 a1 i2 i3 M
theorem c_X3_farWith {L : zL} {l : Launch} {a0 : Nat} {a1 : Nat} {i2 : Int32} {i3 : Int32} {M : zM} {r : Int32 × zM} (h : f_X3_farWith a0 a1 i2 i3 M = some r) : CP L l yX3_farWith cX3_farWith 5 (some FieldType.int) 69 M [.ref (zad L (a0)), .ref (zad L (a1)), .int (i2), .int (i3)] (some (.int r.1)) r.2 :=
  CP.of ⟨by decide +kernel, by decide +kernel⟩ (Nat.le_of_ble_eq_true rfl) fun X Q hq => s_X3_farWith_0 hq h
/-! Windsparlour.best()I -/
theorem dX3_best_0 : decode cX3_best 0 = .ok (.aload_n 0, 1) := by decide +kernel
theorem dX3_best_1 : decode cX3_best 1 = .ok (.getfield 42, 3) := by decide +kernel
theorem dX3_best_4 : decode cX3_best 4 = .ok (.iconst 1, 1) := by decide +kernel
theorem dX3_best_5 : decode cX3_best 5 = .ok (.if_icmp .eq 5, 3) := by decide +kernel
theorem dX3_best_8 : decode cX3_best 8 = .ok (.iconst (-1), 1) := by decide +kernel
theorem dX3_best_9 : decode cX3_best 9 = .ok (.ireturn, 1) := by decide +kernel
theorem dX3_best_10 : decode cX3_best 10 = .ok (.aload_n 0, 1) := by decide +kernel
theorem dX3_best_11 : decode cX3_best 11 = .ok (.invokevirtual 108, 3) := by decide +kernel
theorem dX3_best_14 : decode cX3_best 14 = .ok (.astore_n 1, 1) := by decide +kernel
theorem dX3_best_15 : decode cX3_best 15 = .ok (.iconst (-1), 1) := by decide +kernel
theorem dX3_best_16 : decode cX3_best 16 = .ok (.istore_n 2, 1) := by decide +kernel
theorem dX3_best_17 : decode cX3_best 17 = .ok (.iconst 0, 1) := by decide +kernel
theorem dX3_best_18 : decode cX3_best 18 = .ok (.istore_n 3, 1) := by decide +kernel
theorem dX3_best_19 : decode cX3_best 19 = .ok (.iconst 0, 1) := by decide +kernel
theorem dX3_best_20 : decode cX3_best 20 = .ok (.istore 4, 2) := by decide +kernel
theorem dX3_best_22 : decode cX3_best 22 = .ok (.iload 4, 2) := by decide +kernel
theorem dX3_best_24 : decode cX3_best 24 = .ok (.bipush 25, 2) := by decide +kernel
theorem dX3_best_26 : decode cX3_best 26 = .ok (.if_icmp .ge 82, 3) := by decide +kernel
theorem dX3_best_29 : decode cX3_best 29 = .ok (.aload_n 1, 1) := by decide +kernel
theorem dX3_best_30 : decode cX3_best 30 = .ok (.iload 4, 2) := by decide +kernel
theorem dX3_best_32 : decode cX3_best 32 = .ok (.invokevirtual 112, 3) := by decide +kernel
theorem dX3_best_35 : decode cX3_best 35 = .ok (.ifCond .le 67, 3) := by decide +kernel
theorem dX3_best_38 : decode cX3_best 38 = .ok (.aload_n 0, 1) := by decide +kernel
theorem dX3_best_39 : decode cX3_best 39 = .ok (.aload_n 1, 1) := by decide +kernel
theorem dX3_best_40 : decode cX3_best 40 = .ok (.iload 4, 2) := by decide +kernel
theorem dX3_best_42 : decode cX3_best 42 = .ok (.iconst (-1), 1) := by decide +kernel
theorem dX3_best_43 : decode cX3_best 43 = .ok (.invokevirtual 263, 3) := by decide +kernel
theorem dX3_best_46 : decode cX3_best 46 = .ok (.istore 5, 2) := by decide +kernel
theorem dX3_best_48 : decode cX3_best 48 = .ok (.iload_n 2, 1) := by decide +kernel
theorem dX3_best_49 : decode cX3_best 49 = .ok (.iconst (-1), 1) := by decide +kernel
theorem dX3_best_50 : decode cX3_best 50 = .ok (.if_icmp .eq 21, 3) := by decide +kernel
theorem dX3_best_53 : decode cX3_best 53 = .ok (.aload_n 1, 1) := by decide +kernel
theorem dX3_best_54 : decode cX3_best 54 = .ok (.iload 4, 2) := by decide +kernel
theorem dX3_best_56 : decode cX3_best 56 = .ok (.invokevirtual 112, 3) := by decide +kernel
theorem dX3_best_59 : decode cX3_best 59 = .ok (.aload_n 1, 1) := by decide +kernel
theorem dX3_best_60 : decode cX3_best 60 = .ok (.iload_n 2, 1) := by decide +kernel
theorem dX3_best_61 : decode cX3_best 61 = .ok (.invokevirtual 112, 3) := by decide +kernel
theorem dX3_best_64 : decode cX3_best 64 = .ok (.if_icmp .ge 7, 3) := by decide +kernel
theorem dX3_best_67 : decode cX3_best 67 = .ok (.iconst 1, 1) := by decide +kernel
theorem dX3_best_68 : decode cX3_best 68 = .ok (.goto 4, 3) := by decide +kernel
theorem dX3_best_71 : decode cX3_best 71 = .ok (.iconst 0, 1) := by decide +kernel
theorem dX3_best_72 : decode cX3_best 72 = .ok (.istore 6, 2) := by decide +kernel
theorem dX3_best_74 : decode cX3_best 74 = .ok (.iload_n 2, 1) := by decide +kernel
theorem dX3_best_75 : decode cX3_best 75 = .ok (.iconst (-1), 1) := by decide +kernel
theorem dX3_best_76 : decode cX3_best 76 = .ok (.if_icmp .eq 20, 3) := by decide +kernel
theorem dX3_best_79 : decode cX3_best 79 = .ok (.iload 5, 2) := by decide +kernel
theorem dX3_best_81 : decode cX3_best 81 = .ok (.iload_n 3, 1) := by decide +kernel
theorem dX3_best_82 : decode cX3_best 82 = .ok (.if_icmp .lt 14, 3) := by decide +kernel
theorem dX3_best_85 : decode cX3_best 85 = .ok (.iload 5, 2) := by decide +kernel
theorem dX3_best_87 : decode cX3_best 87 = .ok (.iload_n 3, 1) := by decide +kernel
theorem dX3_best_88 : decode cX3_best 88 = .ok (.if_icmp .ne 14, 3) := by decide +kernel
theorem dX3_best_91 : decode cX3_best 91 = .ok (.iload 6, 2) := by decide +kernel
theorem dX3_best_93 : decode cX3_best 93 = .ok (.ifCond .eq 9, 3) := by decide +kernel
theorem dX3_best_96 : decode cX3_best 96 = .ok (.iload 4, 2) := by decide +kernel
theorem dX3_best_98 : decode cX3_best 98 = .ok (.istore_n 2, 1) := by decide +kernel
theorem dX3_best_99 : decode cX3_best 99 = .ok (.iload 5, 2) := by decide +kernel
theorem dX3_best_101 : decode cX3_best 101 = .ok (.istore_n 3, 1) := by decide +kernel
theorem dX3_best_102 : decode cX3_best 102 = .ok (.iinc 4 1, 3) := by decide +kernel
theorem dX3_best_105 : decode cX3_best 105 = .ok (.goto (-83), 3) := by decide +kernel
theorem dX3_best_108 : decode cX3_best 108 = .ok (.iload_n 2, 1) := by decide +kernel
theorem dX3_best_109 : decode cX3_best 109 = .ok (.ireturn, 1) := by decide +kernel
def f_X3_best_96 (K22 : Nat → Nat → Int32 → Int32 → Int32 → zM → Option (Int32 × zM)) (a0 : Nat) (a1 : Nat) (i4 : Int32) (i5 : Int32) (M : zM) : Option (Int32 × zM) :=
  K22 a0 a1 i4 i5 ((i4 + (1 : Int32))) M
set_option maxRecDepth 20000 in
set_option maxHeartbeats 4000000 in
theorem s_X3_best_96 {L : zL} {X : zX} {M0 : zM} {N : Nat × Nat} {Q : State → Prop} {r : Int32 × zM} {K22 : Nat → Nat → Int32 → Int32 → Int32 → zM → Option (Int32 × zM)} (hK22 : ∀ (a0 : Nat) (a1 : Nat) (i2 : Int32) (i3 : Int32) (i4 : Int32) (M : zM), K22 a0 a1 i2 i3 i4 M = some r → V L X yX3_best cX3_best 7 (some FieldType.int) 70 M0 N Q M 22 [(0, .ref (zad L (a0))), (1, .ref (zad L (a1))), (2, .int (i2)), (3, .int (i3)), (4, .int (i4))] []) (hq : vQ L X M0 N Q (some (.int r.1)) r.2) {a0 : Nat} {a1 : Nat} {i4 : Int32} {i5 : Int32} {M : zM} (h : f_X3_best_96 K22 a0 a1 i4 i5 M = some r) : V L X yX3_best cX3_best 7 (some FieldType.int) 70 M0 N Q M 96 [(0, .ref (zad L (a0))), (1, .ref (zad L (a1))), (4, .int (i4)), (5, .int (i5))] [] := by
  unfold f_X3_best_96 at h
  refine V_iload dX3_best_96 2 rfl ?_
  refine V_istore_n (ls' := [(2, .int (i4)), (0, .ref (zad L (a0))), (1, .ref (zad L (a1))), (4, .int (i4)), (5, .int (i5))]) dX3_best_98 rfl (by decide) rfl ?_
  refine V_iload dX3_best_99 4 rfl ?_
  refine V_istore_n (ls' := [(3, .int (i5)), (2, .int (i4)), (0, .ref (zad L (a0))), (1, .ref (zad L (a1))), (4, .int (i4)), (5, .int (i5))]) dX3_best_101 rfl (by decide) rfl ?_
  refine V_iinc (v := i4 + (1 : Int32)) (ls' := [(4, .int ((i4 + (1 : Int32)))), (3, .int (i5)), (2, .int (i4)), (0, .ref (zad L (a0))), (1, .ref (zad L (a1))), (5, .int (i5))]) dX3_best_102 4 rfl (by rfl) (by decide) rfl ?_
  refine V_goto (tgt := 22) dX3_best_105 (by decide) ?_
  refine V_sub [3, 4, 2, 1, 0] rfl ?_
  exact hK22 _ _ _ _ _ _ h
def f_X3_best_72 (K22 : Nat → Nat → Int32 → Int32 → Int32 → zM → Option (Int32 × zM)) (a0 : Nat) (a1 : Nat) (i2 : Int32) (i3 : Int32) (i4 : Int32) (i5 : Int32) (i_0 : Int32) (M : zM) : Option (Int32 × zM) :=
  if i2 = ((-1 : Int32)) then
  f_X3_best_96 K22 a0 a1 i4 i5 M
  else
  if i5 < i3 then
  f_X3_best_96 K22 a0 a1 i4 i5 M
  else
  if i5 = i3 then
  if i_0 = 0 then
  K22 a0 a1 i2 i3 ((i4 + (1 : Int32))) M
  else
  f_X3_best_96 K22 a0 a1 i4 i5 M
  else
  K22 a0 a1 i2 i3 ((i4 + (1 : Int32))) M
set_option maxRecDepth 20000 in
set_option maxHeartbeats 4000000 in
theorem s_X3_best_72 {L : zL} {X : zX} {M0 : zM} {N : Nat × Nat} {Q : State → Prop} {r : Int32 × zM} {K22 : Nat → Nat → Int32 → Int32 → Int32 → zM → Option (Int32 × zM)} (hK22 : ∀ (a0 : Nat) (a1 : Nat) (i2 : Int32) (i3 : Int32) (i4 : Int32) (M : zM), K22 a0 a1 i2 i3 i4 M = some r → V L X yX3_best cX3_best 7 (some FieldType.int) 70 M0 N Q M 22 [(0, .ref (zad L (a0))), (1, .ref (zad L (a1))), (2, .int (i2)), (3, .int (i3)), (4, .int (i4))] []) (hq : vQ L X M0 N Q (some (.int r.1)) r.2) {a0 : Nat} {a1 : Nat} {i2 : Int32} {i3 : Int32} {i4 : Int32} {i5 : Int32} {i_0 : Int32} {M : zM} (h : f_X3_best_72 K22 a0 a1 i2 i3 i4 i5 i_0 M = some r) : V L X yX3_best cX3_best 7 (some FieldType.int) 70 M0 N Q M 72 [(0, .ref (zad L (a0))), (1, .ref (zad L (a1))), (2, .int (i2)), (3, .int (i3)), (4, .int (i4)), (5, .int (i5))] [.int (i_0)] := by
  unfold f_X3_best_72 at h
  refine V_istore (ls' := [(6, .int (i_0)), (0, .ref (zad L (a0))), (1, .ref (zad L (a1))), (2, .int (i2)), (3, .int (i3)), (4, .int (i4)), (5, .int (i5))]) dX3_best_72 (by decide) rfl ?_
  refine V_iload_n dX3_best_74 rfl 3 rfl ?_
  refine V_iconst (v := -1) dX3_best_75 (by decide) ?_
  refine V_icmp_eq (tgt := 96) dX3_best_76 (by decide) (fun c4 => ?_) (fun c4 => ?_)
  · replace h := (oi h).1 c4
    refine V_sub [1, 2, 5, 6] rfl ?_
    exact s_X3_best_96 hK22 hq h
  · replace h := (oi h).2 c4
    refine V_iload dX3_best_79 6 rfl ?_
    refine V_iload_n dX3_best_81 rfl 4 rfl ?_
    refine V_icmp_lt (tgt := 96) dX3_best_82 (by decide) (fun c3 => ?_) (fun c3 => ?_)
    · replace h := (oi h).1 c3
      refine V_sub [1, 2, 5, 6] rfl ?_
      exact s_X3_best_96 hK22 hq h
    · replace h := (oi h).2 c3
      refine V_iload dX3_best_85 6 rfl ?_
      refine V_iload_n dX3_best_87 rfl 4 rfl ?_
      refine V_icmp_ne (tgt := 102) dX3_best_88 (by decide) (fun c2 => ?_) (fun c2 => ?_)
      · replace h := (oi h).2 c2
        refine V_iinc (v := i4 + (1 : Int32)) (ls' := [(4, .int ((i4 + (1 : Int32)))), (6, .int (i_0)), (0, .ref (zad L (a0))), (1, .ref (zad L (a1))), (2, .int (i2)), (3, .int (i3)), (5, .int (i5))]) dX3_best_102 5 rfl (by rfl) (by decide) rfl ?_
        refine V_goto (tgt := 22) dX3_best_105 (by decide) ?_
        refine V_sub [2, 3, 4, 5, 0] rfl ?_
        exact hK22 _ _ _ _ _ _ h
      · replace h := (oi h).1 c2
        refine V_iload dX3_best_91 0 rfl ?_
        refine V_if_eq (tgt := 102) dX3_best_93 (by decide) (fun c1 => ?_) (fun c1 => ?_)
        · replace h := (oi h).1 c1
          refine V_iinc (v := i4 + (1 : Int32)) (ls' := [(4, .int ((i4 + (1 : Int32)))), (6, .int (i_0)), (0, .ref (zad L (a0))), (1, .ref (zad L (a1))), (2, .int (i2)), (3, .int (i3)), (5, .int (i5))]) dX3_best_102 5 rfl (by rfl) (by decide) rfl ?_
          refine V_goto (tgt := 22) dX3_best_105 (by decide) ?_
          refine V_sub [2, 3, 4, 5, 0] rfl ?_
          exact hK22 _ _ _ _ _ _ h
        · replace h := (oi h).2 c1
          refine V_sub [1, 2, 5, 6] rfl ?_
          exact s_X3_best_96 hK22 hq h
def f_X3_best_71 (K22 : Nat → Nat → Int32 → Int32 → Int32 → zM → Option (Int32 × zM)) (a0 : Nat) (a1 : Nat) (i2 : Int32) (i3 : Int32) (i4 : Int32) (i5 : Int32) (M : zM) : Option (Int32 × zM) :=
  f_X3_best_72 K22 a0 a1 i2 i3 i4 i5 ((0 : Int32)) M
set_option maxRecDepth 20000 in
set_option maxHeartbeats 4000000 in
theorem s_X3_best_71 {L : zL} {X : zX} {M0 : zM} {N : Nat × Nat} {Q : State → Prop} {r : Int32 × zM} {K22 : Nat → Nat → Int32 → Int32 → Int32 → zM → Option (Int32 × zM)} (hK22 : ∀ (a0 : Nat) (a1 : Nat) (i2 : Int32) (i3 : Int32) (i4 : Int32) (M : zM), K22 a0 a1 i2 i3 i4 M = some r → V L X yX3_best cX3_best 7 (some FieldType.int) 70 M0 N Q M 22 [(0, .ref (zad L (a0))), (1, .ref (zad L (a1))), (2, .int (i2)), (3, .int (i3)), (4, .int (i4))] []) (hq : vQ L X M0 N Q (some (.int r.1)) r.2) {a0 : Nat} {a1 : Nat} {i2 : Int32} {i3 : Int32} {i4 : Int32} {i5 : Int32} {M : zM} (h : f_X3_best_71 K22 a0 a1 i2 i3 i4 i5 M = some r) : V L X yX3_best cX3_best 7 (some FieldType.int) 70 M0 N Q M 71 [(0, .ref (zad L (a0))), (1, .ref (zad L (a1))), (2, .int (i2)), (3, .int (i3)), (4, .int (i4)), (5, .int (i5))] [] := by
  unfold f_X3_best_71 at h
  refine V_iconst (v := 0) dX3_best_71 (by decide) ?_
  exact s_X3_best_72 hK22 hq h
def f_X3_best_22 (n : Nat) (a0 : Nat) (a1 : Nat) (i2 : Int32) (i3 : Int32) (i4 : Int32) (M : zM) : Option (Int32 × zM) := match n with
  | 0 => none
  | n + 1 =>
    if ((25 : Int32)) ≤ i4 then
    some (i2, M)
    else
    if mK M a1 = 7 then
    (f_X1_count a1 i4 M).bind fun r1 =>
    if r1.1 ≤ 0 then
    f_X3_best_22 n a0 a1 i2 i3 ((i4 + (1 : Int32))) r1.2
    else
    if mK r1.2 a0 = 9 then
    (f_X3_farWith a0 a1 i4 ((-1 : Int32)) r1.2).bind fun r3 =>
    if i2 = ((-1 : Int32)) then
    f_X3_best_71 (f_X3_best_22 n) a0 a1 i2 i3 i4 r3.1 r3.2
    else
    if mK r3.2 a1 = 7 then
    (f_X1_count a1 i4 r3.2).bind fun r5 =>
    if mK r5.2 a1 = 7 then
    (f_X1_count a1 i2 r5.2).bind fun r7 =>
    if r7.1 ≤ r5.1 then
    f_X3_best_71 (f_X3_best_22 n) a0 a1 i2 i3 i4 r3.1 r7.2
    else
    f_X3_best_72 (f_X3_best_22 n) a0 a1 i2 i3 i4 r3.1 ((1 : Int32)) r7.2
    else none
    else none
    else none
    else none
set_option maxRecDepth 20000 in
set_option maxHeartbeats 4000000 in
theorem s_X3_best_22 {L : zL} {X : zX} {M0 : zM} {N : Nat × Nat} {Q : State → Prop} {r : Int32 × zM} (hq : vQ L X M0 N Q (some (.int r.1)) r.2) {n : Nat} {a0 : Nat} {a1 : Nat} {i2 : Int32} {i3 : Int32} {i4 : Int32} {M : zM} : f_X3_best_22 n a0 a1 i2 i3 i4 M = some r → V L X yX3_best cX3_best 7 (some FieldType.int) 70 M0 N Q M 22 [(0, .ref (zad L (a0))), (1, .ref (zad L (a1))), (2, .int (i2)), (3, .int (i3)), (4, .int (i4))] [] := by
  induction n generalizing a0 a1 i2 i3 i4 M with
  | zero =>
    intro h
    rw [f_X3_best_22] at h
    cases h
  | succ n ih0 =>
    intro h
    have ih : ∀ (a0 : Nat) (a1 : Nat) (i2 : Int32) (i3 : Int32) (i4 : Int32) (M : zM), f_X3_best_22 n a0 a1 i2 i3 i4 M = some r → V L X yX3_best cX3_best 7 (some FieldType.int) 70 M0 N Q M 22 [(0, .ref (zad L (a0))), (1, .ref (zad L (a1))), (2, .int (i2)), (3, .int (i3)), (4, .int (i4))] [] := fun a0 a1 i2 i3 i4 M h => ih0 h
    rw [f_X3_best_22] at h
    refine V_iload dX3_best_22 4 rfl ?_
    refine V_bipush (v := 25) dX3_best_24 (by decide) ?_
    refine V_icmp_ge (tgt := 108) dX3_best_26 (by decide) (fun c12 => ?_) (fun c12 => ?_)
    · replace h := (oi h).1 c12
      refine V_iload_n dX3_best_108 rfl 2 rfl ?_
      obtain rfl := Option.some.inj h
      exact V_iret rfl hq dX3_best_109
    · replace h := (oi h).2 c12
      refine V_aload_n dX3_best_29 rfl 1 rfl ?_
      refine V_iload dX3_best_30 4 rfl ?_
      replace h := ox h
      obtain ⟨c2, h⟩ := h
      replace h := ob h
      obtain ⟨r1, e_r1, h⟩ := h
      refine V_callV_I (As := [.int (i4)]) (rest := []) (c_X1_count e_r1) zc_X1_count rfl (by decide) rfl (by decide) (Or.inl c2) zm_X3_112 (Nat.le_of_ble_eq_true rfl) rfl dX3_best_32 ?_
      refine V_pc (pc' := 35) rfl ?_
      refine V_if_le (tgt := 102) dX3_best_35 (by decide) (fun c11 => ?_) (fun c11 => ?_)
      · replace h := (oi h).1 c11
        refine V_iinc (v := i4 + (1 : Int32)) (ls' := [(4, .int ((i4 + (1 : Int32)))), (0, .ref (zad L (a0))), (1, .ref (zad L (a1))), (2, .int (i2)), (3, .int (i3))]) dX3_best_102 4 rfl (by rfl) (by decide) rfl ?_
        refine V_goto (tgt := 22) dX3_best_105 (by decide) ?_
        refine V_sub [1, 2, 3, 4, 0] rfl ?_
        exact ih _ _ _ _ _ _ h
      · replace h := (oi h).2 c11
        refine V_aload_n dX3_best_38 rfl 0 rfl ?_
        refine V_aload_n dX3_best_39 rfl 1 rfl ?_
        refine V_iload dX3_best_40 4 rfl ?_
        refine V_iconst (v := -1) dX3_best_42 (by decide) ?_
        replace h := ox h
        obtain ⟨c4, h⟩ := h
        replace h := ob h
        obtain ⟨r3, e_r3, h⟩ := h
        refine V_callV_I (As := [.ref (zad L (a1)), .int (i4), .int ((-1 : Int32))]) (rest := []) (c_X3_farWith e_r3) zc_X3_farWith rfl (by decide) rfl (by decide) (Or.inl c4) zm_X3_263 (Nat.le_of_ble_eq_true rfl) rfl dX3_best_43 ?_
        refine V_pc (pc' := 46) rfl ?_
        refine V_istore (ls' := [(5, .int (r3.1)), (0, .ref (zad L (a0))), (1, .ref (zad L (a1))), (2, .int (i2)), (3, .int (i3)), (4, .int (i4))]) dX3_best_46 (by decide) rfl ?_
        refine V_iload_n dX3_best_48 rfl 3 rfl ?_
        refine V_iconst (v := -1) dX3_best_49 (by decide) ?_
        refine V_icmp_eq (tgt := 71) dX3_best_50 (by decide) (fun c10 => ?_) (fun c10 => ?_)
        · replace h := (oi h).1 c10
          refine V_sub [1, 2, 3, 4, 5, 0] rfl ?_
          exact s_X3_best_71 ih hq h
        · replace h := (oi h).2 c10
          refine V_aload_n dX3_best_53 rfl 2 rfl ?_
          refine V_iload dX3_best_54 5 rfl ?_
          replace h := ox h
          obtain ⟨c6, h⟩ := h
          replace h := ob h
          obtain ⟨r5, e_r5, h⟩ := h
          refine V_callV_I (As := [.int (i4)]) (rest := []) (c_X1_count e_r5) zc_X1_count rfl (by decide) rfl (by decide) (Or.inl c6) zm_X3_112 (Nat.le_of_ble_eq_true rfl) rfl dX3_best_56 ?_
          refine V_pc (pc' := 59) rfl ?_
          refine V_aload_n dX3_best_59 rfl 2 rfl ?_
          refine V_iload_n dX3_best_60 rfl 3 rfl ?_
          replace h := ox h
          obtain ⟨c8, h⟩ := h
          replace h := ob h
          obtain ⟨r7, e_r7, h⟩ := h
          refine V_callV_I (As := [.int (i2)]) (rest := [.int (r5.1)]) (c_X1_count e_r7) zc_X1_count rfl (by decide) rfl (by decide) (Or.inl c8) zm_X3_112 (Nat.le_of_ble_eq_true rfl) rfl dX3_best_61 ?_
          refine V_pc (pc' := 64) rfl ?_
          refine V_icmp_ge (tgt := 71) dX3_best_64 (by decide) (fun c9 => ?_) (fun c9 => ?_)
          · replace h := (oi h).1 c9
            refine V_sub [1, 2, 3, 4, 5, 0] rfl ?_
            exact s_X3_best_71 ih hq h
          · replace h := (oi h).2 c9
            refine V_iconst (v := 1) dX3_best_67 (by decide) ?_
            refine V_goto (tgt := 72) dX3_best_68 (by decide) ?_
            refine V_sub [1, 2, 3, 4, 5, 0] rfl ?_
            exact s_X3_best_72 ih hq h
def f_X3_best_0 (a0 : Nat) (M : zM) : Option (Int32 × zM) :=
  (gI 9 7 M a0).bind fun v1 =>
  if v1 = ((1 : Int32)) then
  if mK M a0 = 9 then
  (f_X3_seatInTurn a0 M).bind fun r2 =>
  f_X3_best_22 zN a0 r2.1 ((-1 : Int32)) ((0 : Int32)) ((0 : Int32)) r2.2
  else none
  else
  some ((-1 : Int32), M)
set_option maxRecDepth 20000 in
set_option maxHeartbeats 4000000 in
theorem s_X3_best_0 {L : zL} {X : zX} {M0 : zM} {N : Nat × Nat} {Q : State → Prop} {r : Int32 × zM} (hq : vQ L X M0 N Q (some (.int r.1)) r.2) {a0 : Nat} {M : zM} (h : f_X3_best_0 a0 M = some r) : V L X yX3_best cX3_best 7 (some FieldType.int) 70 M0 N Q M 0 [(0, .ref (zad L (a0)))] [] := by
  unfold f_X3_best_0 at h
  refine V_aload_n dX3_best_0 rfl 0 rfl ?_
  replace h := ob h
  obtain ⟨v1, e_v1, h⟩ := h
  refine V_getI zf_9_7 zl_X3_42 e_v1 dX3_best_1 ?_
  refine V_pc (pc' := 4) rfl ?_
  refine V_iconst (v := 1) dX3_best_4 (by decide) ?_
  refine V_icmp_eq (tgt := 10) dX3_best_5 (by decide) (fun c4 => ?_) (fun c4 => ?_)
  · replace h := (oi h).1 c4
    refine V_aload_n dX3_best_10 rfl 0 rfl ?_
    replace h := ox h
    obtain ⟨c3, h⟩ := h
    replace h := ob h
    obtain ⟨r2, e_r2, h⟩ := h
    refine V_callV_A (As := []) (rest := []) (c_X3_seatInTurn e_r2) zc_X3_seatInTurn rfl (by decide) rfl (by decide) (Or.inl c3) zm_X3_108 (Nat.le_of_ble_eq_true rfl) rfl dX3_best_11 ?_
    refine V_pc (pc' := 14) rfl ?_
    refine V_astore_n (ls' := [(1, .ref (zad L (r2.1))), (0, .ref (zad L (a0)))]) dX3_best_14 rfl (by decide) rfl ?_
    refine V_iconst (v := -1) dX3_best_15 (by decide) ?_
    refine V_istore_n (ls' := [(2, .int ((-1 : Int32))), (1, .ref (zad L (r2.1))), (0, .ref (zad L (a0)))]) dX3_best_16 rfl (by decide) rfl ?_
    refine V_iconst (v := 0) dX3_best_17 (by decide) ?_
    refine V_istore_n (ls' := [(3, .int ((0 : Int32))), (2, .int ((-1 : Int32))), (1, .ref (zad L (r2.1))), (0, .ref (zad L (a0)))]) dX3_best_18 rfl (by decide) rfl ?_
    refine V_iconst (v := 0) dX3_best_19 (by decide) ?_
    refine V_istore (ls' := [(4, .int ((0 : Int32))), (3, .int ((0 : Int32))), (2, .int ((-1 : Int32))), (1, .ref (zad L (r2.1))), (0, .ref (zad L (a0)))]) dX3_best_20 (by decide) rfl ?_
    refine V_sub [4, 3, 2, 1, 0] rfl ?_
    exact s_X3_best_22 hq h
  · replace h := (oi h).2 c4
    refine V_iconst (v := -1) dX3_best_8 (by decide) ?_
    obtain rfl := Option.some.inj h
    exact V_iret rfl hq dX3_best_9
def f_X3_best (a0 : Nat) (M : zM) : Option (Int32 × zM) := f_X3_best_0 a0 M
theorem c_X3_best {L : zL} {l : Launch} {a0 : Nat} {M : zM} {r : Int32 × zM} (h : f_X3_best a0 M = some r) : CP L l yX3_best cX3_best 7 (some FieldType.int) 70 M [.ref (zad L (a0))] (some (.int r.1)) r.2 :=
  CP.of ⟨by decide +kernel, by decide +kernel⟩ (Nat.le_of_ble_eq_true rfl) fun X Q hq => s_X3_best_0 hq h
/-! Windsparlour.isSafe(II)Z -/
theorem dX3_isSafe_0 : decode cX3_isSafe 0 = .ok (.iload_n 1, 1) := by decide +kernel
theorem dX3_isSafe_1 : decode cX3_isSafe 1 = .ok (.invokestatic 143, 3) := by decide +kernel
theorem dX3_isSafe_4 : decode cX3_isSafe 4 = .ok (.iload_n 2, 1) := by decide +kernel
theorem dX3_isSafe_5 : decode cX3_isSafe 5 = .ok (.invokestatic 105, 3) := by decide +kernel
theorem dX3_isSafe_8 : decode cX3_isSafe 8 = .ok (.iconst 0, 1) := by decide +kernel
theorem dX3_isSafe_9 : decode cX3_isSafe 9 = .ok (.istore_n 3, 1) := by decide +kernel
theorem dX3_isSafe_10 : decode cX3_isSafe 10 = .ok (.iload_n 3, 1) := by decide +kernel
theorem dX3_isSafe_11 : decode cX3_isSafe 11 = .ok (.iconst 4, 1) := by decide +kernel
theorem dX3_isSafe_12 : decode cX3_isSafe 12 = .ok (.if_icmp .ge 46, 3) := by decide +kernel
theorem dX3_isSafe_15 : decode cX3_isSafe 15 = .ok (.iload_n 3, 1) := by decide +kernel
theorem dX3_isSafe_16 : decode cX3_isSafe 16 = .ok (.iload_n 1, 1) := by decide +kernel
theorem dX3_isSafe_17 : decode cX3_isSafe 17 = .ok (.if_icmp .eq 35, 3) := by decide +kernel
theorem dX3_isSafe_20 : decode cX3_isSafe 20 = .ok (.aload_n 0, 1) := by decide +kernel
theorem dX3_isSafe_21 : decode cX3_isSafe 21 = .ok (.getfield 11, 3) := by decide +kernel
theorem dX3_isSafe_24 : decode cX3_isSafe 24 = .ok (.iload_n 3, 1) := by decide +kernel
theorem dX3_isSafe_25 : decode cX3_isSafe 25 = .ok (.aaload, 1) := by decide +kernel
theorem dX3_isSafe_26 : decode cX3_isSafe 26 = .ok (.getfield 115, 3) := by decide +kernel
theorem dX3_isSafe_29 : decode cX3_isSafe 29 = .ok (.ifCond .eq 23, 3) := by decide +kernel
theorem dX3_isSafe_32 : decode cX3_isSafe 32 = .ok (.aload_n 0, 1) := by decide +kernel
theorem dX3_isSafe_33 : decode cX3_isSafe 33 = .ok (.getfield 11, 3) := by decide +kernel
theorem dX3_isSafe_36 : decode cX3_isSafe 36 = .ok (.iload_n 3, 1) := by decide +kernel
theorem dX3_isSafe_37 : decode cX3_isSafe 37 = .ok (.aaload, 1) := by decide +kernel
theorem dX3_isSafe_38 : decode cX3_isSafe 38 = .ok (.getfield 213, 3) := by decide +kernel
theorem dX3_isSafe_41 : decode cX3_isSafe 41 = .ok (.iload_n 2, 1) := by decide +kernel
theorem dX3_isSafe_42 : decode cX3_isSafe 42 = .ok (.lshr, 1) := by decide +kernel
theorem dX3_isSafe_43 : decode cX3_isSafe 43 = .ok (.lconst 1, 1) := by decide +kernel
theorem dX3_isSafe_44 : decode cX3_isSafe 44 = .ok (.land, 1) := by decide +kernel
theorem dX3_isSafe_45 : decode cX3_isSafe 45 = .ok (.lconst 0, 1) := by decide +kernel
theorem dX3_isSafe_46 : decode cX3_isSafe 46 = .ok (.lcmp, 1) := by decide +kernel
theorem dX3_isSafe_47 : decode cX3_isSafe 47 = .ok (.ifCond .ne 5, 3) := by decide +kernel
theorem dX3_isSafe_50 : decode cX3_isSafe 50 = .ok (.iconst 0, 1) := by decide +kernel
theorem dX3_isSafe_51 : decode cX3_isSafe 51 = .ok (.ireturn, 1) := by decide +kernel
theorem dX3_isSafe_52 : decode cX3_isSafe 52 = .ok (.iinc 3 1, 3) := by decide +kernel
theorem dX3_isSafe_55 : decode cX3_isSafe 55 = .ok (.goto (-45), 3) := by decide +kernel
theorem dX3_isSafe_58 : decode cX3_isSafe 58 = .ok (.iconst 1, 1) := by decide +kernel
theorem dX3_isSafe_59 : decode cX3_isSafe 59 = .ok (.ireturn, 1) := by decide +kernel
def f_X3_isSafe_10 (n : Nat) (a0 : Nat) (i1 : Int32) (i2 : Int32) (i3 : Int32) (M : zM) : Option ((String ⊕ Int32) × zM) := match n with
  | 0 => none
  | n + 1 =>
    if ((4 : Int32)) ≤ i3 then
    some (Sum.inr ((1 : Int32)), M)
    else
    if i3 = i1 then
    f_X3_isSafe_10 n a0 i1 i2 ((i3 + (1 : Int32))) M
    else
    (gR 9 0 M a0).bind fun v1 =>
    (lQ 1 M v1 i3).bind fun v2 =>
    (gI 7 6 M v2).bind fun v3 =>
    if v3 = 0 then
    f_X3_isSafe_10 n a0 i1 i2 ((i3 + (1 : Int32))) M
    else
    (gR 9 0 M a0).bind fun v4 =>
    (lQ 1 M v4 i3).bind fun v5 =>
    (gJ 7 3 M v5).bind fun v6 =>
    if ((lg_cmp ((((v6 >>> (i2.toInt64 &&& 63))) &&& ((1 : Int64)))) ((0 : Int64)))) = 0 then
    some (Sum.inr ((0 : Int32)), M)
    else
    f_X3_isSafe_10 n a0 i1 i2 ((i3 + (1 : Int32))) M
set_option maxRecDepth 20000 in
set_option maxHeartbeats 4000000 in
theorem s_X3_isSafe_10 {L : zL} {X : zX} {M0 : zM} {N : Nat × Nat} {Q : State → Prop} {r : (String ⊕ Int32) × zM} (hq : vQX L X M0 N Q (zoI r.1) r.2) {n : Nat} {a0 : Nat} {i1 : Int32} {i2 : Int32} {i3 : Int32} {M : zM} : f_X3_isSafe_10 n a0 i1 i2 i3 M = some r → V L X yX3_isSafe cX3_isSafe 4 (some FieldType.boolean) 7 M0 N Q M 10 [(0, .ref (zad L (a0))), (1, .int (i1)), (2, .int (i2)), (3, .int (i3))] [] := by
  induction n generalizing a0 i1 i2 i3 M with
  | zero =>
    intro h
    rw [f_X3_isSafe_10] at h
    cases h
  | succ n ih0 =>
    intro h
    have ih : ∀ (a0 : Nat) (i1 : Int32) (i2 : Int32) (i3 : Int32) (M : zM), f_X3_isSafe_10 n a0 i1 i2 i3 M = some r → V L X yX3_isSafe cX3_isSafe 4 (some FieldType.boolean) 7 M0 N Q M 10 [(0, .ref (zad L (a0))), (1, .int (i1)), (2, .int (i2)), (3, .int (i3))] [] := fun a0 i1 i2 i3 M h => ih0 h
    rw [f_X3_isSafe_10] at h
    refine V_iload_n dX3_isSafe_10 rfl 3 rfl ?_
    refine V_iconst (v := 4) dX3_isSafe_11 (by decide) ?_
    refine V_icmp_ge (tgt := 58) dX3_isSafe_12 (by decide) (fun c10 => ?_) (fun c10 => ?_)
    · replace h := (oi h).1 c10
      refine V_iconst (v := 1) dX3_isSafe_58 (by decide) ?_
      obtain rfl := Option.some.inj h
      exact V_zretX (ty := .boolean) rfl rfl hq dX3_isSafe_59
    · replace h := (oi h).2 c10
      refine V_iload_n dX3_isSafe_15 rfl 3 rfl ?_
      refine V_iload_n dX3_isSafe_16 rfl 1 rfl ?_
      refine V_icmp_eq (tgt := 52) dX3_isSafe_17 (by decide) (fun c9 => ?_) (fun c9 => ?_)
      · replace h := (oi h).1 c9
        refine V_iinc (v := i3 + (1 : Int32)) (ls' := [(3, .int ((i3 + (1 : Int32)))), (0, .ref (zad L (a0))), (1, .int (i1)), (2, .int (i2))]) dX3_isSafe_52 3 rfl (by rfl) (by decide) rfl ?_
        refine V_goto (tgt := 10) dX3_isSafe_55 (by decide) ?_
        refine V_sub [1, 2, 3, 0] rfl ?_
        exact ih _ _ _ _ _ h
      · replace h := (oi h).2 c9
        refine V_aload_n dX3_isSafe_20 rfl 0 rfl ?_
        replace h := ob h
        obtain ⟨v1, e_v1, h⟩ := h
        refine V_getR zf_9_0 zl_X3_11 e_v1 dX3_isSafe_21 ?_
        refine V_pc (pc' := 24) rfl ?_
        refine V_iload_n dX3_isSafe_24 rfl 3 rfl ?_
        replace h := ob h
        obtain ⟨v2, e_v2, h⟩ := h
        refine V_aald (by decide) e_v2 dX3_isSafe_25 ?_
        refine V_pc (pc' := 26) rfl ?_
        replace h := ob h
        obtain ⟨v3, e_v3, h⟩ := h
        refine V_getI zf_7_6 zl_X3_115 e_v3 dX3_isSafe_26 ?_
        refine V_pc (pc' := 29) rfl ?_
        refine V_if_eq (tgt := 52) dX3_isSafe_29 (by decide) (fun c8 => ?_) (fun c8 => ?_)
        · replace h := (oi h).1 c8
          refine V_iinc (v := i3 + (1 : Int32)) (ls' := [(3, .int ((i3 + (1 : Int32)))), (0, .ref (zad L (a0))), (1, .int (i1)), (2, .int (i2))]) dX3_isSafe_52 3 rfl (by rfl) (by decide) rfl ?_
          refine V_goto (tgt := 10) dX3_isSafe_55 (by decide) ?_
          refine V_sub [1, 2, 3, 0] rfl ?_
          exact ih _ _ _ _ _ h
        · replace h := (oi h).2 c8
          refine V_aload_n dX3_isSafe_32 rfl 0 rfl ?_
          replace h := ob h
          obtain ⟨v4, e_v4, h⟩ := h
          refine V_getR zf_9_0 zl_X3_11 e_v4 dX3_isSafe_33 ?_
          refine V_pc (pc' := 36) rfl ?_
          refine V_iload_n dX3_isSafe_36 rfl 3 rfl ?_
          replace h := ob h
          obtain ⟨v5, e_v5, h⟩ := h
          refine V_aald (by decide) e_v5 dX3_isSafe_37 ?_
          refine V_pc (pc' := 38) rfl ?_
          replace h := ob h
          obtain ⟨v6, e_v6, h⟩ := h
          refine V_getJ zf_7_3 zl_X3_213 e_v6 dX3_isSafe_38 ?_
          refine V_pc (pc' := 41) rfl ?_
          refine V_iload_n dX3_isSafe_41 rfl 2 rfl ?_
          refine V_lshr dX3_isSafe_42 ?_
          refine V_lconst (v := 1) dX3_isSafe_43 (by decide) ?_
          refine V_land dX3_isSafe_44 ?_
          refine V_lconst (v := 0) dX3_isSafe_45 (by decide) ?_
          refine V_lcmp dX3_isSafe_46 ?_
          refine V_if_ne (tgt := 52) dX3_isSafe_47 (by decide) (fun c7 => ?_) (fun c7 => ?_)
          · replace h := (oi h).2 c7
            refine V_iinc (v := i3 + (1 : Int32)) (ls' := [(3, .int ((i3 + (1 : Int32)))), (0, .ref (zad L (a0))), (1, .int (i1)), (2, .int (i2))]) dX3_isSafe_52 3 rfl (by rfl) (by decide) rfl ?_
            refine V_goto (tgt := 10) dX3_isSafe_55 (by decide) ?_
            refine V_sub [1, 2, 3, 0] rfl ?_
            exact ih _ _ _ _ _ h
          · replace h := (oi h).1 c7
            refine V_iconst (v := 0) dX3_isSafe_50 (by decide) ?_
            obtain rfl := Option.some.inj h
            exact V_zretX (ty := .boolean) rfl rfl hq dX3_isSafe_51
def f_X3_isSafe_0 (a0 : Nat) (i1 : Int32) (i2 : Int32) (M : zM) : Option ((String ⊕ Int32) × zM) :=
  xb (f_X3_requirePlayer i1 M) fun w1 Mw1 =>
  xb (f_X3_requireKind i2 Mw1) fun w3 Mw3 =>
  f_X3_isSafe_10 zN a0 i1 i2 ((0 : Int32)) Mw3
set_option maxRecDepth 20000 in
set_option maxHeartbeats 4000000 in
theorem s_X3_isSafe_0 {L : zL} {X : zX} {M0 : zM} {N : Nat × Nat} {Q : State → Prop} {r : (String ⊕ Int32) × zM} (hq : vQX L X M0 N Q (zoI r.1) r.2) {a0 : Nat} {i1 : Int32} {i2 : Int32} {M : zM} (h : f_X3_isSafe_0 a0 i1 i2 M = some r) : V L X yX3_isSafe cX3_isSafe 4 (some FieldType.boolean) 7 M0 N Q M 0 [(0, .ref (zad L (a0))), (1, .int (i1)), (2, .int (i2))] [] := by
  unfold f_X3_isSafe_0 at h
  refine V_iload_n dX3_isSafe_0 rfl 1 rfl ?_
  replace h := xbs h
  rcases h with ⟨E_r1, M_r1, e_r1, rfl⟩ | ⟨w1, Mw1, e_r1, h⟩
  · exact V_callSt (As := [.int (i1)]) (rest := []) (c_X3_requirePlayer e_r1) hq (by decide +kernel) zc_X3_requirePlayer rfl (by decide) zm_X3_143 (Nat.le_of_ble_eq_true rfl) rfl dX3_isSafe_1
  · refine V_callSx_V (As := [.int (i1)]) (rest := []) (c_X3_requirePlayer e_r1) zc_X3_requirePlayer rfl (by decide) zm_X3_143 (Nat.le_of_ble_eq_true rfl) rfl dX3_isSafe_1 ?_
    refine V_pc (pc' := 4) rfl ?_
    refine V_iload_n dX3_isSafe_4 rfl 2 rfl ?_
    replace h := xbs h
    rcases h with ⟨E_r3, M_r3, e_r3, rfl⟩ | ⟨w3, Mw3, e_r3, h⟩
    · exact V_callSt (As := [.int (i2)]) (rest := []) (c_X3_requireKind e_r3) hq (by decide +kernel) zc_X3_requireKind rfl (by decide) zm_X3_105 (Nat.le_of_ble_eq_true rfl) rfl dX3_isSafe_5
    · refine V_callSx_V (As := [.int (i2)]) (rest := []) (c_X3_requireKind e_r3) zc_X3_requireKind rfl (by decide) zm_X3_105 (Nat.le_of_ble_eq_true rfl) rfl dX3_isSafe_5 ?_
      refine V_pc (pc' := 8) rfl ?_
      refine V_iconst (v := 0) dX3_isSafe_8 (by decide) ?_
      refine V_istore_n (ls' := [(3, .int ((0 : Int32))), (0, .ref (zad L (a0))), (1, .int (i1)), (2, .int (i2))]) dX3_isSafe_9 rfl (by decide) rfl ?_
      refine V_sub [1, 2, 3, 0] rfl ?_
      exact s_X3_isSafe_10 hq h
def f_X3_isSafe (a0 : Nat) (i1 : Int32) (i2 : Int32) (M : zM) : Option ((String ⊕ Int32) × zM) := f_X3_isSafe_0 a0 i1 i2 M
theorem c_X3_isSafe {L : zL} {l : Launch} {a0 : Nat} {i1 : Int32} {i2 : Int32} {M : zM} {r : (String ⊕ Int32) × zM} (h : f_X3_isSafe a0 i1 i2 M = some r) : CX L l yX3_isSafe cX3_isSafe 4 (some FieldType.boolean) 7 M [.ref (zad L (a0)), .int (i1), .int (i2)] (zoI r.1) r.2 :=
  CX.of ⟨by decide +kernel, by decide +kernel⟩ (Nat.le_of_ble_eq_true rfl) fun X Q hq => s_X3_isSafe_0 hq h
/-! Windsparlour.outs(I)I -/
theorem dX3_outs_0 : decode cX3_outs 0 = .ok (.iload_n 1, 1) := by decide +kernel
theorem dX3_outs_1 : decode cX3_outs 1 = .ok (.invokestatic 143, 3) := by decide +kernel
theorem dX3_outs_4 : decode cX3_outs 4 = .ok (.aload_n 0, 1) := by decide +kernel
theorem dX3_outs_5 : decode cX3_outs 5 = .ok (.getfield 11, 3) := by decide +kernel
theorem dX3_outs_8 : decode cX3_outs 8 = .ok (.iload_n 1, 1) := by decide +kernel
theorem dX3_outs_9 : decode cX3_outs 9 = .ok (.aaload, 1) := by decide +kernel
theorem dX3_outs_10 : decode cX3_outs 10 = .ok (.astore_n 2, 1) := by decide +kernel
theorem dX3_outs_11 : decode cX3_outs 11 = .ok (.aload_n 2, 1) := by decide +kernel
theorem dX3_outs_12 : decode cX3_outs 12 = .ok (.invokevirtual 267, 3) := by decide +kernel
theorem dX3_outs_15 : decode cX3_outs 15 = .ok (.bipush 10, 2) := by decide +kernel
theorem dX3_outs_17 : decode cX3_outs 17 = .ok (.if_icmp .le 5, 3) := by decide +kernel
theorem dX3_outs_20 : decode cX3_outs 20 = .ok (.iconst 0, 1) := by decide +kernel
theorem dX3_outs_21 : decode cX3_outs 21 = .ok (.ireturn, 1) := by decide +kernel
theorem dX3_outs_22 : decode cX3_outs 22 = .ok (.aload_n 0, 1) := by decide +kernel
theorem dX3_outs_23 : decode cX3_outs 23 = .ok (.getfield 18, 3) := by decide +kernel
theorem dX3_outs_26 : decode cX3_outs 26 = .ok (.aload_n 2, 1) := by decide +kernel
theorem dX3_outs_27 : decode cX3_outs 27 = .ok (.getfield 201, 3) := by decide +kernel
theorem dX3_outs_30 : decode cX3_outs 30 = .ok (.aload_n 2, 1) := by decide +kernel
theorem dX3_outs_31 : decode cX3_outs 31 = .ok (.getfield 167, 3) := by decide +kernel
theorem dX3_outs_34 : decode cX3_outs 34 = .ok (.invokevirtual 205, 3) := by decide +kernel
theorem dX3_outs_37 : decode cX3_outs 37 = .ok (.istore_n 3, 1) := by decide +kernel
theorem dX3_outs_38 : decode cX3_outs 38 = .ok (.iconst 0, 1) := by decide +kernel
theorem dX3_outs_39 : decode cX3_outs 39 = .ok (.istore 4, 2) := by decide +kernel
theorem dX3_outs_41 : decode cX3_outs 41 = .ok (.iconst 0, 1) := by decide +kernel
theorem dX3_outs_42 : decode cX3_outs 42 = .ok (.istore 5, 2) := by decide +kernel
theorem dX3_outs_44 : decode cX3_outs 44 = .ok (.iload 5, 2) := by decide +kernel
theorem dX3_outs_46 : decode cX3_outs 46 = .ok (.bipush 25, 2) := by decide +kernel
theorem dX3_outs_48 : decode cX3_outs 48 = .ok (.if_icmp .ge 50, 3) := by decide +kernel
theorem dX3_outs_51 : decode cX3_outs 51 = .ok (.iconst 4, 1) := by decide +kernel
theorem dX3_outs_52 : decode cX3_outs 52 = .ok (.aload_n 2, 1) := by decide +kernel
theorem dX3_outs_53 : decode cX3_outs 53 = .ok (.iload 5, 2) := by decide +kernel
theorem dX3_outs_55 : decode cX3_outs 55 = .ok (.invokevirtual 112, 3) := by decide +kernel
theorem dX3_outs_58 : decode cX3_outs 58 = .ok (.isub, 1) := by decide +kernel
theorem dX3_outs_59 : decode cX3_outs 59 = .ok (.aload_n 0, 1) := by decide +kernel
theorem dX3_outs_60 : decode cX3_outs 60 = .ok (.iload 5, 2) := by decide +kernel
theorem dX3_outs_62 : decode cX3_outs 62 = .ok (.invokevirtual 270, 3) := by decide +kernel
theorem dX3_outs_65 : decode cX3_outs 65 = .ok (.isub, 1) := by decide +kernel
theorem dX3_outs_66 : decode cX3_outs 66 = .ok (.istore 6, 2) := by decide +kernel
theorem dX3_outs_68 : decode cX3_outs 68 = .ok (.iload 6, 2) := by decide +kernel
theorem dX3_outs_70 : decode cX3_outs 70 = .ok (.ifCond .le 22, 3) := by decide +kernel
theorem dX3_outs_73 : decode cX3_outs 73 = .ok (.aload_n 0, 1) := by decide +kernel
theorem dX3_outs_74 : decode cX3_outs 74 = .ok (.aload_n 2, 1) := by decide +kernel
theorem dX3_outs_75 : decode cX3_outs 75 = .ok (.iload 5, 2) := by decide +kernel
theorem dX3_outs_77 : decode cX3_outs 77 = .ok (.iconst 1, 1) := by decide +kernel
theorem dX3_outs_78 : decode cX3_outs 78 = .ok (.invokevirtual 263, 3) := by decide +kernel
theorem dX3_outs_81 : decode cX3_outs 81 = .ok (.iload_n 3, 1) := by decide +kernel
theorem dX3_outs_82 : decode cX3_outs 82 = .ok (.if_icmp .ge 10, 3) := by decide +kernel
theorem dX3_outs_85 : decode cX3_outs 85 = .ok (.iload 4, 2) := by decide +kernel
theorem dX3_outs_87 : decode cX3_outs 87 = .ok (.iload 6, 2) := by decide +kernel
theorem dX3_outs_89 : decode cX3_outs 89 = .ok (.iadd, 1) := by decide +kernel
theorem dX3_outs_90 : decode cX3_outs 90 = .ok (.istore 4, 2) := by decide +kernel
theorem dX3_outs_92 : decode cX3_outs 92 = .ok (.iinc 5 1, 3) := by decide +kernel
theorem dX3_outs_95 : decode cX3_outs 95 = .ok (.goto (-51), 3) := by decide +kernel
theorem dX3_outs_98 : decode cX3_outs 98 = .ok (.iload 4, 2) := by decide +kernel
theorem dX3_outs_100 : decode cX3_outs 100 = .ok (.ireturn, 1) := by decide +kernel
def f_X3_outs_44 (n : Nat) (a0 : Nat) (a2 : Nat) (i3 : Int32) (i4 : Int32) (i5 : Int32) (M : zM) : Option ((String ⊕ Int32) × zM) := match n with
  | 0 => none
  | n + 1 =>
    if ((25 : Int32)) ≤ i5 then
    some (Sum.inr (i4), M)
    else
    if mK M a2 = 7 then
    (f_X1_count a2 i5 M).bind fun r1 =>
    if mK r1.2 a0 = 9 then
    xb (f_X3_seen a0 i5 r1.2) fun w3 Mw3 =>
    if ((((((4 : Int32)) - r1.1)) - w3)) ≤ 0 then
    f_X3_outs_44 n a0 a2 i3 i4 ((i5 + (1 : Int32))) Mw3
    else
    if mK Mw3 a0 = 9 then
    (f_X3_farWith a0 a2 i5 ((1 : Int32)) Mw3).bind fun r9 =>
    if i3 ≤ r9.1 then
    f_X3_outs_44 n a0 a2 i3 i4 ((i5 + (1 : Int32))) r9.2
    else
    f_X3_outs_44 n a0 a2 i3 ((i4 + ((((((4 : Int32)) - r1.1)) - w3)))) ((i5 + (1 : Int32))) r9.2
    else none
    else none
    else none
set_option maxRecDepth 20000 in
set_option maxHeartbeats 4000000 in
theorem s_X3_outs_44 {L : zL} {X : zX} {M0 : zM} {N : Nat × Nat} {Q : State → Prop} {r : (String ⊕ Int32) × zM} (hq : vQX L X M0 N Q (zoI r.1) r.2) {n : Nat} {a0 : Nat} {a2 : Nat} {i3 : Int32} {i4 : Int32} {i5 : Int32} {M : zM} : f_X3_outs_44 n a0 a2 i3 i4 i5 M = some r → V L X yX3_outs cX3_outs 7 (some FieldType.int) 70 M0 N Q M 44 [(0, .ref (zad L (a0))), (2, .ref (zad L (a2))), (3, .int (i3)), (4, .int (i4)), (5, .int (i5))] [] := by
  induction n generalizing a0 a2 i3 i4 i5 M with
  | zero =>
    intro h
    rw [f_X3_outs_44] at h
    cases h
  | succ n ih0 =>
    intro h
    have ih : ∀ (a0 : Nat) (a2 : Nat) (i3 : Int32) (i4 : Int32) (i5 : Int32) (M : zM), f_X3_outs_44 n a0 a2 i3 i4 i5 M = some r → V L X yX3_outs cX3_outs 7 (some FieldType.int) 70 M0 N Q M 44 [(0, .ref (zad L (a0))), (2, .ref (zad L (a2))), (3, .int (i3)), (4, .int (i4)), (5, .int (i5))] [] := fun a0 a2 i3 i4 i5 M h => ih0 h
    rw [f_X3_outs_44] at h
    refine V_iload dX3_outs_44 4 rfl ?_
    refine V_bipush (v := 25) dX3_outs_46 (by decide) ?_
    refine V_icmp_ge (tgt := 98) dX3_outs_48 (by decide) (fun c13 => ?_) (fun c13 => ?_)
    · replace h := (oi h).1 c13
      refine V_iload dX3_outs_98 3 rfl ?_
      obtain rfl := Option.some.inj h
      exact V_iretX rfl hq dX3_outs_100
    · replace h := (oi h).2 c13
      refine V_iconst (v := 4) dX3_outs_51 (by decide) ?_
      refine V_aload_n dX3_outs_52 rfl 1 rfl ?_
      refine V_iload dX3_outs_53 4 rfl ?_
      replace h := ox h
      obtain ⟨c2, h⟩ := h
      replace h := ob h
      obtain ⟨r1, e_r1, h⟩ := h
      refine V_callV_I (As := [.int (i5)]) (rest := [.int ((4 : Int32))]) (c_X1_count e_r1) zc_X1_count rfl (by decide) rfl (by decide) (Or.inl c2) zm_X3_112 (Nat.le_of_ble_eq_true rfl) rfl dX3_outs_55 ?_
      refine V_pc (pc' := 58) rfl ?_
      refine V_isub dX3_outs_58 ?_
      refine V_aload_n dX3_outs_59 rfl 0 rfl ?_
      refine V_iload dX3_outs_60 4 rfl ?_
      replace h := ox h
      obtain ⟨c4, h⟩ := h
      replace h := xbs h
      rcases h with ⟨E_r3, M_r3, e_r3, rfl⟩ | ⟨w3, Mw3, e_r3, h⟩
      · exact V_callVt (As := [.int (i5)]) (rest := [.int ((((4 : Int32)) - r1.1))]) (c_X3_seen e_r3) hq (by decide +kernel) zc_X3_seen rfl (by decide) rfl (by decide) (Or.inl c4) zm_X3_270 (Nat.le_of_ble_eq_true rfl) rfl dX3_outs_62
      · refine V_callVx_I (As := [.int (i5)]) (rest := [.int ((((4 : Int32)) - r1.1))]) (c_X3_seen e_r3) zc_X3_seen rfl (by decide) rfl (by decide) (Or.inl c4) zm_X3_270 (Nat.le_of_ble_eq_true rfl) rfl dX3_outs_62 ?_
        refine V_pc (pc' := 65) rfl ?_
        refine V_isub dX3_outs_65 ?_
        refine V_istore (ls' := [(6, .int ((((((4 : Int32)) - r1.1)) - w3))), (0, .ref (zad L (a0))), (2, .ref (zad L (a2))), (3, .int (i3)), (4, .int (i4)), (5, .int (i5))]) dX3_outs_66 (by decide) rfl ?_
        refine V_iload dX3_outs_68 0 rfl ?_
        refine V_if_le (tgt := 92) dX3_outs_70 (by decide) (fun c12 => ?_) (fun c12 => ?_)
        · replace h := (oi h).1 c12
          refine V_iinc (v := i5 + (1 : Int32)) (ls' := [(5, .int ((i5 + (1 : Int32)))), (6, .int ((((((4 : Int32)) - r1.1)) - w3))), (0, .ref (zad L (a0))), (2, .ref (zad L (a2))), (3, .int (i3)), (4, .int (i4))]) dX3_outs_92 5 rfl (by rfl) (by decide) rfl ?_
          refine V_goto (tgt := 44) dX3_outs_95 (by decide) ?_
          refine V_sub [2, 3, 4, 5, 0] rfl ?_
          exact ih _ _ _ _ _ _ h
        · replace h := (oi h).2 c12
          refine V_aload_n dX3_outs_73 rfl 1 rfl ?_
          refine V_aload_n dX3_outs_74 rfl 2 rfl ?_
          refine V_iload dX3_outs_75 5 rfl ?_
          refine V_iconst (v := 1) dX3_outs_77 (by decide) ?_
          replace h := ox h
          obtain ⟨c10, h⟩ := h
          replace h := ob h
          obtain ⟨r9, e_r9, h⟩ := h
          refine V_callV_I (As := [.ref (zad L (a2)), .int (i5), .int ((1 : Int32))]) (rest := []) (c_X3_farWith e_r9) zc_X3_farWith rfl (by decide) rfl (by decide) (Or.inl c10) zm_X3_263 (Nat.le_of_ble_eq_true rfl) rfl dX3_outs_78 ?_
          refine V_pc (pc' := 81) rfl ?_
          refine V_iload_n dX3_outs_81 rfl 3 rfl ?_
          refine V_icmp_ge (tgt := 92) dX3_outs_82 (by decide) (fun c11 => ?_) (fun c11 => ?_)
          · replace h := (oi h).1 c11
            refine V_iinc (v := i5 + (1 : Int32)) (ls' := [(5, .int ((i5 + (1 : Int32)))), (6, .int ((((((4 : Int32)) - r1.1)) - w3))), (0, .ref (zad L (a0))), (2, .ref (zad L (a2))), (3, .int (i3)), (4, .int (i4))]) dX3_outs_92 5 rfl (by rfl) (by decide) rfl ?_
            refine V_goto (tgt := 44) dX3_outs_95 (by decide) ?_
            refine V_sub [2, 3, 4, 5, 0] rfl ?_
            exact ih _ _ _ _ _ _ h
          · replace h := (oi h).2 c11
            refine V_iload dX3_outs_85 4 rfl ?_
            refine V_iload dX3_outs_87 0 rfl ?_
            refine V_iadd dX3_outs_89 ?_
            refine V_istore (ls' := [(4, .int ((i4 + ((((((4 : Int32)) - r1.1)) - w3))))), (6, .int ((((((4 : Int32)) - r1.1)) - w3))), (0, .ref (zad L (a0))), (2, .ref (zad L (a2))), (3, .int (i3)), (5, .int (i5))]) dX3_outs_90 (by decide) rfl ?_
            refine V_iinc (v := i5 + (1 : Int32)) (ls' := [(5, .int ((i5 + (1 : Int32)))), (4, .int ((i4 + ((((((4 : Int32)) - r1.1)) - w3))))), (6, .int ((((((4 : Int32)) - r1.1)) - w3))), (0, .ref (zad L (a0))), (2, .ref (zad L (a2))), (3, .int (i3))]) dX3_outs_92 5 rfl (by rfl) (by decide) rfl ?_
            refine V_goto (tgt := 44) dX3_outs_95 (by decide) ?_
            refine V_sub [3, 4, 5, 1, 0] rfl ?_
            exact ih _ _ _ _ _ _ h
def f_X3_outs_0 (a0 : Nat) (i1 : Int32) (M : zM) : Option ((String ⊕ Int32) × zM) :=
  xb (f_X3_requirePlayer i1 M) fun w1 Mw1 =>
  (gR 9 0 Mw1 a0).bind fun v12 =>
  (lQ 1 Mw1 v12 i1).bind fun v13 =>
  if mK Mw1 v13 = 7 then
  (f_X1_size v13 Mw1).bind fun r14 =>
  if r14.1 ≤ ((10 : Int32)) then
  (gR 9 1 r14.2 a0).bind fun v16 =>
  (gR 7 0 r14.2 v13).bind fun v17 =>
  (gI 7 4 r14.2 v13).bind fun v18 =>
  if mK r14.2 v16 = 6 then
  (f_X0_far v16 v17 v18 r14.2).bind fun r19 =>
  f_X3_outs_44 zN a0 v13 r19.1 ((0 : Int32)) ((0 : Int32)) r19.2
  else none
  else
  some (Sum.inr ((0 : Int32)), r14.2)
  else none
set_option maxRecDepth 20000 in
set_option maxHeartbeats 4000000 in
theorem s_X3_outs_0 {L : zL} {X : zX} {M0 : zM} {N : Nat × Nat} {Q : State → Prop} {r : (String ⊕ Int32) × zM} (hq : vQX L X M0 N Q (zoI r.1) r.2) {a0 : Nat} {i1 : Int32} {M : zM} (h : f_X3_outs_0 a0 i1 M = some r) : V L X yX3_outs cX3_outs 7 (some FieldType.int) 70 M0 N Q M 0 [(0, .ref (zad L (a0))), (1, .int (i1))] [] := by
  unfold f_X3_outs_0 at h
  refine V_iload_n dX3_outs_0 rfl 1 rfl ?_
  replace h := xbs h
  rcases h with ⟨E_r1, M_r1, e_r1, rfl⟩ | ⟨w1, Mw1, e_r1, h⟩
  · exact V_callSt (As := [.int (i1)]) (rest := []) (c_X3_requirePlayer e_r1) hq (by decide +kernel) zc_X3_requirePlayer rfl (by decide) zm_X3_143 (Nat.le_of_ble_eq_true rfl) rfl dX3_outs_1
  · refine V_callSx_V (As := [.int (i1)]) (rest := []) (c_X3_requirePlayer e_r1) zc_X3_requirePlayer rfl (by decide) zm_X3_143 (Nat.le_of_ble_eq_true rfl) rfl dX3_outs_1 ?_
    refine V_pc (pc' := 4) rfl ?_
    refine V_aload_n dX3_outs_4 rfl 0 rfl ?_
    replace h := ob h
    obtain ⟨v12, e_v12, h⟩ := h
    refine V_getR zf_9_0 zl_X3_11 e_v12 dX3_outs_5 ?_
    refine V_pc (pc' := 8) rfl ?_
    refine V_iload_n dX3_outs_8 rfl 1 rfl ?_
    replace h := ob h
    obtain ⟨v13, e_v13, h⟩ := h
    refine V_aald (by decide) e_v13 dX3_outs_9 ?_
    refine V_pc (pc' := 10) rfl ?_
    refine V_astore_n (ls' := [(2, .ref (zad L (v13))), (0, .ref (zad L (a0))), (1, .int (i1))]) dX3_outs_10 rfl (by decide) rfl ?_
    refine V_aload_n dX3_outs_11 rfl 0 rfl ?_
    replace h := ox h
    obtain ⟨c15, h⟩ := h
    replace h := ob h
    obtain ⟨r14, e_r14, h⟩ := h
    refine V_callV_I (As := []) (rest := []) (c_X1_size e_r14) zc_X1_size rfl (by decide) rfl (by decide) (Or.inl c15) zm_X3_267 (Nat.le_of_ble_eq_true rfl) rfl dX3_outs_12 ?_
    refine V_pc (pc' := 15) rfl ?_
    refine V_bipush (v := 10) dX3_outs_15 (by decide) ?_
    refine V_icmp_le (tgt := 22) dX3_outs_17 (by decide) (fun c21 => ?_) (fun c21 => ?_)
    · replace h := (oi h).1 c21
      refine V_aload_n dX3_outs_22 rfl 1 rfl ?_
      replace h := ob h
      obtain ⟨v16, e_v16, h⟩ := h
      refine V_getR zf_9_1 zl_X3_18 e_v16 dX3_outs_23 ?_
      refine V_pc (pc' := 26) rfl ?_
      refine V_aload_n dX3_outs_26 rfl 0 rfl ?_
      replace h := ob h
      obtain ⟨v17, e_v17, h⟩ := h
      refine V_getR zf_7_0 zl_X3_201 e_v17 dX3_outs_27 ?_
      refine V_pc (pc' := 30) rfl ?_
      refine V_aload_n dX3_outs_30 rfl 0 rfl ?_
      replace h := ob h
      obtain ⟨v18, e_v18, h⟩ := h
      refine V_getI zf_7_4 zl_X3_167 e_v18 dX3_outs_31 ?_
      refine V_pc (pc' := 34) rfl ?_
      replace h := ox h
      obtain ⟨c20, h⟩ := h
      replace h := ob h
      obtain ⟨r19, e_r19, h⟩ := h
      refine V_callV_I (As := [.ref (zad L (v17)), .int (v18)]) (rest := []) (c_X0_far e_r19) zc_X0_far rfl (by decide) rfl (by decide) (Or.inl c20) zm_X3_205 (Nat.le_of_ble_eq_true rfl) rfl dX3_outs_34 ?_
      refine V_pc (pc' := 37) rfl ?_
      refine V_istore_n (ls' := [(3, .int (r19.1)), (2, .ref (zad L (v13))), (0, .ref (zad L (a0))), (1, .int (i1))]) dX3_outs_37 rfl (by decide) rfl ?_
      refine V_iconst (v := 0) dX3_outs_38 (by decide) ?_
      refine V_istore (ls' := [(4, .int ((0 : Int32))), (3, .int (r19.1)), (2, .ref (zad L (v13))), (0, .ref (zad L (a0))), (1, .int (i1))]) dX3_outs_39 (by decide) rfl ?_
      refine V_iconst (v := 0) dX3_outs_41 (by decide) ?_
      refine V_istore (ls' := [(5, .int ((0 : Int32))), (4, .int ((0 : Int32))), (3, .int (r19.1)), (2, .ref (zad L (v13))), (0, .ref (zad L (a0))), (1, .int (i1))]) dX3_outs_42 (by decide) rfl ?_
      refine V_sub [4, 3, 2, 1, 0] rfl ?_
      exact s_X3_outs_44 hq h
    · replace h := (oi h).2 c21
      refine V_iconst (v := 0) dX3_outs_20 (by decide) ?_
      obtain rfl := Option.some.inj h
      exact V_iretX rfl hq dX3_outs_21
def f_X3_outs (a0 : Nat) (i1 : Int32) (M : zM) : Option ((String ⊕ Int32) × zM) := f_X3_outs_0 a0 i1 M
theorem c_X3_outs {L : zL} {l : Launch} {a0 : Nat} {i1 : Int32} {M : zM} {r : (String ⊕ Int32) × zM} (h : f_X3_outs a0 i1 M = some r) : CX L l yX3_outs cX3_outs 7 (some FieldType.int) 70 M [.ref (zad L (a0)), .int (i1)] (zoI r.1) r.2 :=
  CX.of ⟨by decide +kernel, by decide +kernel⟩ (Nat.le_of_ble_eq_true rfl) fun X Q hq => s_X3_outs_0 hq h
/-! Windsparlour.digestPlayer(JI)J -/
theorem dX3_digestPlayer_0 : decode cX3_digestPlayer 0 = .ok (.aload_n 0, 1) := by decide +kernel
theorem dX3_digestPlayer_1 : decode cX3_digestPlayer 1 = .ok (.getfield 11, 3) := by decide +kernel
theorem dX3_digestPlayer_4 : decode cX3_digestPlayer 4 = .ok (.iload_n 3, 1) := by decide +kernel
theorem dX3_digestPlayer_5 : decode cX3_digestPlayer 5 = .ok (.aaload, 1) := by decide +kernel
theorem dX3_digestPlayer_6 : decode cX3_digestPlayer 6 = .ok (.astore 4, 2) := by decide +kernel
theorem dX3_digestPlayer_8 : decode cX3_digestPlayer 8 = .ok (.lload_n 1, 1) := by decide +kernel
theorem dX3_digestPlayer_9 : decode cX3_digestPlayer 9 = .ok (.lstore 5, 2) := by decide +kernel
theorem dX3_digestPlayer_11 : decode cX3_digestPlayer 11 = .ok (.iconst 0, 1) := by decide +kernel
theorem dX3_digestPlayer_12 : decode cX3_digestPlayer 12 = .ok (.istore 7, 2) := by decide +kernel
theorem dX3_digestPlayer_14 : decode cX3_digestPlayer 14 = .ok (.iload 7, 2) := by decide +kernel
theorem dX3_digestPlayer_16 : decode cX3_digestPlayer 16 = .ok (.bipush 9, 2) := by decide +kernel
theorem dX3_digestPlayer_18 : decode cX3_digestPlayer 18 = .ok (.if_icmp .gt 26, 3) := by decide +kernel
theorem dX3_digestPlayer_21 : decode cX3_digestPlayer 21 = .ok (.lload 5, 2) := by decide +kernel
theorem dX3_digestPlayer_23 : decode cX3_digestPlayer 23 = .ok (.ldc2_w 275, 3) := by decide +kernel
theorem dX3_digestPlayer_26 : decode cX3_digestPlayer 26 = .ok (.lmul, 1) := by decide +kernel
theorem dX3_digestPlayer_27 : decode cX3_digestPlayer 27 = .ok (.aload_n 0, 1) := by decide +kernel
theorem dX3_digestPlayer_28 : decode cX3_digestPlayer 28 = .ok (.iload_n 3, 1) := by decide +kernel
theorem dX3_digestPlayer_29 : decode cX3_digestPlayer 29 = .ok (.iload 7, 2) := by decide +kernel
theorem dX3_digestPlayer_31 : decode cX3_digestPlayer 31 = .ok (.invokevirtual 329, 3) := by decide +kernel
theorem dX3_digestPlayer_34 : decode cX3_digestPlayer 34 = .ok (.i2l, 1) := by decide +kernel
theorem dX3_digestPlayer_35 : decode cX3_digestPlayer 35 = .ok (.ladd, 1) := by decide +kernel
theorem dX3_digestPlayer_36 : decode cX3_digestPlayer 36 = .ok (.lstore 5, 2) := by decide +kernel
theorem dX3_digestPlayer_38 : decode cX3_digestPlayer 38 = .ok (.iinc 7 1, 3) := by decide +kernel
theorem dX3_digestPlayer_41 : decode cX3_digestPlayer 41 = .ok (.goto (-27), 3) := by decide +kernel
theorem dX3_digestPlayer_44 : decode cX3_digestPlayer 44 = .ok (.iconst 0, 1) := by decide +kernel
theorem dX3_digestPlayer_45 : decode cX3_digestPlayer 45 = .ok (.istore 7, 2) := by decide +kernel
theorem dX3_digestPlayer_47 : decode cX3_digestPlayer 47 = .ok (.iload 7, 2) := by decide +kernel
theorem dX3_digestPlayer_49 : decode cX3_digestPlayer 49 = .ok (.bipush 25, 2) := by decide +kernel
theorem dX3_digestPlayer_51 : decode cX3_digestPlayer 51 = .ok (.if_icmp .ge 26, 3) := by decide +kernel
theorem dX3_digestPlayer_54 : decode cX3_digestPlayer 54 = .ok (.lload 5, 2) := by decide +kernel
theorem dX3_digestPlayer_56 : decode cX3_digestPlayer 56 = .ok (.ldc2_w 275, 3) := by decide +kernel
theorem dX3_digestPlayer_59 : decode cX3_digestPlayer 59 = .ok (.lmul, 1) := by decide +kernel
theorem dX3_digestPlayer_60 : decode cX3_digestPlayer 60 = .ok (.aload 4, 2) := by decide +kernel
theorem dX3_digestPlayer_62 : decode cX3_digestPlayer 62 = .ok (.iload 7, 2) := by decide +kernel
theorem dX3_digestPlayer_64 : decode cX3_digestPlayer 64 = .ok (.invokevirtual 112, 3) := by decide +kernel
theorem dX3_digestPlayer_67 : decode cX3_digestPlayer 67 = .ok (.i2l, 1) := by decide +kernel
theorem dX3_digestPlayer_68 : decode cX3_digestPlayer 68 = .ok (.ladd, 1) := by decide +kernel
theorem dX3_digestPlayer_69 : decode cX3_digestPlayer 69 = .ok (.lstore 5, 2) := by decide +kernel
theorem dX3_digestPlayer_71 : decode cX3_digestPlayer 71 = .ok (.iinc 7 1, 3) := by decide +kernel
theorem dX3_digestPlayer_74 : decode cX3_digestPlayer 74 = .ok (.goto (-27), 3) := by decide +kernel
theorem dX3_digestPlayer_77 : decode cX3_digestPlayer 77 = .ok (.iconst 0, 1) := by decide +kernel
theorem dX3_digestPlayer_78 : decode cX3_digestPlayer 78 = .ok (.istore 7, 2) := by decide +kernel
theorem dX3_digestPlayer_80 : decode cX3_digestPlayer 80 = .ok (.iload 7, 2) := by decide +kernel
theorem dX3_digestPlayer_82 : decode cX3_digestPlayer 82 = .ok (.aload 4, 2) := by decide +kernel
theorem dX3_digestPlayer_84 : decode cX3_digestPlayer 84 = .ok (.getfield 167, 3) := by decide +kernel
theorem dX3_digestPlayer_87 : decode cX3_digestPlayer 87 = .ok (.if_icmp .ge 33, 3) := by decide +kernel
theorem dX3_digestPlayer_90 : decode cX3_digestPlayer 90 = .ok (.iload 7, 2) := by decide +kernel
theorem dX3_digestPlayer_92 : decode cX3_digestPlayer 92 = .ok (.iconst 3, 1) := by decide +kernel
theorem dX3_digestPlayer_93 : decode cX3_digestPlayer 93 = .ok (.if_icmp .ge 27, 3) := by decide +kernel
theorem dX3_digestPlayer_96 : decode cX3_digestPlayer 96 = .ok (.lload 5, 2) := by decide +kernel
theorem dX3_digestPlayer_98 : decode cX3_digestPlayer 98 = .ok (.ldc2_w 275, 3) := by decide +kernel
theorem dX3_digestPlayer_101 : decode cX3_digestPlayer 101 = .ok (.lmul, 1) := by decide +kernel
theorem dX3_digestPlayer_102 : decode cX3_digestPlayer 102 = .ok (.aload 4, 2) := by decide +kernel
theorem dX3_digestPlayer_104 : decode cX3_digestPlayer 104 = .ok (.getfield 224, 3) := by decide +kernel
theorem dX3_digestPlayer_107 : decode cX3_digestPlayer 107 = .ok (.iload 7, 2) := by decide +kernel
theorem dX3_digestPlayer_109 : decode cX3_digestPlayer 109 = .ok (.iaload, 1) := by decide +kernel
theorem dX3_digestPlayer_110 : decode cX3_digestPlayer 110 = .ok (.i2l, 1) := by decide +kernel
theorem dX3_digestPlayer_111 : decode cX3_digestPlayer 111 = .ok (.ladd, 1) := by decide +kernel
theorem dX3_digestPlayer_112 : decode cX3_digestPlayer 112 = .ok (.lstore 5, 2) := by decide +kernel
theorem dX3_digestPlayer_114 : decode cX3_digestPlayer 114 = .ok (.iinc 7 1, 3) := by decide +kernel
theorem dX3_digestPlayer_117 : decode cX3_digestPlayer 117 = .ok (.goto (-37), 3) := by decide +kernel
theorem dX3_digestPlayer_120 : decode cX3_digestPlayer 120 = .ok (.iconst 0, 1) := by decide +kernel
theorem dX3_digestPlayer_121 : decode cX3_digestPlayer 121 = .ok (.istore 7, 2) := by decide +kernel
theorem dX3_digestPlayer_123 : decode cX3_digestPlayer 123 = .ok (.iload 7, 2) := by decide +kernel
theorem dX3_digestPlayer_125 : decode cX3_digestPlayer 125 = .ok (.aload 4, 2) := by decide +kernel
theorem dX3_digestPlayer_127 : decode cX3_digestPlayer 127 = .ok (.getfield 127, 3) := by decide +kernel
theorem dX3_digestPlayer_130 : decode cX3_digestPlayer 130 = .ok (.if_icmp .ge 34, 3) := by decide +kernel
theorem dX3_digestPlayer_133 : decode cX3_digestPlayer 133 = .ok (.iload 7, 2) := by decide +kernel
theorem dX3_digestPlayer_135 : decode cX3_digestPlayer 135 = .ok (.bipush 64, 2) := by decide +kernel
theorem dX3_digestPlayer_137 : decode cX3_digestPlayer 137 = .ok (.if_icmp .ge 27, 3) := by decide +kernel
theorem dX3_digestPlayer_140 : decode cX3_digestPlayer 140 = .ok (.lload 5, 2) := by decide +kernel
theorem dX3_digestPlayer_142 : decode cX3_digestPlayer 142 = .ok (.ldc2_w 275, 3) := by decide +kernel
theorem dX3_digestPlayer_145 : decode cX3_digestPlayer 145 = .ok (.lmul, 1) := by decide +kernel
theorem dX3_digestPlayer_146 : decode cX3_digestPlayer 146 = .ok (.aload 4, 2) := by decide +kernel
theorem dX3_digestPlayer_148 : decode cX3_digestPlayer 148 = .ok (.getfield 229, 3) := by decide +kernel
theorem dX3_digestPlayer_151 : decode cX3_digestPlayer 151 = .ok (.iload 7, 2) := by decide +kernel
theorem dX3_digestPlayer_153 : decode cX3_digestPlayer 153 = .ok (.iaload, 1) := by decide +kernel
theorem dX3_digestPlayer_154 : decode cX3_digestPlayer 154 = .ok (.i2l, 1) := by decide +kernel
theorem dX3_digestPlayer_155 : decode cX3_digestPlayer 155 = .ok (.ladd, 1) := by decide +kernel
theorem dX3_digestPlayer_156 : decode cX3_digestPlayer 156 = .ok (.lstore 5, 2) := by decide +kernel
theorem dX3_digestPlayer_158 : decode cX3_digestPlayer 158 = .ok (.iinc 7 1, 3) := by decide +kernel
theorem dX3_digestPlayer_161 : decode cX3_digestPlayer 161 = .ok (.goto (-38), 3) := by decide +kernel
theorem dX3_digestPlayer_164 : decode cX3_digestPlayer 164 = .ok (.lload 5, 2) := by decide +kernel
theorem dX3_digestPlayer_166 : decode cX3_digestPlayer 166 = .ok (.ldc2_w 275, 3) := by decide +kernel
theorem dX3_digestPlayer_169 : decode cX3_digestPlayer 169 = .ok (.lmul, 1) := by decide +kernel
theorem dX3_digestPlayer_170 : decode cX3_digestPlayer 170 = .ok (.aload_n 0, 1) := by decide +kernel
theorem dX3_digestPlayer_171 : decode cX3_digestPlayer 171 = .ok (.aload 4, 2) := by decide +kernel
theorem dX3_digestPlayer_173 : decode cX3_digestPlayer 173 = .ok (.invokevirtual 209, 3) := by decide +kernel
theorem dX3_digestPlayer_176 : decode cX3_digestPlayer 176 = .ok (.ladd, 1) := by decide +kernel
theorem dX3_digestPlayer_177 : decode cX3_digestPlayer 177 = .ok (.lstore 5, 2) := by decide +kernel
theorem dX3_digestPlayer_179 : decode cX3_digestPlayer 179 = .ok (.lload 5, 2) := by decide +kernel
theorem dX3_digestPlayer_181 : decode cX3_digestPlayer 181 = .ok (.ldc2_w 275, 3) := by decide +kernel
theorem dX3_digestPlayer_184 : decode cX3_digestPlayer 184 = .ok (.lmul, 1) := by decide +kernel
theorem dX3_digestPlayer_185 : decode cX3_digestPlayer 185 = .ok (.aload_n 0, 1) := by decide +kernel
theorem dX3_digestPlayer_186 : decode cX3_digestPlayer 186 = .ok (.iload_n 3, 1) := by decide +kernel
theorem dX3_digestPlayer_187 : decode cX3_digestPlayer 187 = .ok (.invokevirtual 258, 3) := by decide +kernel
theorem dX3_digestPlayer_190 : decode cX3_digestPlayer 190 = .ok (.i2l, 1) := by decide +kernel
theorem dX3_digestPlayer_191 : decode cX3_digestPlayer 191 = .ok (.ladd, 1) := by decide +kernel
theorem dX3_digestPlayer_192 : decode cX3_digestPlayer 192 = .ok (.lreturn, 1) := by decide +kernel
def f_X3_digestPlayer_164 (a0 : Nat) (i3 : Int32) (a4 : Nat) (j5 : Int64) (M : zM) : Option ((String ⊕ Int64) × zM) :=
  if mK M a0 = 9 then
  (f_X3_waitsOf a0 a4 M).bind fun r1 =>
  if mK r1.2 a0 = 9 then
  (f_X3_fourLeads a0 i3 r1.2).bind fun r3 =>
  some (Sum.inr ((((((((j5 * ((31 : Int64)))) + r1.1)) * ((31 : Int64)))) + ((r3.1.toInt64)))), r3.2)
  else none
  else none
set_option maxRecDepth 20000 in
set_option maxHeartbeats 4000000 in
theorem s_X3_digestPlayer_164 {L : zL} {X : zX} {M0 : zM} {N : Nat × Nat} {Q : State → Prop} {r : (String ⊕ Int64) × zM} (hq : vQX L X M0 N Q (zoJ r.1) r.2) {a0 : Nat} {i3 : Int32} {a4 : Nat} {j5 : Int64} {M : zM} (h : f_X3_digestPlayer_164 a0 i3 a4 j5 M = some r) : V L X yX3_digestPlayer cX3_digestPlayer 8 (some FieldType.long) 70 M0 N Q M 164 [(0, .ref (zad L (a0))), (3, .int (i3)), (4, .ref (zad L (a4))), (5, .long (j5))] [] := by
  unfold f_X3_digestPlayer_164 at h
  refine V_lload dX3_digestPlayer_164 3 rfl ?_
  refine V_ldc2 zcn_X3_275 dX3_digestPlayer_166 ?_
  refine V_lmul dX3_digestPlayer_169 ?_
  refine V_aload_n dX3_digestPlayer_170 rfl 0 rfl ?_
  refine V_aload dX3_digestPlayer_171 2 rfl ?_
  replace h := ox h
  obtain ⟨c2, h⟩ := h
  replace h := ob h
  obtain ⟨r1, e_r1, h⟩ := h
  refine V_callV_J (As := [.ref (zad L (a4))]) (rest := [.long ((j5 * ((31 : Int64))))]) (c_X3_waitsOf e_r1) zc_X3_waitsOf rfl (by decide) rfl (by decide) (Or.inl c2) zm_X3_209 (Nat.le_of_ble_eq_true rfl) rfl dX3_digestPlayer_173 ?_
  refine V_pc (pc' := 176) rfl ?_
  refine V_ladd dX3_digestPlayer_176 ?_
  refine V_lstore (ls' := [(5, .long ((((j5 * ((31 : Int64)))) + r1.1))), (0, .ref (zad L (a0))), (3, .int (i3)), (4, .ref (zad L (a4)))]) dX3_digestPlayer_177 (by decide) rfl ?_
  refine V_lload dX3_digestPlayer_179 0 rfl ?_
  refine V_ldc2 zcn_X3_275 dX3_digestPlayer_181 ?_
  refine V_lmul dX3_digestPlayer_184 ?_
  refine V_aload_n dX3_digestPlayer_185 rfl 1 rfl ?_
  refine V_iload_n dX3_digestPlayer_186 rfl 2 rfl ?_
  replace h := ox h
  obtain ⟨c4, h⟩ := h
  replace h := ob h
  obtain ⟨r3, e_r3, h⟩ := h
  refine V_callV_I (As := [.int (i3)]) (rest := [.long ((((((j5 * ((31 : Int64)))) + r1.1)) * ((31 : Int64))))]) (c_X3_fourLeads e_r3) zc_X3_fourLeads rfl (by decide) rfl (by decide) (Or.inl c4) zm_X3_258 (Nat.le_of_ble_eq_true rfl) rfl dX3_digestPlayer_187 ?_
  refine V_pc (pc' := 190) rfl ?_
  refine V_i2l dX3_digestPlayer_190 ?_
  refine V_ladd dX3_digestPlayer_191 ?_
  obtain rfl := Option.some.inj h
  exact V_lretX rfl hq dX3_digestPlayer_192
def f_X3_digestPlayer_123 (n : Nat) (a0 : Nat) (i3 : Int32) (a4 : Nat) (j5 : Int64) (i7 : Int32) (M : zM) : Option ((String ⊕ Int64) × zM) := match n with
  | 0 => none
  | n + 1 =>
    (gI 7 5 M a4).bind fun v1 =>
    if v1 ≤ i7 then
    f_X3_digestPlayer_164 a0 i3 a4 j5 M
    else
    if ((64 : Int32)) ≤ i7 then
    f_X3_digestPlayer_164 a0 i3 a4 j5 M
    else
    (gR 7 2 M a4).bind fun v2 =>
    (lA 0 M v2 i7).bind fun v3 =>
    f_X3_digestPlayer_123 n a0 i3 a4 ((((j5 * ((31 : Int64)))) + ((v3.toInt64)))) ((i7 + (1 : Int32))) M
set_option maxRecDepth 20000 in
set_option maxHeartbeats 4000000 in
theorem s_X3_digestPlayer_123 {L : zL} {X : zX} {M0 : zM} {N : Nat × Nat} {Q : State → Prop} {r : (String ⊕ Int64) × zM} (hq : vQX L X M0 N Q (zoJ r.1) r.2) {n : Nat} {a0 : Nat} {i3 : Int32} {a4 : Nat} {j5 : Int64} {i7 : Int32} {M : zM} : f_X3_digestPlayer_123 n a0 i3 a4 j5 i7 M = some r → V L X yX3_digestPlayer cX3_digestPlayer 8 (some FieldType.long) 70 M0 N Q M 123 [(0, .ref (zad L (a0))), (3, .int (i3)), (4, .ref (zad L (a4))), (5, .long (j5)), (7, .int (i7))] [] := by
  induction n generalizing a0 i3 a4 j5 i7 M with
  | zero =>
    intro h
    rw [f_X3_digestPlayer_123] at h
    cases h
  | succ n ih0 =>
    intro h
    have ih : ∀ (a0 : Nat) (i3 : Int32) (a4 : Nat) (j5 : Int64) (i7 : Int32) (M : zM), f_X3_digestPlayer_123 n a0 i3 a4 j5 i7 M = some r → V L X yX3_digestPlayer cX3_digestPlayer 8 (some FieldType.long) 70 M0 N Q M 123 [(0, .ref (zad L (a0))), (3, .int (i3)), (4, .ref (zad L (a4))), (5, .long (j5)), (7, .int (i7))] [] := fun a0 i3 a4 j5 i7 M h => ih0 h
    rw [f_X3_digestPlayer_123] at h
    refine V_iload dX3_digestPlayer_123 4 rfl ?_
    refine V_aload dX3_digestPlayer_125 2 rfl ?_
    replace h := ob h
    obtain ⟨v1, e_v1, h⟩ := h
    refine V_getI zf_7_5 zl_X3_127 e_v1 dX3_digestPlayer_127 ?_
    refine V_pc (pc' := 130) rfl ?_
    refine V_icmp_ge (tgt := 164) dX3_digestPlayer_130 (by decide) (fun c5 => ?_) (fun c5 => ?_)
    · replace h := (oi h).1 c5
      refine V_sub [0, 1, 2, 3] rfl ?_
      exact s_X3_digestPlayer_164 hq h
    · replace h := (oi h).2 c5
      refine V_iload dX3_digestPlayer_133 4 rfl ?_
      refine V_bipush (v := 64) dX3_digestPlayer_135 (by decide) ?_
      refine V_icmp_ge (tgt := 164) dX3_digestPlayer_137 (by decide) (fun c4 => ?_) (fun c4 => ?_)
      · replace h := (oi h).1 c4
        refine V_sub [0, 1, 2, 3] rfl ?_
        exact s_X3_digestPlayer_164 hq h
      · replace h := (oi h).2 c4
        refine V_lload dX3_digestPlayer_140 3 rfl ?_
        refine V_ldc2 zcn_X3_275 dX3_digestPlayer_142 ?_
        refine V_lmul dX3_digestPlayer_145 ?_
        refine V_aload dX3_digestPlayer_146 2 rfl ?_
        replace h := ob h
        obtain ⟨v2, e_v2, h⟩ := h
        refine V_getR zf_7_2 zl_X3_229 e_v2 dX3_digestPlayer_148 ?_
        refine V_pc (pc' := 151) rfl ?_
        refine V_iload dX3_digestPlayer_151 4 rfl ?_
        replace h := ob h
        obtain ⟨v3, e_v3, h⟩ := h
        refine V_iald e_v3 dX3_digestPlayer_153 ?_
        refine V_pc (pc' := 154) rfl ?_
        refine V_i2l dX3_digestPlayer_154 ?_
        refine V_ladd dX3_digestPlayer_155 ?_
        refine V_lstore (ls' := [(5, .long ((((j5 * ((31 : Int64)))) + ((v3.toInt64))))), (0, .ref (zad L (a0))), (3, .int (i3)), (4, .ref (zad L (a4))), (7, .int (i7))]) dX3_digestPlayer_156 (by decide) rfl ?_
        refine V_iinc (v := i7 + (1 : Int32)) (ls' := [(7, .int ((i7 + (1 : Int32)))), (5, .long ((((j5 * ((31 : Int64)))) + ((v3.toInt64))))), (0, .ref (zad L (a0))), (3, .int (i3)), (4, .ref (zad L (a4)))]) dX3_digestPlayer_158 4 rfl (by rfl) (by decide) rfl ?_
        refine V_goto (tgt := 123) dX3_digestPlayer_161 (by decide) ?_
        refine V_sub [2, 3, 4, 1, 0] rfl ?_
        exact ih _ _ _ _ _ _ h
def f_X3_digestPlayer_80 (n : Nat) (a0 : Nat) (i3 : Int32) (a4 : Nat) (j5 : Int64) (i7 : Int32) (M : zM) : Option ((String ⊕ Int64) × zM) := match n with
  | 0 => none
  | n + 1 =>
    (gI 7 4 M a4).bind fun v1 =>
    if v1 ≤ i7 then
    f_X3_digestPlayer_123 zN a0 i3 a4 j5 ((0 : Int32)) M
    else
    if ((3 : Int32)) ≤ i7 then
    f_X3_digestPlayer_123 zN a0 i3 a4 j5 ((0 : Int32)) M
    else
    (gR 7 1 M a4).bind fun v2 =>
    (lA 0 M v2 i7).bind fun v3 =>
    f_X3_digestPlayer_80 n a0 i3 a4 ((((j5 * ((31 : Int64)))) + ((v3.toInt64)))) ((i7 + (1 : Int32))) M
set_option maxRecDepth 20000 in
set_option maxHeartbeats 4000000 in
theorem s_X3_digestPlayer_80 {L : zL} {X : zX} {M0 : zM} {N : Nat × Nat} {Q : State → Prop} {r : (String ⊕ Int64) × zM} (hq : vQX L X M0 N Q (zoJ r.1) r.2) {n : Nat} {a0 : Nat} {i3 : Int32} {a4 : Nat} {j5 : Int64} {i7 : Int32} {M : zM} : f_X3_digestPlayer_80 n a0 i3 a4 j5 i7 M = some r → V L X yX3_digestPlayer cX3_digestPlayer 8 (some FieldType.long) 70 M0 N Q M 80 [(0, .ref (zad L (a0))), (3, .int (i3)), (4, .ref (zad L (a4))), (5, .long (j5)), (7, .int (i7))] [] := by
  induction n generalizing a0 i3 a4 j5 i7 M with
  | zero =>
    intro h
    rw [f_X3_digestPlayer_80] at h
    cases h
  | succ n ih0 =>
    intro h
    have ih : ∀ (a0 : Nat) (i3 : Int32) (a4 : Nat) (j5 : Int64) (i7 : Int32) (M : zM), f_X3_digestPlayer_80 n a0 i3 a4 j5 i7 M = some r → V L X yX3_digestPlayer cX3_digestPlayer 8 (some FieldType.long) 70 M0 N Q M 80 [(0, .ref (zad L (a0))), (3, .int (i3)), (4, .ref (zad L (a4))), (5, .long (j5)), (7, .int (i7))] [] := fun a0 i3 a4 j5 i7 M h => ih0 h
    rw [f_X3_digestPlayer_80] at h
    refine V_iload dX3_digestPlayer_80 4 rfl ?_
    refine V_aload dX3_digestPlayer_82 2 rfl ?_
    replace h := ob h
    obtain ⟨v1, e_v1, h⟩ := h
    refine V_getI zf_7_4 zl_X3_167 e_v1 dX3_digestPlayer_84 ?_
    refine V_pc (pc' := 87) rfl ?_
    refine V_icmp_ge (tgt := 120) dX3_digestPlayer_87 (by decide) (fun c5 => ?_) (fun c5 => ?_)
    · replace h := (oi h).1 c5
      refine V_iconst (v := 0) dX3_digestPlayer_120 (by decide) ?_
      refine V_istore (ls' := [(7, .int ((0 : Int32))), (0, .ref (zad L (a0))), (3, .int (i3)), (4, .ref (zad L (a4))), (5, .long (j5))]) dX3_digestPlayer_121 (by decide) rfl ?_
      refine V_sub [1, 2, 3, 4, 0] rfl ?_
      exact s_X3_digestPlayer_123 hq h
    · replace h := (oi h).2 c5
      refine V_iload dX3_digestPlayer_90 4 rfl ?_
      refine V_iconst (v := 3) dX3_digestPlayer_92 (by decide) ?_
      refine V_icmp_ge (tgt := 120) dX3_digestPlayer_93 (by decide) (fun c4 => ?_) (fun c4 => ?_)
      · replace h := (oi h).1 c4
        refine V_iconst (v := 0) dX3_digestPlayer_120 (by decide) ?_
        refine V_istore (ls' := [(7, .int ((0 : Int32))), (0, .ref (zad L (a0))), (3, .int (i3)), (4, .ref (zad L (a4))), (5, .long (j5))]) dX3_digestPlayer_121 (by decide) rfl ?_
        refine V_sub [1, 2, 3, 4, 0] rfl ?_
        exact s_X3_digestPlayer_123 hq h
      · replace h := (oi h).2 c4
        refine V_lload dX3_digestPlayer_96 3 rfl ?_
        refine V_ldc2 zcn_X3_275 dX3_digestPlayer_98 ?_
        refine V_lmul dX3_digestPlayer_101 ?_
        refine V_aload dX3_digestPlayer_102 2 rfl ?_
        replace h := ob h
        obtain ⟨v2, e_v2, h⟩ := h
        refine V_getR zf_7_1 zl_X3_224 e_v2 dX3_digestPlayer_104 ?_
        refine V_pc (pc' := 107) rfl ?_
        refine V_iload dX3_digestPlayer_107 4 rfl ?_
        replace h := ob h
        obtain ⟨v3, e_v3, h⟩ := h
        refine V_iald e_v3 dX3_digestPlayer_109 ?_
        refine V_pc (pc' := 110) rfl ?_
        refine V_i2l dX3_digestPlayer_110 ?_
        refine V_ladd dX3_digestPlayer_111 ?_
        refine V_lstore (ls' := [(5, .long ((((j5 * ((31 : Int64)))) + ((v3.toInt64))))), (0, .ref (zad L (a0))), (3, .int (i3)), (4, .ref (zad L (a4))), (7, .int (i7))]) dX3_digestPlayer_112 (by decide) rfl ?_
        refine V_iinc (v := i7 + (1 : Int32)) (ls' := [(7, .int ((i7 + (1 : Int32)))), (5, .long ((((j5 * ((31 : Int64)))) + ((v3.toInt64))))), (0, .ref (zad L (a0))), (3, .int (i3)), (4, .ref (zad L (a4)))]) dX3_digestPlayer_114 4 rfl (by rfl) (by decide) rfl ?_
        refine V_goto (tgt := 80) dX3_digestPlayer_117 (by decide) ?_
        refine V_sub [2, 3, 4, 1, 0] rfl ?_
        exact ih _ _ _ _ _ _ h
def f_X3_digestPlayer_47 (n : Nat) (a0 : Nat) (i3 : Int32) (a4 : Nat) (j5 : Int64) (i7 : Int32) (M : zM) : Option ((String ⊕ Int64) × zM) := match n with
  | 0 => none
  | n + 1 =>
    if ((25 : Int32)) ≤ i7 then
    f_X3_digestPlayer_80 zN a0 i3 a4 j5 ((0 : Int32)) M
    else
    if mK M a4 = 7 then
    (f_X1_count a4 i7 M).bind fun r1 =>
    f_X3_digestPlayer_47 n a0 i3 a4 ((((j5 * ((31 : Int64)))) + ((r1.1.toInt64)))) ((i7 + (1 : Int32))) r1.2
    else none
set_option maxRecDepth 20000 in
set_option maxHeartbeats 4000000 in
theorem s_X3_digestPlayer_47 {L : zL} {X : zX} {M0 : zM} {N : Nat × Nat} {Q : State → Prop} {r : (String ⊕ Int64) × zM} (hq : vQX L X M0 N Q (zoJ r.1) r.2) {n : Nat} {a0 : Nat} {i3 : Int32} {a4 : Nat} {j5 : Int64} {i7 : Int32} {M : zM} : f_X3_digestPlayer_47 n a0 i3 a4 j5 i7 M = some r → V L X yX3_digestPlayer cX3_digestPlayer 8 (some FieldType.long) 70 M0 N Q M 47 [(0, .ref (zad L (a0))), (3, .int (i3)), (4, .ref (zad L (a4))), (5, .long (j5)), (7, .int (i7))] [] := by
  induction n generalizing a0 i3 a4 j5 i7 M with
  | zero =>
    intro h
    rw [f_X3_digestPlayer_47] at h
    cases h
  | succ n ih0 =>
    intro h
    have ih : ∀ (a0 : Nat) (i3 : Int32) (a4 : Nat) (j5 : Int64) (i7 : Int32) (M : zM), f_X3_digestPlayer_47 n a0 i3 a4 j5 i7 M = some r → V L X yX3_digestPlayer cX3_digestPlayer 8 (some FieldType.long) 70 M0 N Q M 47 [(0, .ref (zad L (a0))), (3, .int (i3)), (4, .ref (zad L (a4))), (5, .long (j5)), (7, .int (i7))] [] := fun a0 i3 a4 j5 i7 M h => ih0 h
    rw [f_X3_digestPlayer_47] at h
    refine V_iload dX3_digestPlayer_47 4 rfl ?_
    refine V_bipush (v := 25) dX3_digestPlayer_49 (by decide) ?_
    refine V_icmp_ge (tgt := 77) dX3_digestPlayer_51 (by decide) (fun c3 => ?_) (fun c3 => ?_)
    · replace h := (oi h).1 c3
      refine V_iconst (v := 0) dX3_digestPlayer_77 (by decide) ?_
      refine V_istore (ls' := [(7, .int ((0 : Int32))), (0, .ref (zad L (a0))), (3, .int (i3)), (4, .ref (zad L (a4))), (5, .long (j5))]) dX3_digestPlayer_78 (by decide) rfl ?_
      refine V_sub [1, 2, 3, 4, 0] rfl ?_
      exact s_X3_digestPlayer_80 hq h
    · replace h := (oi h).2 c3
      refine V_lload dX3_digestPlayer_54 3 rfl ?_
      refine V_ldc2 zcn_X3_275 dX3_digestPlayer_56 ?_
      refine V_lmul dX3_digestPlayer_59 ?_
      refine V_aload dX3_digestPlayer_60 2 rfl ?_
      refine V_iload dX3_digestPlayer_62 4 rfl ?_
      replace h := ox h
      obtain ⟨c2, h⟩ := h
      replace h := ob h
      obtain ⟨r1, e_r1, h⟩ := h
      refine V_callV_I (As := [.int (i7)]) (rest := [.long ((j5 * ((31 : Int64))))]) (c_X1_count e_r1) zc_X1_count rfl (by decide) rfl (by decide) (Or.inl c2) zm_X3_112 (Nat.le_of_ble_eq_true rfl) rfl dX3_digestPlayer_64 ?_
      refine V_pc (pc' := 67) rfl ?_
      refine V_i2l dX3_digestPlayer_67 ?_
      refine V_ladd dX3_digestPlayer_68 ?_
      refine V_lstore (ls' := [(5, .long ((((j5 * ((31 : Int64)))) + ((r1.1.toInt64))))), (0, .ref (zad L (a0))), (3, .int (i3)), (4, .ref (zad L (a4))), (7, .int (i7))]) dX3_digestPlayer_69 (by decide) rfl ?_
      refine V_iinc (v := i7 + (1 : Int32)) (ls' := [(7, .int ((i7 + (1 : Int32)))), (5, .long ((((j5 * ((31 : Int64)))) + ((r1.1.toInt64))))), (0, .ref (zad L (a0))), (3, .int (i3)), (4, .ref (zad L (a4)))]) dX3_digestPlayer_71 4 rfl (by rfl) (by decide) rfl ?_
      refine V_goto (tgt := 47) dX3_digestPlayer_74 (by decide) ?_
      refine V_sub [2, 3, 4, 1, 0] rfl ?_
      exact ih _ _ _ _ _ _ h
def f_X3_digestPlayer_14 (n : Nat) (a0 : Nat) (i3 : Int32) (a4 : Nat) (j5 : Int64) (i7 : Int32) (M : zM) : Option ((String ⊕ Int64) × zM) := match n with
  | 0 => none
  | n + 1 =>
    if ((9 : Int32)) < i7 then
    f_X3_digestPlayer_47 zN a0 i3 a4 j5 ((0 : Int32)) M
    else
    if mK M a0 = 9 then
    xb (f_X3_ofPlayer a0 i3 i7 M) fun w1 Mw1 =>
    f_X3_digestPlayer_14 n a0 i3 a4 ((((j5 * ((31 : Int64)))) + ((w1.toInt64)))) ((i7 + (1 : Int32))) Mw1
    else none
set_option maxRecDepth 20000 in
set_option maxHeartbeats 4000000 in
theorem s_X3_digestPlayer_14 {L : zL} {X : zX} {M0 : zM} {N : Nat × Nat} {Q : State → Prop} {r : (String ⊕ Int64) × zM} (hq : vQX L X M0 N Q (zoJ r.1) r.2) {n : Nat} {a0 : Nat} {i3 : Int32} {a4 : Nat} {j5 : Int64} {i7 : Int32} {M : zM} : f_X3_digestPlayer_14 n a0 i3 a4 j5 i7 M = some r → V L X yX3_digestPlayer cX3_digestPlayer 8 (some FieldType.long) 70 M0 N Q M 14 [(0, .ref (zad L (a0))), (3, .int (i3)), (4, .ref (zad L (a4))), (5, .long (j5)), (7, .int (i7))] [] := by
  induction n generalizing a0 i3 a4 j5 i7 M with
  | zero =>
    intro h
    rw [f_X3_digestPlayer_14] at h
    cases h
  | succ n ih0 =>
    intro h
    have ih : ∀ (a0 : Nat) (i3 : Int32) (a4 : Nat) (j5 : Int64) (i7 : Int32) (M : zM), f_X3_digestPlayer_14 n a0 i3 a4 j5 i7 M = some r → V L X yX3_digestPlayer cX3_digestPlayer 8 (some FieldType.long) 70 M0 N Q M 14 [(0, .ref (zad L (a0))), (3, .int (i3)), (4, .ref (zad L (a4))), (5, .long (j5)), (7, .int (i7))] [] := fun a0 i3 a4 j5 i7 M h => ih0 h
    rw [f_X3_digestPlayer_14] at h
    refine V_iload dX3_digestPlayer_14 4 rfl ?_
    refine V_bipush (v := 9) dX3_digestPlayer_16 (by decide) ?_
    refine V_icmp_gt (tgt := 44) dX3_digestPlayer_18 (by decide) (fun c3 => ?_) (fun c3 => ?_)
    · replace h := (oi h).1 c3
      refine V_iconst (v := 0) dX3_digestPlayer_44 (by decide) ?_
      refine V_istore (ls' := [(7, .int ((0 : Int32))), (0, .ref (zad L (a0))), (3, .int (i3)), (4, .ref (zad L (a4))), (5, .long (j5))]) dX3_digestPlayer_45 (by decide) rfl ?_
      refine V_sub [1, 2, 3, 4, 0] rfl ?_
      exact s_X3_digestPlayer_47 hq h
    · replace h := (oi h).2 c3
      refine V_lload dX3_digestPlayer_21 3 rfl ?_
      refine V_ldc2 zcn_X3_275 dX3_digestPlayer_23 ?_
      refine V_lmul dX3_digestPlayer_26 ?_
      refine V_aload_n dX3_digestPlayer_27 rfl 0 rfl ?_
      refine V_iload_n dX3_digestPlayer_28 rfl 1 rfl ?_
      refine V_iload dX3_digestPlayer_29 4 rfl ?_
      replace h := ox h
      obtain ⟨c2, h⟩ := h
      replace h := xbs h
      rcases h with ⟨E_r1, M_r1, e_r1, rfl⟩ | ⟨w1, Mw1, e_r1, h⟩
      · exact V_callVt (As := [.int (i3), .int (i7)]) (rest := [.long ((j5 * ((31 : Int64))))]) (c_X3_ofPlayer e_r1) hq (by decide +kernel) zc_X3_ofPlayer rfl (by decide) rfl (by decide) (Or.inl c2) zm_X3_329 (Nat.le_of_ble_eq_true rfl) rfl dX3_digestPlayer_31
      · refine V_callVx_I (As := [.int (i3), .int (i7)]) (rest := [.long ((j5 * ((31 : Int64))))]) (c_X3_ofPlayer e_r1) zc_X3_ofPlayer rfl (by decide) rfl (by decide) (Or.inl c2) zm_X3_329 (Nat.le_of_ble_eq_true rfl) rfl dX3_digestPlayer_31 ?_
        refine V_pc (pc' := 34) rfl ?_
        refine V_i2l dX3_digestPlayer_34 ?_
        refine V_ladd dX3_digestPlayer_35 ?_
        refine V_lstore (ls' := [(5, .long ((((j5 * ((31 : Int64)))) + ((w1.toInt64))))), (0, .ref (zad L (a0))), (3, .int (i3)), (4, .ref (zad L (a4))), (7, .int (i7))]) dX3_digestPlayer_36 (by decide) rfl ?_
        refine V_iinc (v := i7 + (1 : Int32)) (ls' := [(7, .int ((i7 + (1 : Int32)))), (5, .long ((((j5 * ((31 : Int64)))) + ((w1.toInt64))))), (0, .ref (zad L (a0))), (3, .int (i3)), (4, .ref (zad L (a4)))]) dX3_digestPlayer_38 4 rfl (by rfl) (by decide) rfl ?_
        refine V_goto (tgt := 14) dX3_digestPlayer_41 (by decide) ?_
        refine V_sub [2, 3, 4, 1, 0] rfl ?_
        exact ih _ _ _ _ _ _ h
def f_X3_digestPlayer_0 (a0 : Nat) (j1 : Int64) (i3 : Int32) (M : zM) : Option ((String ⊕ Int64) × zM) :=
  (gR 9 0 M a0).bind fun v1 =>
  (lQ 1 M v1 i3).bind fun v2 =>
  f_X3_digestPlayer_14 zN a0 i3 v2 j1 ((0 : Int32)) M
set_option maxRecDepth 20000 in
set_option maxHeartbeats 4000000 in
theorem s_X3_digestPlayer_0 {L : zL} {X : zX} {M0 : zM} {N : Nat × Nat} {Q : State → Prop} {r : (String ⊕ Int64) × zM} (hq : vQX L X M0 N Q (zoJ r.1) r.2) {a0 : Nat} {j1 : Int64} {i3 : Int32} {M : zM} (h : f_X3_digestPlayer_0 a0 j1 i3 M = some r) : V L X yX3_digestPlayer cX3_digestPlayer 8 (some FieldType.long) 70 M0 N Q M 0 [(0, .ref (zad L (a0))), (1, .long (j1)), (3, .int (i3))] [] := by
  unfold f_X3_digestPlayer_0 at h
  refine V_aload_n dX3_digestPlayer_0 rfl 0 rfl ?_
  replace h := ob h
  obtain ⟨v1, e_v1, h⟩ := h
  refine V_getR zf_9_0 zl_X3_11 e_v1 dX3_digestPlayer_1 ?_
  refine V_pc (pc' := 4) rfl ?_
  refine V_iload_n dX3_digestPlayer_4 rfl 2 rfl ?_
  replace h := ob h
  obtain ⟨v2, e_v2, h⟩ := h
  refine V_aald (by decide) e_v2 dX3_digestPlayer_5 ?_
  refine V_pc (pc' := 6) rfl ?_
  refine V_astore (ls' := [(4, .ref (zad L (v2))), (0, .ref (zad L (a0))), (1, .long (j1)), (3, .int (i3))]) dX3_digestPlayer_6 (by decide) rfl ?_
  refine V_lload_n dX3_digestPlayer_8 rfl 2 rfl ?_
  refine V_lstore (ls' := [(5, .long (j1)), (4, .ref (zad L (v2))), (0, .ref (zad L (a0))), (1, .long (j1)), (3, .int (i3))]) dX3_digestPlayer_9 (by decide) rfl ?_
  refine V_iconst (v := 0) dX3_digestPlayer_11 (by decide) ?_
  refine V_istore (ls' := [(7, .int ((0 : Int32))), (5, .long (j1)), (4, .ref (zad L (v2))), (0, .ref (zad L (a0))), (1, .long (j1)), (3, .int (i3))]) dX3_digestPlayer_12 (by decide) rfl ?_
  refine V_sub [3, 5, 2, 1, 0] rfl ?_
  exact s_X3_digestPlayer_14 hq h
def f_X3_digestPlayer (a0 : Nat) (j1 : Int64) (i3 : Int32) (M : zM) : Option ((String ⊕ Int64) × zM) := f_X3_digestPlayer_0 a0 j1 i3 M
theorem c_X3_digestPlayer {L : zL} {l : Launch} {a0 : Nat} {j1 : Int64} {i3 : Int32} {M : zM} {r : (String ⊕ Int64) × zM} (h : f_X3_digestPlayer a0 j1 i3 M = some r) : CX L l yX3_digestPlayer cX3_digestPlayer 8 (some FieldType.long) 70 M [.ref (zad L (a0)), .long (j1), .int (i3)] (zoJ r.1) r.2 :=
  CX.of ⟨by decide +kernel, by decide +kernel⟩ (Nat.le_of_ble_eq_true rfl) fun X Q hq => s_X3_digestPlayer_0 hq h
/-! Windsparlour.digest()J -/
theorem dX3_digest_0 : decode cX3_digest 0 = .ok (.ldc2_w 273, 3) := by decide +kernel
theorem dX3_digest_3 : decode cX3_digest 3 = .ok (.lstore_n 1, 1) := by decide +kernel
theorem dX3_digest_4 : decode cX3_digest 4 = .ok (.iconst 0, 1) := by decide +kernel
theorem dX3_digest_5 : decode cX3_digest 5 = .ok (.istore_n 3, 1) := by decide +kernel
theorem dX3_digest_6 : decode cX3_digest 6 = .ok (.iload_n 3, 1) := by decide +kernel
theorem dX3_digest_7 : decode cX3_digest 7 = .ok (.bipush 9, 2) := by decide +kernel
theorem dX3_digest_9 : decode cX3_digest 9 = .ok (.if_icmp .gt 22, 3) := by decide +kernel
theorem dX3_digest_12 : decode cX3_digest 12 = .ok (.lload_n 1, 1) := by decide +kernel
theorem dX3_digest_13 : decode cX3_digest 13 = .ok (.ldc2_w 275, 3) := by decide +kernel
theorem dX3_digest_16 : decode cX3_digest 16 = .ok (.lmul, 1) := by decide +kernel
theorem dX3_digest_17 : decode cX3_digest 17 = .ok (.aload_n 0, 1) := by decide +kernel
theorem dX3_digest_18 : decode cX3_digest 18 = .ok (.iload_n 3, 1) := by decide +kernel
theorem dX3_digest_19 : decode cX3_digest 19 = .ok (.invokevirtual 277, 3) := by decide +kernel
theorem dX3_digest_22 : decode cX3_digest 22 = .ok (.i2l, 1) := by decide +kernel
theorem dX3_digest_23 : decode cX3_digest 23 = .ok (.ladd, 1) := by decide +kernel
theorem dX3_digest_24 : decode cX3_digest 24 = .ok (.lstore_n 1, 1) := by decide +kernel
theorem dX3_digest_25 : decode cX3_digest 25 = .ok (.iinc 3 1, 3) := by decide +kernel
theorem dX3_digest_28 : decode cX3_digest 28 = .ok (.goto (-22), 3) := by decide +kernel
theorem dX3_digest_31 : decode cX3_digest 31 = .ok (.iconst 0, 1) := by decide +kernel
theorem dX3_digest_32 : decode cX3_digest 32 = .ok (.istore_n 3, 1) := by decide +kernel
theorem dX3_digest_33 : decode cX3_digest 33 = .ok (.iload_n 3, 1) := by decide +kernel
theorem dX3_digest_34 : decode cX3_digest 34 = .ok (.iconst 4, 1) := by decide +kernel
theorem dX3_digest_35 : decode cX3_digest 35 = .ok (.if_icmp .ge 16, 3) := by decide +kernel
theorem dX3_digest_38 : decode cX3_digest 38 = .ok (.aload_n 0, 1) := by decide +kernel
theorem dX3_digest_39 : decode cX3_digest 39 = .ok (.lload_n 1, 1) := by decide +kernel
theorem dX3_digest_40 : decode cX3_digest 40 = .ok (.iload_n 3, 1) := by decide +kernel
theorem dX3_digest_41 : decode cX3_digest 41 = .ok (.invokevirtual 280, 3) := by decide +kernel
theorem dX3_digest_44 : decode cX3_digest 44 = .ok (.lstore_n 1, 1) := by decide +kernel
theorem dX3_digest_45 : decode cX3_digest 45 = .ok (.iinc 3 1, 3) := by decide +kernel
theorem dX3_digest_48 : decode cX3_digest 48 = .ok (.goto (-15), 3) := by decide +kernel
theorem dX3_digest_51 : decode cX3_digest 51 = .ok (.lload_n 1, 1) := by decide +kernel
theorem dX3_digest_52 : decode cX3_digest 52 = .ok (.ldc2_w 275, 3) := by decide +kernel
theorem dX3_digest_55 : decode cX3_digest 55 = .ok (.lmul, 1) := by decide +kernel
theorem dX3_digest_56 : decode cX3_digest 56 = .ok (.aload_n 0, 1) := by decide +kernel
theorem dX3_digest_57 : decode cX3_digest 57 = .ok (.invokevirtual 284, 3) := by decide +kernel
theorem dX3_digest_60 : decode cX3_digest 60 = .ok (.i2l, 1) := by decide +kernel
theorem dX3_digest_61 : decode cX3_digest 61 = .ok (.ladd, 1) := by decide +kernel
theorem dX3_digest_62 : decode cX3_digest 62 = .ok (.lreturn, 1) := by decide +kernel
def f_X3_digest_33 (n : Nat) (a0 : Nat) (j1 : Int64) (i3 : Int32) (M : zM) : Option ((String ⊕ Int64) × zM) := match n with
  | 0 => none
  | n + 1 =>
    if ((4 : Int32)) ≤ i3 then
    if mK M a0 = 9 then
    (f_X3_best a0 M).bind fun r1 =>
    some (Sum.inr ((((j1 * ((31 : Int64)))) + ((r1.1.toInt64)))), r1.2)
    else none
    else
    if mK M a0 = 9 then
    xb (f_X3_digestPlayer a0 j1 i3 M) fun w3 Mw3 =>
    f_X3_digest_33 n a0 w3 ((i3 + (1 : Int32))) Mw3
    else none
set_option maxRecDepth 20000 in
set_option maxHeartbeats 4000000 in
theorem s_X3_digest_33 {L : zL} {X : zX} {M0 : zM} {N : Nat × Nat} {Q : State → Prop} {r : (String ⊕ Int64) × zM} (hq : vQX L X M0 N Q (zoJ r.1) r.2) {n : Nat} {a0 : Nat} {j1 : Int64} {i3 : Int32} {M : zM} : f_X3_digest_33 n a0 j1 i3 M = some r → V L X yX3_digest cX3_digest 4 (some FieldType.long) 71 M0 N Q M 33 [(0, .ref (zad L (a0))), (1, .long (j1)), (3, .int (i3))] [] := by
  induction n generalizing a0 j1 i3 M with
  | zero =>
    intro h
    rw [f_X3_digest_33] at h
    cases h
  | succ n ih0 =>
    intro h
    have ih : ∀ (a0 : Nat) (j1 : Int64) (i3 : Int32) (M : zM), f_X3_digest_33 n a0 j1 i3 M = some r → V L X yX3_digest cX3_digest 4 (some FieldType.long) 71 M0 N Q M 33 [(0, .ref (zad L (a0))), (1, .long (j1)), (3, .int (i3))] [] := fun a0 j1 i3 M h => ih0 h
    rw [f_X3_digest_33] at h
    refine V_iload_n dX3_digest_33 rfl 2 rfl ?_
    refine V_iconst (v := 4) dX3_digest_34 (by decide) ?_
    refine V_icmp_ge (tgt := 51) dX3_digest_35 (by decide) (fun c5 => ?_) (fun c5 => ?_)
    · replace h := (oi h).1 c5
      refine V_lload_n dX3_digest_51 rfl 1 rfl ?_
      refine V_ldc2 zcn_X3_275 dX3_digest_52 ?_
      refine V_lmul dX3_digest_55 ?_
      refine V_aload_n dX3_digest_56 rfl 0 rfl ?_
      replace h := ox h
      obtain ⟨c2, h⟩ := h
      replace h := ob h
      obtain ⟨r1, e_r1, h⟩ := h
      refine V_callV_I (As := []) (rest := [.long ((j1 * ((31 : Int64))))]) (c_X3_best e_r1) zc_X3_best rfl (by decide) rfl (by decide) (Or.inl c2) zm_X3_284 (Nat.le_of_ble_eq_true rfl) rfl dX3_digest_57 ?_
      refine V_pc (pc' := 60) rfl ?_
      refine V_i2l dX3_digest_60 ?_
      refine V_ladd dX3_digest_61 ?_
      obtain rfl := Option.some.inj h
      exact V_lretX rfl hq dX3_digest_62
    · replace h := (oi h).2 c5
      refine V_aload_n dX3_digest_38 rfl 0 rfl ?_
      refine V_lload_n dX3_digest_39 rfl 1 rfl ?_
      refine V_iload_n dX3_digest_40 rfl 2 rfl ?_
      replace h := ox h
      obtain ⟨c4, h⟩ := h
      replace h := xbs h
      rcases h with ⟨E_r3, M_r3, e_r3, rfl⟩ | ⟨w3, Mw3, e_r3, h⟩
      · exact V_callVt (As := [.long (j1), .int (i3)]) (rest := []) (c_X3_digestPlayer e_r3) hq (by decide +kernel) zc_X3_digestPlayer rfl (by decide) rfl (by decide) (Or.inl c4) zm_X3_280 (Nat.le_of_ble_eq_true rfl) rfl dX3_digest_41
      · refine V_callVx_J (As := [.long (j1), .int (i3)]) (rest := []) (c_X3_digestPlayer e_r3) zc_X3_digestPlayer rfl (by decide) rfl (by decide) (Or.inl c4) zm_X3_280 (Nat.le_of_ble_eq_true rfl) rfl dX3_digest_41 ?_
        refine V_pc (pc' := 44) rfl ?_
        refine V_lstore_n (ls' := [(1, .long (w3)), (0, .ref (zad L (a0))), (3, .int (i3))]) dX3_digest_44 rfl (by decide) rfl ?_
        refine V_iinc (v := i3 + (1 : Int32)) (ls' := [(3, .int ((i3 + (1 : Int32)))), (1, .long (w3)), (0, .ref (zad L (a0)))]) dX3_digest_45 2 rfl (by rfl) (by decide) rfl ?_
        refine V_goto (tgt := 33) dX3_digest_48 (by decide) ?_
        refine V_sub [2, 1, 0] rfl ?_
        exact ih _ _ _ _ h
def f_X3_digest_6 (n : Nat) (a0 : Nat) (j1 : Int64) (i3 : Int32) (M : zM) : Option ((String ⊕ Int64) × zM) := match n with
  | 0 => none
  | n + 1 =>
    if ((9 : Int32)) < i3 then
    f_X3_digest_33 zN a0 j1 ((0 : Int32)) M
    else
    if mK M a0 = 9 then
    xb (f_X3_many a0 i3 M) fun w1 Mw1 =>
    f_X3_digest_6 n a0 ((((j1 * ((31 : Int64)))) + ((w1.toInt64)))) ((i3 + (1 : Int32))) Mw1
    else none
set_option maxRecDepth 20000 in
set_option maxHeartbeats 4000000 in
theorem s_X3_digest_6 {L : zL} {X : zX} {M0 : zM} {N : Nat × Nat} {Q : State → Prop} {r : (String ⊕ Int64) × zM} (hq : vQX L X M0 N Q (zoJ r.1) r.2) {n : Nat} {a0 : Nat} {j1 : Int64} {i3 : Int32} {M : zM} : f_X3_digest_6 n a0 j1 i3 M = some r → V L X yX3_digest cX3_digest 4 (some FieldType.long) 71 M0 N Q M 6 [(0, .ref (zad L (a0))), (1, .long (j1)), (3, .int (i3))] [] := by
  induction n generalizing a0 j1 i3 M with
  | zero =>
    intro h
    rw [f_X3_digest_6] at h
    cases h
  | succ n ih0 =>
    intro h
    have ih : ∀ (a0 : Nat) (j1 : Int64) (i3 : Int32) (M : zM), f_X3_digest_6 n a0 j1 i3 M = some r → V L X yX3_digest cX3_digest 4 (some FieldType.long) 71 M0 N Q M 6 [(0, .ref (zad L (a0))), (1, .long (j1)), (3, .int (i3))] [] := fun a0 j1 i3 M h => ih0 h
    rw [f_X3_digest_6] at h
    refine V_iload_n dX3_digest_6 rfl 2 rfl ?_
    refine V_bipush (v := 9) dX3_digest_7 (by decide) ?_
    refine V_icmp_gt (tgt := 31) dX3_digest_9 (by decide) (fun c3 => ?_) (fun c3 => ?_)
    · replace h := (oi h).1 c3
      refine V_iconst (v := 0) dX3_digest_31 (by decide) ?_
      refine V_istore_n (ls' := [(3, .int ((0 : Int32))), (0, .ref (zad L (a0))), (1, .long (j1))]) dX3_digest_32 rfl (by decide) rfl ?_
      refine V_sub [1, 2, 0] rfl ?_
      exact s_X3_digest_33 hq h
    · replace h := (oi h).2 c3
      refine V_lload_n dX3_digest_12 rfl 1 rfl ?_
      refine V_ldc2 zcn_X3_275 dX3_digest_13 ?_
      refine V_lmul dX3_digest_16 ?_
      refine V_aload_n dX3_digest_17 rfl 0 rfl ?_
      refine V_iload_n dX3_digest_18 rfl 2 rfl ?_
      replace h := ox h
      obtain ⟨c2, h⟩ := h
      replace h := xbs h
      rcases h with ⟨E_r1, M_r1, e_r1, rfl⟩ | ⟨w1, Mw1, e_r1, h⟩
      · exact V_callVt (As := [.int (i3)]) (rest := [.long ((j1 * ((31 : Int64))))]) (c_X3_many e_r1) hq (by decide +kernel) zc_X3_many rfl (by decide) rfl (by decide) (Or.inl c2) zm_X3_277 (Nat.le_of_ble_eq_true rfl) rfl dX3_digest_19
      · refine V_callVx_I (As := [.int (i3)]) (rest := [.long ((j1 * ((31 : Int64))))]) (c_X3_many e_r1) zc_X3_many rfl (by decide) rfl (by decide) (Or.inl c2) zm_X3_277 (Nat.le_of_ble_eq_true rfl) rfl dX3_digest_19 ?_
        refine V_pc (pc' := 22) rfl ?_
        refine V_i2l dX3_digest_22 ?_
        refine V_ladd dX3_digest_23 ?_
        refine V_lstore_n (ls' := [(1, .long ((((j1 * ((31 : Int64)))) + ((w1.toInt64))))), (0, .ref (zad L (a0))), (3, .int (i3))]) dX3_digest_24 rfl (by decide) rfl ?_
        refine V_iinc (v := i3 + (1 : Int32)) (ls' := [(3, .int ((i3 + (1 : Int32)))), (1, .long ((((j1 * ((31 : Int64)))) + ((w1.toInt64))))), (0, .ref (zad L (a0)))]) dX3_digest_25 2 rfl (by rfl) (by decide) rfl ?_
        refine V_goto (tgt := 6) dX3_digest_28 (by decide) ?_
        refine V_sub [2, 1, 0] rfl ?_
        exact ih _ _ _ _ h
def f_X3_digest_0 (a0 : Nat) (M : zM) : Option ((String ⊕ Int64) × zM) :=
  f_X3_digest_6 zN a0 ((58317 : Int64)) ((0 : Int32)) M
set_option maxRecDepth 20000 in
set_option maxHeartbeats 4000000 in
theorem s_X3_digest_0 {L : zL} {X : zX} {M0 : zM} {N : Nat × Nat} {Q : State → Prop} {r : (String ⊕ Int64) × zM} (hq : vQX L X M0 N Q (zoJ r.1) r.2) {a0 : Nat} {M : zM} (h : f_X3_digest_0 a0 M = some r) : V L X yX3_digest cX3_digest 4 (some FieldType.long) 71 M0 N Q M 0 [(0, .ref (zad L (a0)))] [] := by
  unfold f_X3_digest_0 at h
  refine V_ldc2 zcn_X3_273 dX3_digest_0 ?_
  refine V_lstore_n (ls' := [(1, .long ((58317 : Int64))), (0, .ref (zad L (a0)))]) dX3_digest_3 rfl (by decide) rfl ?_
  refine V_iconst (v := 0) dX3_digest_4 (by decide) ?_
  refine V_istore_n (ls' := [(3, .int ((0 : Int32))), (1, .long ((58317 : Int64))), (0, .ref (zad L (a0)))]) dX3_digest_5 rfl (by decide) rfl ?_
  refine V_sub [2, 1, 0] rfl ?_
  exact s_X3_digest_6 hq h
def f_X3_digest (a0 : Nat) (M : zM) : Option ((String ⊕ Int64) × zM) := f_X3_digest_0 a0 M
theorem c_X3_digest {L : zL} {l : Launch} {a0 : Nat} {M : zM} {r : (String ⊕ Int64) × zM} (h : f_X3_digest a0 M = some r) : CX L l yX3_digest cX3_digest 4 (some FieldType.long) 71 M [.ref (zad L (a0))] (zoJ r.1) r.2 :=
  CX.of ⟨by decide +kernel, by decide +kernel⟩ (Nat.le_of_ble_eq_true rfl) fun X Q hq => s_X3_digest_0 hq h
/-! WindsparlourModel$Lying.<init>(II)V -/
theorem dX5_init_0 : decode cX5_init 0 = .ok (.aload_n 0, 1) := by decide +kernel
theorem dX5_init_1 : decode cX5_init 1 = .ok (.invokespecial 3, 3) := by decide +kernel
theorem dX5_init_4 : decode cX5_init 4 = .ok (.aload_n 0, 1) := by decide +kernel
theorem dX5_init_5 : decode cX5_init 5 = .ok (.iload_n 1, 1) := by decide +kernel
theorem dX5_init_6 : decode cX5_init 6 = .ok (.putfield 9, 3) := by decide +kernel
theorem dX5_init_9 : decode cX5_init 9 = .ok (.aload_n 0, 1) := by decide +kernel
theorem dX5_init_10 : decode cX5_init 10 = .ok (.iload_n 2, 1) := by decide +kernel
theorem dX5_init_11 : decode cX5_init 11 = .ok (.putfield 15, 3) := by decide +kernel
theorem dX5_init_14 : decode cX5_init 14 = .ok (.return_, 1) := by decide +kernel
def f_X5_init_0 (a0 : Nat) (i1 : Int32) (i2 : Int32) (M : zM) : Option (Unit × zM) :=
  (pI 11 0 M a0 i1).bind fun M1 =>
  (pI 11 1 M1 a0 i2).bind fun M2 =>
  some ((), M2)
set_option maxRecDepth 20000 in
set_option maxHeartbeats 4000000 in
theorem s_X5_init_0 {L : zL} {X : zX} {M0 : zM} {N : Nat × Nat} {Q : State → Prop} {r : Unit × zM} (hq : vQ L X M0 N Q none r.2) {a0 : Nat} {i1 : Int32} {i2 : Int32} {M : zM} (h : f_X5_init_0 a0 i1 i2 M = some r) : V L X yX5_init cX5_init 3 (none : Option FieldType) 1 M0 N Q M 0 [(0, .ref (zad L (a0))), (1, .int (i1)), (2, .int (i2))] [] := by
  unfold f_X5_init_0 at h
  refine V_aload_n dX5_init_0 rfl 0 rfl ?_
  refine V_objInit zo_X5_3 (by decide) (Nat.le_of_ble_eq_true rfl) dX5_init_1 ?_
  refine V_aload_n dX5_init_4 rfl 0 rfl ?_
  refine V_iload_n dX5_init_5 rfl 1 rfl ?_
  replace h := ob h
  obtain ⟨M1, e_M1, h⟩ := h
  refine V_putI zf_11_0 zl_X5_9 (Or.inr ⟨rfl, rfl, rfl⟩) rfl e_M1 dX5_init_6 ?_
  refine V_pc (pc' := 9) rfl ?_
  refine V_aload_n dX5_init_9 rfl 0 rfl ?_
  refine V_iload_n dX5_init_10 rfl 2 rfl ?_
  replace h := ob h
  obtain ⟨M2, e_M2, h⟩ := h
  refine V_putI zf_11_1 zl_X5_15 (Or.inr ⟨rfl, rfl, rfl⟩) rfl e_M2 dX5_init_11 ?_
  refine V_pc (pc' := 14) rfl ?_
  obtain rfl := Option.some.inj h
  exact V_vret rfl hq dX5_init_14
def f_X5_init (a0 : Nat) (i1 : Int32) (i2 : Int32) (M : zM) : Option (Unit × zM) := f_X5_init_0 a0 i1 i2 M
theorem c_X5_init {L : zL} {l : Launch} {a0 : Nat} {i1 : Int32} {i2 : Int32} {M : zM} {r : Unit × zM} (h : f_X5_init a0 i1 i2 M = some r) : CP L l yX5_init cX5_init 3 (none : Option FieldType) 1 M [.ref (zad L (a0)), .int (i1), .int (i2)] none r.2 :=
  CP.of ⟨by decide +kernel, by decide +kernel⟩ (Nat.le_of_ble_eq_true rfl) fun X Q hq => s_X5_init_0 hq h
/-! WindsparlourModel$Lying.isOpen()Z -/
theorem dX5_isOpen_0 : decode cX5_isOpen 0 = .ok (.aload_n 0, 1) := by decide +kernel
theorem dX5_isOpen_1 : decode cX5_isOpen 1 = .ok (.getfield 15, 3) := by decide +kernel
theorem dX5_isOpen_4 : decode cX5_isOpen 4 = .ok (.iconst 3, 1) := by decide +kernel
theorem dX5_isOpen_5 : decode cX5_isOpen 5 = .ok (.if_icmp .eq 7, 3) := by decide +kernel
theorem dX5_isOpen_8 : decode cX5_isOpen 8 = .ok (.iconst 1, 1) := by decide +kernel
theorem dX5_isOpen_9 : decode cX5_isOpen 9 = .ok (.goto 4, 3) := by decide +kernel
theorem dX5_isOpen_12 : decode cX5_isOpen 12 = .ok (.iconst 0, 1) := by decide +kernel
theorem dX5_isOpen_13 : decode cX5_isOpen 13 = .ok (.ireturn, 1) := by decide +kernel
def f_X5_isOpen_0 (a0 : Nat) (M : zM) : Option (Int32 × zM) :=
  (gI 11 1 M a0).bind fun v1 =>
  if v1 = ((3 : Int32)) then
  some ((0 : Int32), M)
  else
  some ((1 : Int32), M)
set_option maxRecDepth 20000 in
set_option maxHeartbeats 4000000 in
theorem s_X5_isOpen_0 {L : zL} {X : zX} {M0 : zM} {N : Nat × Nat} {Q : State → Prop} {r : Int32 × zM} (hq : vQ L X M0 N Q (some (.int r.1)) r.2) {a0 : Nat} {M : zM} (h : f_X5_isOpen_0 a0 M = some r) : V L X yX5_isOpen cX5_isOpen 1 (some FieldType.boolean) 1 M0 N Q M 0 [(0, .ref (zad L (a0)))] [] := by
  unfold f_X5_isOpen_0 at h
  refine V_aload_n dX5_isOpen_0 rfl 0 rfl ?_
  replace h := ob h
  obtain ⟨v1, e_v1, h⟩ := h
  refine V_getI zf_11_1 zl_X5_15 e_v1 dX5_isOpen_1 ?_
  refine V_pc (pc' := 4) rfl ?_
  refine V_iconst (v := 3) dX5_isOpen_4 (by decide) ?_
  refine V_icmp_eq (tgt := 12) dX5_isOpen_5 (by decide) (fun c2 => ?_) (fun c2 => ?_)
  · replace h := (oi h).1 c2
    refine V_iconst (v := 0) dX5_isOpen_12 (by decide) ?_
    obtain rfl := Option.some.inj h
    exact V_zret (ty := .boolean) rfl rfl hq dX5_isOpen_13
  · replace h := (oi h).2 c2
    refine V_iconst (v := 1) dX5_isOpen_8 (by decide) ?_
    refine V_goto (tgt := 13) dX5_isOpen_9 (by decide) ?_
    obtain rfl := Option.some.inj h
    exact V_zret (ty := .boolean) rfl rfl hq dX5_isOpen_13
def f_X5_isOpen (a0 : Nat) (M : zM) : Option (Int32 × zM) := f_X5_isOpen_0 a0 M
theorem c_X5_isOpen {L : zL} {l : Launch} {a0 : Nat} {M : zM} {r : Int32 × zM} (h : f_X5_isOpen a0 M = some r) : CP L l yX5_isOpen cX5_isOpen 1 (some FieldType.boolean) 1 M [.ref (zad L (a0))] (some (.int r.1)) r.2 :=
  CP.of ⟨by decide +kernel, by decide +kernel⟩ (Nat.le_of_ble_eq_true rfl) fun X Q hq => s_X5_isOpen_0 hq h
