/-! ===== METHODS, by program ===== -/
/-! Windsparlour.seen(I)I -/
theorem dX3_seen_0 : decode cX3_seen 0 = .ok (.iload_n 1, 1) := by decide +kernel
theorem dX3_seen_1 : decode cX3_seen 1 = .ok (.invokestatic 105, 3) := by decide +kernel
theorem dX3_seen_4 : decode cX3_seen 4 = .ok (.iconst 0, 1) := by decide +kernel
theorem dX3_seen_5 : decode cX3_seen 5 = .ok (.istore_n 2, 1) := by decide +kernel
theorem dX3_seen_6 : decode cX3_seen 6 = .ok (.iconst 0, 1) := by decide +kernel
theorem dX3_seen_7 : decode cX3_seen 7 = .ok (.istore_n 3, 1) := by decide +kernel
theorem dX3_seen_8 : decode cX3_seen 8 = .ok (.iload_n 3, 1) := by decide +kernel
theorem dX3_seen_9 : decode cX3_seen 9 = .ok (.iconst 4, 1) := by decide +kernel
theorem dX3_seen_10 : decode cX3_seen 10 = .ok (.if_icmp .ge 22, 3) := by decide +kernel
theorem dX3_seen_13 : decode cX3_seen 13 = .ok (.iload_n 2, 1) := by decide +kernel
theorem dX3_seen_14 : decode cX3_seen 14 = .ok (.aload_n 0, 1) := by decide +kernel
theorem dX3_seen_15 : decode cX3_seen 15 = .ok (.getfield 11, 3) := by decide +kernel
theorem dX3_seen_18 : decode cX3_seen 18 = .ok (.iload_n 3, 1) := by decide +kernel
theorem dX3_seen_19 : decode cX3_seen 19 = .ok (.aaload, 1) := by decide +kernel
theorem dX3_seen_20 : decode cX3_seen 20 = .ok (.iload_n 1, 1) := by decide +kernel
theorem dX3_seen_21 : decode cX3_seen 21 = .ok (.invokevirtual 232, 3) := by decide +kernel
theorem dX3_seen_24 : decode cX3_seen 24 = .ok (.iadd, 1) := by decide +kernel
theorem dX3_seen_25 : decode cX3_seen 25 = .ok (.istore_n 2, 1) := by decide +kernel
theorem dX3_seen_26 : decode cX3_seen 26 = .ok (.iinc 3 1, 3) := by decide +kernel
theorem dX3_seen_29 : decode cX3_seen 29 = .ok (.goto (-21), 3) := by decide +kernel
theorem dX3_seen_32 : decode cX3_seen 32 = .ok (.iload_n 2, 1) := by decide +kernel
theorem dX3_seen_33 : decode cX3_seen 33 = .ok (.ireturn, 1) := by decide +kernel
def f_X3_seen_8 (n : Nat) (a0 : Nat) (i1 : Int32) (i2 : Int32) (i3 : Int32) (M : zM) : Option ((String ⊕ Int32) × zM) := match n with
  | 0 => none
  | n + 1 =>
    if ((4 : Int32)) ≤ i3 then
    some (Sum.inr (i2), M)
    else
    (gR 9 0 M a0).bind fun v1 =>
    (lQ 1 M v1 i3).bind fun v2 =>
    if mK M v2 = 7 then
    (f_X1_lying v2 i1 M).bind fun r3 =>
    f_X3_seen_8 n a0 i1 ((i2 + r3.1)) ((i3 + (1 : Int32))) r3.2
    else none
set_option maxRecDepth 20000 in
set_option maxHeartbeats 4000000 in
theorem s_X3_seen_8 {L : zL} {X : zX} {M0 : zM} {N : Nat × Nat} {Q : State → Prop} {r : (String ⊕ Int32) × zM} (hq : vQX L X M0 N Q (zoI r.1) r.2) {n : Nat} {a0 : Nat} {i1 : Int32} {i2 : Int32} {i3 : Int32} {M : zM} : f_X3_seen_8 n a0 i1 i2 i3 M = some r → V L X yX3_seen cX3_seen 4 (some FieldType.int) 7 M0 N Q M 8 [(0, .ref (zad L (a0))), (1, .int (i1)), (2, .int (i2)), (3, .int (i3))] [] := by
  induction n generalizing a0 i1 i2 i3 M with
  | zero =>
    intro h
    rw [f_X3_seen_8] at h
    cases h
  | succ n ih0 =>
    intro h
    have ih : ∀ (a0 : Nat) (i1 : Int32) (i2 : Int32) (i3 : Int32) (M : zM), f_X3_seen_8 n a0 i1 i2 i3 M = some r → V L X yX3_seen cX3_seen 4 (some FieldType.int) 7 M0 N Q M 8 [(0, .ref (zad L (a0))), (1, .int (i1)), (2, .int (i2)), (3, .int (i3))] [] := fun a0 i1 i2 i3 M h => ih0 h
    rw [f_X3_seen_8] at h
    refine V_iload_n dX3_seen_8 rfl 3 rfl ?_
    refine V_iconst (v := 4) dX3_seen_9 (by decide) ?_
    refine V_icmp_ge (tgt := 32) dX3_seen_10 (by decide) (fun c5 => ?_) (fun c5 => ?_)
    · replace h := (oi h).1 c5
      refine V_iload_n dX3_seen_32 rfl 2 rfl ?_
      obtain rfl := Option.some.inj h
      exact V_iretX rfl hq dX3_seen_33
    · replace h := (oi h).2 c5
      refine V_iload_n dX3_seen_13 rfl 2 rfl ?_
      refine V_aload_n dX3_seen_14 rfl 0 rfl ?_
      replace h := ob h
      obtain ⟨v1, e_v1, h⟩ := h
      refine V_getR zf_9_0 zl_X3_11 e_v1 dX3_seen_15 ?_
      refine V_pc (pc' := 18) rfl ?_
      refine V_iload_n dX3_seen_18 rfl 3 rfl ?_
      replace h := ob h
      obtain ⟨v2, e_v2, h⟩ := h
      refine V_aald (by decide) e_v2 dX3_seen_19 ?_
      refine V_pc (pc' := 20) rfl ?_
      refine V_iload_n dX3_seen_20 rfl 1 rfl ?_
      replace h := ox h
      obtain ⟨c4, h⟩ := h
      replace h := ob h
      obtain ⟨r3, e_r3, h⟩ := h
      refine V_callV_I (As := [.int (i1)]) (rest := [.int (i2)]) (c_X1_lying e_r3) zc_X1_lying rfl (by decide) rfl (by decide) (Or.inl c4) zm_X3_232 (Nat.le_of_ble_eq_true rfl) rfl dX3_seen_21 ?_
      refine V_pc (pc' := 24) rfl ?_
      refine V_iadd dX3_seen_24 ?_
      refine V_istore_n (ls' := [(2, .int ((i2 + r3.1))), (0, .ref (zad L (a0))), (1, .int (i1)), (3, .int (i3))]) dX3_seen_25 rfl (by decide) rfl ?_
      refine V_iinc (v := i3 + (1 : Int32)) (ls' := [(3, .int ((i3 + (1 : Int32)))), (2, .int ((i2 + r3.1))), (0, .ref (zad L (a0))), (1, .int (i1))]) dX3_seen_26 3 rfl (by rfl) (by decide) rfl ?_
      refine V_goto (tgt := 8) dX3_seen_29 (by decide) ?_
      refine V_sub [2, 3, 1, 0] rfl ?_
      exact ih _ _ _ _ _ h
def f_X3_seen_0 (a0 : Nat) (i1 : Int32) (M : zM) : Option ((String ⊕ Int32) × zM) :=
  xb (f_X3_requireKind i1 M) fun w1 Mw1 =>
  f_X3_seen_8 zN a0 i1 ((0 : Int32)) ((0 : Int32)) Mw1
set_option maxRecDepth 20000 in
set_option maxHeartbeats 4000000 in
theorem s_X3_seen_0 {L : zL} {X : zX} {M0 : zM} {N : Nat × Nat} {Q : State → Prop} {r : (String ⊕ Int32) × zM} (hq : vQX L X M0 N Q (zoI r.1) r.2) {a0 : Nat} {i1 : Int32} {M : zM} (h : f_X3_seen_0 a0 i1 M = some r) : V L X yX3_seen cX3_seen 4 (some FieldType.int) 7 M0 N Q M 0 [(0, .ref (zad L (a0))), (1, .int (i1))] [] := by
  unfold f_X3_seen_0 at h
  refine V_iload_n dX3_seen_0 rfl 1 rfl ?_
  replace h := xbs h
  rcases h with ⟨E_r1, M_r1, e_r1, rfl⟩ | ⟨w1, Mw1, e_r1, h⟩
  · exact V_callSt (As := [.int (i1)]) (rest := []) (c_X3_requireKind e_r1) hq (by decide +kernel) zc_X3_requireKind rfl (by decide) zm_X3_105 (Nat.le_of_ble_eq_true rfl) rfl dX3_seen_1
  · refine V_callSx_V (As := [.int (i1)]) (rest := []) (c_X3_requireKind e_r1) zc_X3_requireKind rfl (by decide) zm_X3_105 (Nat.le_of_ble_eq_true rfl) rfl dX3_seen_1 ?_
    refine V_pc (pc' := 4) rfl ?_
    refine V_iconst (v := 0) dX3_seen_4 (by decide) ?_
    refine V_istore_n (ls' := [(2, .int ((0 : Int32))), (0, .ref (zad L (a0))), (1, .int (i1))]) dX3_seen_5 rfl (by decide) rfl ?_
    refine V_iconst (v := 0) dX3_seen_6 (by decide) ?_
    refine V_istore_n (ls' := [(3, .int ((0 : Int32))), (2, .int ((0 : Int32))), (0, .ref (zad L (a0))), (1, .int (i1))]) dX3_seen_7 rfl (by decide) rfl ?_
    refine V_sub [2, 3, 1, 0] rfl ?_
    exact s_X3_seen_8 hq h
def f_X3_seen (a0 : Nat) (i1 : Int32) (M : zM) : Option ((String ⊕ Int32) × zM) := f_X3_seen_0 a0 i1 M
theorem c_X3_seen {L : zL} {l : Launch} {a0 : Nat} {i1 : Int32} {M : zM} {r : (String ⊕ Int32) × zM} (h : f_X3_seen a0 i1 M = some r) : CX L l yX3_seen cX3_seen 4 (some FieldType.int) 7 M [.ref (zad L (a0)), .int (i1)] (zoI r.1) r.2 :=
  CX.of ⟨by decide +kernel, by decide +kernel⟩ (Nat.le_of_ble_eq_true rfl) fun X Q hq => s_X3_seen_0 hq h
/-! java/lang/AbstractStringBuilder.<init>(I)V -/
theorem dJ5_init_d00df_0 : decode cJ5_init_d00df 0 = .ok (.aload_n 0, 1) := by decide +kernel
theorem dJ5_init_d00df_1 : decode cJ5_init_d00df 1 = .ok (.invokespecial 3, 3) := by decide +kernel
theorem dJ5_init_d00df_4 : decode cJ5_init_d00df 4 = .ok (.getstatic 18, 3) := by decide +kernel
theorem dJ5_init_d00df_7 : decode cJ5_init_d00df 7 = .ok (.ifCond .eq 18, 3) := by decide +kernel
theorem dJ5_init_d00df_10 : decode cJ5_init_d00df 10 = .ok (.aload_n 0, 1) := by decide +kernel
theorem dJ5_init_d00df_11 : decode cJ5_init_d00df 11 = .ok (.iload_n 1, 1) := by decide +kernel
theorem dJ5_init_d00df_12 : decode cJ5_init_d00df 12 = .ok (.newarray .byte, 2) := by decide +kernel
theorem dJ5_init_d00df_14 : decode cJ5_init_d00df 14 = .ok (.putfield 15, 3) := by decide +kernel
theorem dJ5_init_d00df_17 : decode cJ5_init_d00df 17 = .ok (.aload_n 0, 1) := by decide +kernel
theorem dJ5_init_d00df_18 : decode cJ5_init_d00df 18 = .ok (.iconst 0, 1) := by decide +kernel
theorem dJ5_init_d00df_19 : decode cJ5_init_d00df 19 = .ok (.putfield 22, 3) := by decide +kernel
theorem dJ5_init_d00df_22 : decode cJ5_init_d00df 22 = .ok (.goto 16, 3) := by decide +kernel
theorem dJ5_init_d00df_25 : decode cJ5_init_d00df 25 = .ok (.aload_n 0, 1) := by decide +kernel
theorem dJ5_init_d00df_26 : decode cJ5_init_d00df 26 = .ok (.iload_n 1, 1) := by decide +kernel
theorem dJ5_init_d00df_27 : decode cJ5_init_d00df 27 = .ok (.invokestatic 26, 3) := by decide +kernel
theorem dJ5_init_d00df_30 : decode cJ5_init_d00df 30 = .ok (.putfield 15, 3) := by decide +kernel
theorem dJ5_init_d00df_33 : decode cJ5_init_d00df 33 = .ok (.aload_n 0, 1) := by decide +kernel
theorem dJ5_init_d00df_34 : decode cJ5_init_d00df 34 = .ok (.iconst 1, 1) := by decide +kernel
theorem dJ5_init_d00df_35 : decode cJ5_init_d00df 35 = .ok (.putfield 22, 3) := by decide +kernel
theorem dJ5_init_d00df_38 : decode cJ5_init_d00df 38 = .ok (.return_, 1) := by decide +kernel
def f_J5_init_d00df_0 (a0 : Nat) (i1 : Int32) (M : zM) : Option (Unit × zM) :=
  if ((1 : Int32)) = 0 then
  none
  else
  (aA 1 M i1).bind fun r1 =>
  (pR 2 0 r1.2 a0 r1.1).bind fun M2 =>
  (pZ 2 1 M2 a0 ((0 : Int32))).bind fun M3 =>
  some ((), M3)
set_option maxRecDepth 20000 in
set_option maxHeartbeats 4000000 in
theorem s_J5_init_d00df_0 {L : zL} {X : zX} {M0 : zM} {N : Nat × Nat} {Q : State → Prop} {r : Unit × zM} (hq : vQ L X M0 N Q none r.2) {a0 : Nat} {i1 : Int32} {M : zM} (h : f_J5_init_d00df_0 a0 i1 M = some r) : V L X yJ5_init_d00df cJ5_init_d00df 2 (none : Option FieldType) 1 M0 N Q M 0 [(0, .ref (zad L (a0))), (1, .int (i1))] [] := by
  unfold f_J5_init_d00df_0 at h
  refine V_aload_n dJ5_init_d00df_0 rfl 0 rfl ?_
  refine V_objInit zo_J5_3 (by decide) (Nat.le_of_ble_eq_true rfl) dJ5_init_d00df_1 ?_
  refine V_gets (zst_6 L) zg_J5_18 rfl dJ5_init_d00df_4 ?_
  refine V_if_eq (tgt := 25) dJ5_init_d00df_7 (by decide) (fun c4 => ?_) (fun c4 => ?_)
  · replace h := (oi h).1 c4
    refine V_aload_n dJ5_init_d00df_25 rfl 0 rfl ?_
    refine V_iload_n dJ5_init_d00df_26 rfl 1 rfl ?_
    cases h
  · replace h := (oi h).2 c4
    refine V_aload_n dJ5_init_d00df_10 rfl 0 rfl ?_
    refine V_iload_n dJ5_init_d00df_11 rfl 1 rfl ?_
    replace h := ob h
    obtain ⟨r1, e_r1, h⟩ := h
    refine V_newa (t := 1) (by decide) rfl zna_1 e_r1 dJ5_init_d00df_12 ?_
    refine V_pc (pc' := 14) rfl ?_
    replace h := ob h
    obtain ⟨M2, e_M2, h⟩ := h
    refine V_putR zf_2_0 zl_J5_15 (Or.inl rfl) rfl e_M2 dJ5_init_d00df_14 ?_
    refine V_pc (pc' := 17) rfl ?_
    refine V_aload_n dJ5_init_d00df_17 rfl 0 rfl ?_
    refine V_iconst (v := 0) dJ5_init_d00df_18 (by decide) ?_
    replace h := ob h
    obtain ⟨M3, e_M3, h⟩ := h
    refine V_putB zf_2_1 zl_J5_22 (Or.inl rfl) rfl e_M3 dJ5_init_d00df_19 ?_
    refine V_pc (pc' := 22) rfl ?_
    refine V_goto (tgt := 38) dJ5_init_d00df_22 (by decide) ?_
    obtain rfl := Option.some.inj h
    exact V_vret rfl hq dJ5_init_d00df_38
def f_J5_init_d00df (a0 : Nat) (i1 : Int32) (M : zM) : Option (Unit × zM) := f_J5_init_d00df_0 a0 i1 M
theorem c_J5_init_d00df {L : zL} {l : Launch} {a0 : Nat} {i1 : Int32} {M : zM} {r : Unit × zM} (h : f_J5_init_d00df a0 i1 M = some r) : CP L l yJ5_init_d00df cJ5_init_d00df 2 (none : Option FieldType) 1 M [.ref (zad L (a0)), .int (i1)] none r.2 :=
  CP.of ⟨by decide +kernel, by decide +kernel⟩ (Nat.le_of_ble_eq_true rfl) fun X Q hq => s_J5_init_d00df_0 hq h
/-! java/lang/StringBuilder.<init>()V -/
theorem dJ4_init_da8c8_0 : decode cJ4_init_da8c8 0 = .ok (.aload_n 0, 1) := by decide +kernel
theorem dJ4_init_da8c8_1 : decode cJ4_init_da8c8 1 = .ok (.bipush 16, 2) := by decide +kernel
theorem dJ4_init_da8c8_3 : decode cJ4_init_da8c8 3 = .ok (.invokespecial 1, 3) := by decide +kernel
theorem dJ4_init_da8c8_6 : decode cJ4_init_da8c8 6 = .ok (.return_, 1) := by decide +kernel
def f_J4_init_da8c8_0 (a0 : Nat) (M : zM) : Option (Unit × zM) :=
  (f_J5_init_d00df a0 ((16 : Int32)) M).bind fun r1 =>
  some ((), r1.2)
set_option maxRecDepth 20000 in
set_option maxHeartbeats 4000000 in
theorem s_J4_init_da8c8_0 {L : zL} {X : zX} {M0 : zM} {N : Nat × Nat} {Q : State → Prop} {r : Unit × zM} (hq : vQ L X M0 N Q none r.2) {a0 : Nat} {M : zM} (h : f_J4_init_da8c8_0 a0 M = some r) : V L X yJ4_init_da8c8 cJ4_init_da8c8 1 (none : Option FieldType) 2 M0 N Q M 0 [(0, .ref (zad L (a0)))] [] := by
  unfold f_J4_init_da8c8_0 at h
  refine V_aload_n dJ4_init_da8c8_0 rfl 0 rfl ?_
  refine V_bipush (v := 16) dJ4_init_da8c8_1 (by decide) ?_
  replace h := ob h
  obtain ⟨r1, e_r1, h⟩ := h
  refine V_callI_V (As := [.int ((16 : Int32))]) (rest := []) (c_J5_init_d00df e_r1) zc_J5_init_d00df rfl (by decide) zm_J4_1 rfl (Nat.le_of_ble_eq_true rfl) rfl dJ4_init_da8c8_3 ?_
  refine V_pc (pc' := 6) rfl ?_
  obtain rfl := Option.some.inj h
  exact V_vret rfl hq dJ4_init_da8c8_6
def f_J4_init_da8c8 (a0 : Nat) (M : zM) : Option (Unit × zM) := f_J4_init_da8c8_0 a0 M
theorem c_J4_init_da8c8 {L : zL} {l : Launch} {a0 : Nat} {M : zM} {r : Unit × zM} (h : f_J4_init_da8c8 a0 M = some r) : CP L l yJ4_init_da8c8 cJ4_init_da8c8 1 (none : Option FieldType) 2 M [.ref (zad L (a0))] none r.2 :=
  CP.of ⟨by decide +kernel, by decide +kernel⟩ (Nat.le_of_ble_eq_true rfl) fun X Q hq => s_J4_init_da8c8_0 hq h
/-! java/lang/AbstractStringBuilder.length()I -/
theorem dJ5_length_8abf5_0 : decode cJ5_length_8abf5 0 = .ok (.aload_n 0, 1) := by decide +kernel
theorem dJ5_length_8abf5_1 : decode cJ5_length_8abf5 1 = .ok (.getfield 79, 3) := by decide +kernel
theorem dJ5_length_8abf5_4 : decode cJ5_length_8abf5 4 = .ok (.ireturn, 1) := by decide +kernel
def f_J5_length_8abf5_0 (a0 : Nat) (M : zM) : Option (Int32 × zM) :=
  (gI 2 3 M a0).bind fun v1 =>
  some (v1, M)
set_option maxRecDepth 20000 in
set_option maxHeartbeats 4000000 in
theorem s_J5_length_8abf5_0 {L : zL} {X : zX} {M0 : zM} {N : Nat × Nat} {Q : State → Prop} {r : Int32 × zM} (hq : vQ L X M0 N Q (some (.int r.1)) r.2) {a0 : Nat} {M : zM} (h : f_J5_length_8abf5_0 a0 M = some r) : V L X yJ5_length_8abf5 cJ5_length_8abf5 1 (some FieldType.int) 1 M0 N Q M 0 [(0, .ref (zad L (a0)))] [] := by
  unfold f_J5_length_8abf5_0 at h
  refine V_aload_n dJ5_length_8abf5_0 rfl 0 rfl ?_
  replace h := ob h
  obtain ⟨v1, e_v1, h⟩ := h
  refine V_getI zf_2_3 zl_J5_79 e_v1 dJ5_length_8abf5_1 ?_
  refine V_pc (pc' := 4) rfl ?_
  obtain rfl := Option.some.inj h
  exact V_iret rfl hq dJ5_length_8abf5_4
def f_J5_length_8abf5 (a0 : Nat) (M : zM) : Option (Int32 × zM) := f_J5_length_8abf5_0 a0 M
theorem c_J5_length_8abf5 {L : zL} {l : Launch} {a0 : Nat} {M : zM} {r : Int32 × zM} (h : f_J5_length_8abf5 a0 M = some r) : CP L l yJ5_length_8abf5 cJ5_length_8abf5 1 (some FieldType.int) 1 M [.ref (zad L (a0))] (some (.int r.1)) r.2 :=
  CP.of ⟨by decide +kernel, by decide +kernel⟩ (Nat.le_of_ble_eq_true rfl) fun X Q hq => s_J5_length_8abf5_0 hq h
/-! java/lang/StringBuilder.length()I -/
theorem dJ4_length_8abf5_0 : decode cJ4_length_8abf5 0 = .ok (.aload_n 0, 1) := by decide +kernel
theorem dJ4_length_8abf5_1 : decode cJ4_length_8abf5 1 = .ok (.invokespecial 343, 3) := by decide +kernel
theorem dJ4_length_8abf5_4 : decode cJ4_length_8abf5 4 = .ok (.ireturn, 1) := by decide +kernel
def f_J4_length_8abf5_0 (a0 : Nat) (M : zM) : Option (Int32 × zM) :=
  if mK M a0 = 2 then
  (f_J5_length_8abf5 a0 M).bind fun r1 =>
  some (r1.1, r1.2)
  else none
set_option maxRecDepth 20000 in
set_option maxHeartbeats 4000000 in
theorem s_J4_length_8abf5_0 {L : zL} {X : zX} {M0 : zM} {N : Nat × Nat} {Q : State → Prop} {r : Int32 × zM} (hq : vQ L X M0 N Q (some (.int r.1)) r.2) {a0 : Nat} {M : zM} (h : f_J4_length_8abf5_0 a0 M = some r) : V L X yJ4_length_8abf5 cJ4_length_8abf5 1 (some FieldType.int) 2 M0 N Q M 0 [(0, .ref (zad L (a0)))] [] := by
  unfold f_J4_length_8abf5_0 at h
  refine V_aload_n dJ4_length_8abf5_0 rfl 0 rfl ?_
  replace h := ox h
  obtain ⟨c2, h⟩ := h
  replace h := ob h
  obtain ⟨r1, e_r1, h⟩ := h
  refine V_callU_I (As := []) (rest := []) (c_J5_length_8abf5 e_r1) zc_J5_length_8abf5 rfl (by decide) rfl (by decide) (Or.inl c2) zm_J4_343 (Nat.le_of_ble_eq_true rfl) rfl dJ4_length_8abf5_1 ?_
  refine V_pc (pc' := 4) rfl ?_
  obtain rfl := Option.some.inj h
  exact V_iret rfl hq dJ4_length_8abf5_4
def f_J4_length_8abf5 (a0 : Nat) (M : zM) : Option (Int32 × zM) := f_J4_length_8abf5_0 a0 M
theorem c_J4_length_8abf5 {L : zL} {l : Launch} {a0 : Nat} {M : zM} {r : Int32 × zM} (h : f_J4_length_8abf5 a0 M = some r) : CP L l yJ4_length_8abf5 cJ4_length_8abf5 1 (some FieldType.int) 2 M [.ref (zad L (a0))] (some (.int r.1)) r.2 :=
  CP.of ⟨by decide +kernel, by decide +kernel⟩ (Nat.le_of_ble_eq_true rfl) fun X Q hq => s_J4_length_8abf5_0 hq h
/-! java/lang/AbstractStringBuilder.getValue()[B -/
theorem dJ5_getValue_6d5f1_0 : decode cJ5_getValue_6d5f1 0 = .ok (.aload_n 0, 1) := by decide +kernel
theorem dJ5_getValue_6d5f1_1 : decode cJ5_getValue_6d5f1 1 = .ok (.getfield 15, 3) := by decide +kernel
theorem dJ5_getValue_6d5f1_4 : decode cJ5_getValue_6d5f1 4 = .ok (.areturn, 1) := by decide +kernel
def f_J5_getValue_6d5f1_0 (a0 : Nat) (M : zM) : Option (Nat × zM) :=
  (gR 2 0 M a0).bind fun v1 =>
  some (v1, M)
set_option maxRecDepth 20000 in
set_option maxHeartbeats 4000000 in
theorem s_J5_getValue_6d5f1_0 {L : zL} {X : zX} {M0 : zM} {N : Nat × Nat} {Q : State → Prop} {r : Nat × zM} (hq : vQ L X M0 N Q (some (.ref (zad L r.1))) r.2) {a0 : Nat} {M : zM} (h : f_J5_getValue_6d5f1_0 a0 M = some r) : V L X yJ5_getValue_6d5f1 cJ5_getValue_6d5f1 1 (Option.some (FieldType.array FieldType.byte)) 1 M0 N Q M 0 [(0, .ref (zad L (a0)))] [] := by
  unfold f_J5_getValue_6d5f1_0 at h
  refine V_aload_n dJ5_getValue_6d5f1_0 rfl 0 rfl ?_
  replace h := ob h
  obtain ⟨v1, e_v1, h⟩ := h
  refine V_getR zf_2_0 zl_J5_15 e_v1 dJ5_getValue_6d5f1_1 ?_
  refine V_pc (pc' := 4) rfl ?_
  obtain rfl := Option.some.inj h
  exact V_aret rfl (by first | exact Or.inl ⟨_, rfl⟩ | exact Or.inr ⟨_, rfl⟩) hq dJ5_getValue_6d5f1_4
def f_J5_getValue_6d5f1 (a0 : Nat) (M : zM) : Option (Nat × zM) := f_J5_getValue_6d5f1_0 a0 M
theorem c_J5_getValue_6d5f1 {L : zL} {l : Launch} {a0 : Nat} {M : zM} {r : Nat × zM} (h : f_J5_getValue_6d5f1 a0 M = some r) : CP L l yJ5_getValue_6d5f1 cJ5_getValue_6d5f1 1 (Option.some (FieldType.array FieldType.byte)) 1 M [.ref (zad L (a0))] (some (.ref (zad L r.1))) r.2 :=
  CP.of ⟨by decide +kernel, by decide +kernel⟩ (Nat.le_of_ble_eq_true rfl) fun X Q hq => s_J5_getValue_6d5f1_0 hq h
/-! java/lang/AbstractStringBuilder.isLatin1()Z -/
theorem dJ5_isLatin1_aae02_0 : decode cJ5_isLatin1_aae02 0 = .ok (.getstatic 18, 3) := by decide +kernel
theorem dJ5_isLatin1_aae02_3 : decode cJ5_isLatin1_aae02 3 = .ok (.ifCond .eq 14, 3) := by decide +kernel
theorem dJ5_isLatin1_aae02_6 : decode cJ5_isLatin1_aae02 6 = .ok (.aload_n 0, 1) := by decide +kernel
theorem dJ5_isLatin1_aae02_7 : decode cJ5_isLatin1_aae02 7 = .ok (.getfield 22, 3) := by decide +kernel
theorem dJ5_isLatin1_aae02_10 : decode cJ5_isLatin1_aae02 10 = .ok (.ifCond .ne 7, 3) := by decide +kernel
theorem dJ5_isLatin1_aae02_13 : decode cJ5_isLatin1_aae02 13 = .ok (.iconst 1, 1) := by decide +kernel
theorem dJ5_isLatin1_aae02_14 : decode cJ5_isLatin1_aae02 14 = .ok (.goto 4, 3) := by decide +kernel
theorem dJ5_isLatin1_aae02_17 : decode cJ5_isLatin1_aae02 17 = .ok (.iconst 0, 1) := by decide +kernel
theorem dJ5_isLatin1_aae02_18 : decode cJ5_isLatin1_aae02 18 = .ok (.ireturn, 1) := by decide +kernel
def f_J5_isLatin1_aae02_0 (a0 : Nat) (M : zM) : Option (Int32 × zM) :=
  if ((1 : Int32)) = 0 then
  some ((0 : Int32), M)
  else
  (gI 2 1 M a0).bind fun v1 =>
  if v1 = 0 then
  some ((1 : Int32), M)
  else
  some ((0 : Int32), M)
set_option maxRecDepth 20000 in
set_option maxHeartbeats 4000000 in
theorem s_J5_isLatin1_aae02_0 {L : zL} {X : zX} {M0 : zM} {N : Nat × Nat} {Q : State → Prop} {r : Int32 × zM} (hq : vQ L X M0 N Q (some (.int r.1)) r.2) {a0 : Nat} {M : zM} (h : f_J5_isLatin1_aae02_0 a0 M = some r) : V L X yJ5_isLatin1_aae02 cJ5_isLatin1_aae02 1 (some FieldType.boolean) 1 M0 N Q M 0 [(0, .ref (zad L (a0)))] [] := by
  unfold f_J5_isLatin1_aae02_0 at h
  refine V_gets (zst_6 L) zg_J5_18 rfl dJ5_isLatin1_aae02_0 ?_
  refine V_if_eq (tgt := 17) dJ5_isLatin1_aae02_3 (by decide) (fun c3 => ?_) (fun c3 => ?_)
  · replace h := (oi h).1 c3
    refine V_iconst (v := 0) dJ5_isLatin1_aae02_17 (by decide) ?_
    obtain rfl := Option.some.inj h
    exact V_zret (ty := .boolean) rfl rfl hq dJ5_isLatin1_aae02_18
  · replace h := (oi h).2 c3
    refine V_aload_n dJ5_isLatin1_aae02_6 rfl 0 rfl ?_
    replace h := ob h
    obtain ⟨v1, e_v1, h⟩ := h
    refine V_getI zf_2_1 zl_J5_22 e_v1 dJ5_isLatin1_aae02_7 ?_
    refine V_pc (pc' := 10) rfl ?_
    refine V_if_ne (tgt := 17) dJ5_isLatin1_aae02_10 (by decide) (fun c2 => ?_) (fun c2 => ?_)
    · replace h := (oi h).2 c2
      refine V_iconst (v := 0) dJ5_isLatin1_aae02_17 (by decide) ?_
      obtain rfl := Option.some.inj h
      exact V_zret (ty := .boolean) rfl rfl hq dJ5_isLatin1_aae02_18
    · replace h := (oi h).1 c2
      refine V_iconst (v := 1) dJ5_isLatin1_aae02_13 (by decide) ?_
      refine V_goto (tgt := 18) dJ5_isLatin1_aae02_14 (by decide) ?_
      obtain rfl := Option.some.inj h
      exact V_zret (ty := .boolean) rfl rfl hq dJ5_isLatin1_aae02_18
def f_J5_isLatin1_aae02 (a0 : Nat) (M : zM) : Option (Int32 × zM) := f_J5_isLatin1_aae02_0 a0 M
theorem c_J5_isLatin1_aae02 {L : zL} {l : Launch} {a0 : Nat} {M : zM} {r : Int32 × zM} (h : f_J5_isLatin1_aae02 a0 M = some r) : CP L l yJ5_isLatin1_aae02 cJ5_isLatin1_aae02 1 (some FieldType.boolean) 1 M [.ref (zad L (a0))] (some (.int r.1)) r.2 :=
  CP.of ⟨by decide +kernel, by decide +kernel⟩ (Nat.le_of_ble_eq_true rfl) fun X Q hq => s_J5_isLatin1_aae02_0 hq h
/-! java/lang/String.coder()B -/
theorem dJ0_coder_7d493_0 : decode cJ0_coder_7d493 0 = .ok (.getstatic 38, 3) := by decide +kernel
theorem dJ0_coder_7d493_3 : decode cJ0_coder_7d493 3 = .ok (.ifCond .eq 10, 3) := by decide +kernel
theorem dJ0_coder_7d493_6 : decode cJ0_coder_7d493 6 = .ok (.aload_n 0, 1) := by decide +kernel
theorem dJ0_coder_7d493_7 : decode cJ0_coder_7d493 7 = .ok (.getfield 15, 3) := by decide +kernel
theorem dJ0_coder_7d493_10 : decode cJ0_coder_7d493 10 = .ok (.goto 4, 3) := by decide +kernel
theorem dJ0_coder_7d493_13 : decode cJ0_coder_7d493 13 = .ok (.iconst 1, 1) := by decide +kernel
theorem dJ0_coder_7d493_14 : decode cJ0_coder_7d493 14 = .ok (.ireturn, 1) := by decide +kernel
def f_J0_coder_7d493_0 (a0 : Nat) (M : zM) : Option (Int32 × zM) :=
  if ((1 : Int32)) = 0 then
  some ((1 : Int32), M)
  else
  (hI 1 1 M a0).bind fun v1 =>
  if vp_nar .byte v1 = v1 then some (v1, M) else none
set_option maxRecDepth 20000 in
set_option maxHeartbeats 4000000 in
theorem s_J0_coder_7d493_0 {L : zL} {X : zX} {M0 : zM} {N : Nat × Nat} {Q : State → Prop} {r : Int32 × zM} (hq : vQ L X M0 N Q (some (.int r.1)) r.2) {a0 : Nat} {M : zM} (h : f_J0_coder_7d493_0 a0 M = some r) : V L X yJ0_coder_7d493 cJ0_coder_7d493 1 (some FieldType.byte) 1 M0 N Q M 0 [(0, .ref (zad L (a0)))] [] := by
  unfold f_J0_coder_7d493_0 at h
  refine V_gets (zst_6 L) zg_J0_38 rfl dJ0_coder_7d493_0 ?_
  refine V_if_eq (tgt := 13) dJ0_coder_7d493_3 (by decide) (fun c3 => ?_) (fun c3 => ?_)
  · replace h := (oi h).1 c3
    refine V_iconst (v := 1) dJ0_coder_7d493_13 (by decide) ?_
    obtain rfl := Option.some.inj h
    exact V_zret (ty := .byte) rfl rfl hq dJ0_coder_7d493_14
  · replace h := (oi h).2 c3
    refine V_aload_n dJ0_coder_7d493_6 rfl 0 rfl ?_
    replace h := ob h
    obtain ⟨v1, e_v1, h⟩ := h
    refine V_getIx zf_1_1 zl_J0_15 (by decide) e_v1 dJ0_coder_7d493_7 ?_
    refine V_pc (pc' := 10) rfl ?_
    refine V_goto (tgt := 14) dJ0_coder_7d493_10 (by decide) ?_
    replace h := ox h
    obtain ⟨c2, h⟩ := h
    obtain rfl := Option.some.inj h
    exact V_zret (ty := .byte) rfl (zna_byte c2) hq dJ0_coder_7d493_14
def f_J0_coder_7d493 (a0 : Nat) (M : zM) : Option (Int32 × zM) := f_J0_coder_7d493_0 a0 M
theorem c_J0_coder_7d493 {L : zL} {l : Launch} {a0 : Nat} {M : zM} {r : Int32 × zM} (h : f_J0_coder_7d493 a0 M = some r) : CP L l yJ0_coder_7d493 cJ0_coder_7d493 1 (some FieldType.byte) 1 M [.ref (zad L (a0))] (some (.int r.1)) r.2 :=
  CP.of ⟨by decide +kernel, by decide +kernel⟩ (Nat.le_of_ble_eq_true rfl) fun X Q hq => s_J0_coder_7d493_0 hq h
/-! java/lang/String.length()I -/
theorem dJ0_length_8abf5_0 : decode cJ0_length_8abf5 0 = .ok (.aload_n 0, 1) := by decide +kernel
theorem dJ0_length_8abf5_1 : decode cJ0_length_8abf5 1 = .ok (.getfield 9, 3) := by decide +kernel
theorem dJ0_length_8abf5_4 : decode cJ0_length_8abf5 4 = .ok (.arraylength, 1) := by decide +kernel
theorem dJ0_length_8abf5_5 : decode cJ0_length_8abf5 5 = .ok (.aload_n 0, 1) := by decide +kernel
theorem dJ0_length_8abf5_6 : decode cJ0_length_8abf5 6 = .ok (.invokevirtual 335, 3) := by decide +kernel
theorem dJ0_length_8abf5_9 : decode cJ0_length_8abf5 9 = .ok (.ishr, 1) := by decide +kernel
theorem dJ0_length_8abf5_10 : decode cJ0_length_8abf5 10 = .ok (.ireturn, 1) := by decide +kernel
def f_J0_length_8abf5_0 (a0 : Nat) (M : zM) : Option (Int32 × zM) :=
  (hR 1 0 M a0).bind fun v1 =>
  (gL M v1).bind fun v2 =>
  if mK M a0 = 1 ∨ mK M a0 = 301 then
  (f_J0_coder_7d493 a0 M).bind fun r3 =>
  some ((v2 >>> (r3.1 &&& 31)), r3.2)
  else none
set_option maxRecDepth 20000 in
set_option maxHeartbeats 4000000 in
theorem s_J0_length_8abf5_0 {L : zL} {X : zX} {M0 : zM} {N : Nat × Nat} {Q : State → Prop} {r : Int32 × zM} (hq : vQ L X M0 N Q (some (.int r.1)) r.2) {a0 : Nat} {M : zM} (h : f_J0_length_8abf5_0 a0 M = some r) : V L X yJ0_length_8abf5 cJ0_length_8abf5 1 (some FieldType.int) 2 M0 N Q M 0 [(0, .ref (zad L (a0)))] [] := by
  unfold f_J0_length_8abf5_0 at h
  refine V_aload_n dJ0_length_8abf5_0 rfl 0 rfl ?_
  replace h := ob h
  obtain ⟨v1, e_v1, h⟩ := h
  refine V_getRx zf_1_0 zl_J0_9 (by decide) e_v1 dJ0_length_8abf5_1 ?_
  refine V_pc (pc' := 4) rfl ?_
  replace h := ob h
  obtain ⟨v2, e_v2, h⟩ := h
  refine V_alen e_v2 dJ0_length_8abf5_4 ?_
  refine V_pc (pc' := 5) rfl ?_
  refine V_aload_n dJ0_length_8abf5_5 rfl 0 rfl ?_
  replace h := ox h
  obtain ⟨c4, h⟩ := h
  replace h := ob h
  obtain ⟨r3, e_r3, h⟩ := h
  refine V_callV_I (As := []) (rest := [.int (v2)]) (c_J0_coder_7d493 e_r3) zc_J0_coder_7d493 rfl (by decide) rfl (by decide) (c4) zm_J0_335 (Nat.le_of_ble_eq_true rfl) rfl dJ0_length_8abf5_6 ?_
  refine V_pc (pc' := 9) rfl ?_
  refine V_ishr dJ0_length_8abf5_9 ?_
  obtain rfl := Option.some.inj h
  exact V_iret rfl hq dJ0_length_8abf5_10
def f_J0_length_8abf5 (a0 : Nat) (M : zM) : Option (Int32 × zM) := f_J0_length_8abf5_0 a0 M
theorem c_J0_length_8abf5 {L : zL} {l : Launch} {a0 : Nat} {M : zM} {r : Int32 × zM} (h : f_J0_length_8abf5 a0 M = some r) : CP L l yJ0_length_8abf5 cJ0_length_8abf5 1 (some FieldType.int) 2 M [.ref (zad L (a0))] (some (.int r.1)) r.2 :=
  CP.of ⟨by decide +kernel, by decide +kernel⟩ (Nat.le_of_ble_eq_true rfl) fun X Q hq => s_J0_length_8abf5_0 hq h
/-! jdk/internal/util/ArraysSupport.newLength(III)I -/
theorem dJ8_newLength_cabcc_0 : decode cJ8_newLength_cabcc 0 = .ok (.iload_n 0, 1) := by decide +kernel
theorem dJ8_newLength_cabcc_1 : decode cJ8_newLength_cabcc 1 = .ok (.iload_n 1, 1) := by decide +kernel
theorem dJ8_newLength_cabcc_2 : decode cJ8_newLength_cabcc 2 = .ok (.iload_n 2, 1) := by decide +kernel
theorem dJ8_newLength_cabcc_3 : decode cJ8_newLength_cabcc 3 = .ok (.invokestatic 194, 3) := by decide +kernel
theorem dJ8_newLength_cabcc_6 : decode cJ8_newLength_cabcc 6 = .ok (.iadd, 1) := by decide +kernel
theorem dJ8_newLength_cabcc_7 : decode cJ8_newLength_cabcc 7 = .ok (.istore_n 3, 1) := by decide +kernel
theorem dJ8_newLength_cabcc_8 : decode cJ8_newLength_cabcc 8 = .ok (.iconst 0, 1) := by decide +kernel
theorem dJ8_newLength_cabcc_9 : decode cJ8_newLength_cabcc 9 = .ok (.iload_n 3, 1) := by decide +kernel
theorem dJ8_newLength_cabcc_10 : decode cJ8_newLength_cabcc 10 = .ok (.if_icmp .ge 11, 3) := by decide +kernel
theorem dJ8_newLength_cabcc_13 : decode cJ8_newLength_cabcc 13 = .ok (.iload_n 3, 1) := by decide +kernel
theorem dJ8_newLength_cabcc_14 : decode cJ8_newLength_cabcc 14 = .ok (.ldc 200, 2) := by decide +kernel
theorem dJ8_newLength_cabcc_16 : decode cJ8_newLength_cabcc 16 = .ok (.if_icmp .gt 5, 3) := by decide +kernel
theorem dJ8_newLength_cabcc_19 : decode cJ8_newLength_cabcc 19 = .ok (.iload_n 3, 1) := by decide +kernel
theorem dJ8_newLength_cabcc_20 : decode cJ8_newLength_cabcc 20 = .ok (.ireturn, 1) := by decide +kernel
theorem dJ8_newLength_cabcc_21 : decode cJ8_newLength_cabcc 21 = .ok (.iload_n 0, 1) := by decide +kernel
theorem dJ8_newLength_cabcc_22 : decode cJ8_newLength_cabcc 22 = .ok (.iload_n 1, 1) := by decide +kernel
theorem dJ8_newLength_cabcc_23 : decode cJ8_newLength_cabcc 23 = .ok (.invokestatic 201, 3) := by decide +kernel
theorem dJ8_newLength_cabcc_26 : decode cJ8_newLength_cabcc 26 = .ok (.ireturn, 1) := by decide +kernel
def f_J8_newLength_cabcc_21 (i0 : Int32) (i1 : Int32) (M : zM) : Option (Int32 × zM) :=
  none
set_option maxRecDepth 20000 in
set_option maxHeartbeats 4000000 in
theorem s_J8_newLength_cabcc_21 {L : zL} {X : zX} {M0 : zM} {N : Nat × Nat} {Q : State → Prop} {r : Int32 × zM} (hq : vQ L X M0 N Q (some (.int r.1)) r.2) {i0 : Int32} {i1 : Int32} {M : zM} (h : f_J8_newLength_cabcc_21 i0 i1 M = some r) : V L X yJ8_newLength_cabcc cJ8_newLength_cabcc 4 (some FieldType.int) 2 M0 N Q M 21 [(0, .int (i0)), (1, .int (i1))] [] := by
  unfold f_J8_newLength_cabcc_21 at h
  refine V_iload_n dJ8_newLength_cabcc_21 rfl 0 rfl ?_
  refine V_iload_n dJ8_newLength_cabcc_22 rfl 1 rfl ?_
  cases h
def f_J8_newLength_cabcc_0 (i0 : Int32) (i1 : Int32) (i2 : Int32) (M : zM) : Option (Int32 × zM) :=
  (f_J9_max_7cf53 i1 i2 M).bind fun r1 =>
  if ((i0 + r1.1)) ≤ ((0 : Int32)) then
  f_J8_newLength_cabcc_21 i0 i1 r1.2
  else
  if ((2147483639 : Int32)) < ((i0 + r1.1)) then
  f_J8_newLength_cabcc_21 i0 i1 r1.2
  else
  some ((i0 + r1.1), r1.2)
set_option maxRecDepth 20000 in
set_option maxHeartbeats 4000000 in
theorem s_J8_newLength_cabcc_0 {L : zL} {X : zX} {M0 : zM} {N : Nat × Nat} {Q : State → Prop} {r : Int32 × zM} (hq : vQ L X M0 N Q (some (.int r.1)) r.2) {i0 : Int32} {i1 : Int32} {i2 : Int32} {M : zM} (h : f_J8_newLength_cabcc_0 i0 i1 i2 M = some r) : V L X yJ8_newLength_cabcc cJ8_newLength_cabcc 4 (some FieldType.int) 2 M0 N Q M 0 [(0, .int (i0)), (1, .int (i1)), (2, .int (i2))] [] := by
  unfold f_J8_newLength_cabcc_0 at h
  refine V_iload_n dJ8_newLength_cabcc_0 rfl 0 rfl ?_
  refine V_iload_n dJ8_newLength_cabcc_1 rfl 1 rfl ?_
  refine V_iload_n dJ8_newLength_cabcc_2 rfl 2 rfl ?_
  replace h := ob h
  obtain ⟨r1, e_r1, h⟩ := h
  refine V_callS_I (As := [.int (i1), .int (i2)]) (rest := [.int (i0)]) (c_J9_max_7cf53 e_r1) zc_J9_max_7cf53 rfl (by decide) zm_J8_194 (Nat.le_of_ble_eq_true rfl) rfl dJ8_newLength_cabcc_3 ?_
  refine V_pc (pc' := 6) rfl ?_
  refine V_iadd dJ8_newLength_cabcc_6 ?_
  refine V_istore_n (ls' := [(3, .int ((i0 + r1.1))), (0, .int (i0)), (1, .int (i1)), (2, .int (i2))]) dJ8_newLength_cabcc_7 rfl (by decide) rfl ?_
  refine V_iconst (v := 0) dJ8_newLength_cabcc_8 (by decide) ?_
  refine V_iload_n dJ8_newLength_cabcc_9 rfl 0 rfl ?_
  refine V_icmp_ge (tgt := 21) dJ8_newLength_cabcc_10 (by decide) (fun c3 => ?_) (fun c3 => ?_)
  · replace h := (oi h).1 c3
    refine V_sub [1, 2] rfl ?_
    exact s_J8_newLength_cabcc_21 hq h
  · replace h := (oi h).2 c3
    refine V_iload_n dJ8_newLength_cabcc_13 rfl 0 rfl ?_
    refine V_ldc zcn_J8_200 dJ8_newLength_cabcc_14 ?_
    refine V_icmp_gt (tgt := 21) dJ8_newLength_cabcc_16 (by decide) (fun c2 => ?_) (fun c2 => ?_)
    · replace h := (oi h).1 c2
      refine V_sub [1, 2] rfl ?_
      exact s_J8_newLength_cabcc_21 hq h
    · replace h := (oi h).2 c2
      refine V_iload_n dJ8_newLength_cabcc_19 rfl 0 rfl ?_
      obtain rfl := Option.some.inj h
      exact V_iret rfl hq dJ8_newLength_cabcc_20
def f_J8_newLength_cabcc (i0 : Int32) (i1 : Int32) (i2 : Int32) (M : zM) : Option (Int32 × zM) := f_J8_newLength_cabcc_0 i0 i1 i2 M
theorem c_J8_newLength_cabcc {L : zL} {l : Launch} {i0 : Int32} {i1 : Int32} {i2 : Int32} {M : zM} {r : Int32 × zM} (h : f_J8_newLength_cabcc i0 i1 i2 M = some r) : CP L l yJ8_newLength_cabcc cJ8_newLength_cabcc 4 (some FieldType.int) 2 M [.int (i0), .int (i1), .int (i2)] (some (.int r.1)) r.2 :=
  CP.of ⟨by decide +kernel, by decide +kernel⟩ (Nat.le_of_ble_eq_true rfl) fun X Q hq => s_J8_newLength_cabcc_0 hq h
/-! java/lang/AbstractStringBuilder.newCapacity(I)I -/
theorem dJ5_newCapacity_0f7a4_0 : decode cJ5_newCapacity_0f7a4 0 = .ok (.aload_n 0, 1) := by decide +kernel
theorem dJ5_newCapacity_0f7a4_1 : decode cJ5_newCapacity_0f7a4 1 = .ok (.getfield 15, 3) := by decide +kernel
theorem dJ5_newCapacity_0f7a4_4 : decode cJ5_newCapacity_0f7a4 4 = .ok (.arraylength, 1) := by decide +kernel
theorem dJ5_newCapacity_0f7a4_5 : decode cJ5_newCapacity_0f7a4 5 = .ok (.istore_n 2, 1) := by decide +kernel
theorem dJ5_newCapacity_0f7a4_6 : decode cJ5_newCapacity_0f7a4 6 = .ok (.iload_n 1, 1) := by decide +kernel
theorem dJ5_newCapacity_0f7a4_7 : decode cJ5_newCapacity_0f7a4 7 = .ok (.aload_n 0, 1) := by decide +kernel
theorem dJ5_newCapacity_0f7a4_8 : decode cJ5_newCapacity_0f7a4 8 = .ok (.getfield 22, 3) := by decide +kernel
theorem dJ5_newCapacity_0f7a4_11 : decode cJ5_newCapacity_0f7a4 11 = .ok (.ishl, 1) := by decide +kernel
theorem dJ5_newCapacity_0f7a4_12 : decode cJ5_newCapacity_0f7a4 12 = .ok (.istore_n 3, 1) := by decide +kernel
theorem dJ5_newCapacity_0f7a4_13 : decode cJ5_newCapacity_0f7a4 13 = .ok (.iload_n 3, 1) := by decide +kernel
theorem dJ5_newCapacity_0f7a4_14 : decode cJ5_newCapacity_0f7a4 14 = .ok (.iload_n 2, 1) := by decide +kernel
theorem dJ5_newCapacity_0f7a4_15 : decode cJ5_newCapacity_0f7a4 15 = .ok (.isub, 1) := by decide +kernel
theorem dJ5_newCapacity_0f7a4_16 : decode cJ5_newCapacity_0f7a4 16 = .ok (.istore 4, 2) := by decide +kernel
theorem dJ5_newCapacity_0f7a4_18 : decode cJ5_newCapacity_0f7a4 18 = .ok (.iload_n 2, 1) := by decide +kernel
theorem dJ5_newCapacity_0f7a4_19 : decode cJ5_newCapacity_0f7a4 19 = .ok (.iload 4, 2) := by decide +kernel
theorem dJ5_newCapacity_0f7a4_21 : decode cJ5_newCapacity_0f7a4 21 = .ok (.iload_n 2, 1) := by decide +kernel
theorem dJ5_newCapacity_0f7a4_22 : decode cJ5_newCapacity_0f7a4 22 = .ok (.iconst 2, 1) := by decide +kernel
theorem dJ5_newCapacity_0f7a4_23 : decode cJ5_newCapacity_0f7a4 23 = .ok (.aload_n 0, 1) := by decide +kernel
theorem dJ5_newCapacity_0f7a4_24 : decode cJ5_newCapacity_0f7a4 24 = .ok (.getfield 22, 3) := by decide +kernel
theorem dJ5_newCapacity_0f7a4_27 : decode cJ5_newCapacity_0f7a4 27 = .ok (.ishl, 1) := by decide +kernel
theorem dJ5_newCapacity_0f7a4_28 : decode cJ5_newCapacity_0f7a4 28 = .ok (.iadd, 1) := by decide +kernel
theorem dJ5_newCapacity_0f7a4_29 : decode cJ5_newCapacity_0f7a4 29 = .ok (.invokestatic 114, 3) := by decide +kernel
theorem dJ5_newCapacity_0f7a4_32 : decode cJ5_newCapacity_0f7a4 32 = .ok (.istore 5, 2) := by decide +kernel
theorem dJ5_newCapacity_0f7a4_34 : decode cJ5_newCapacity_0f7a4 34 = .ok (.iload 5, 2) := by decide +kernel
theorem dJ5_newCapacity_0f7a4_36 : decode cJ5_newCapacity_0f7a4 36 = .ok (.ldc 39, 2) := by decide +kernel
theorem dJ5_newCapacity_0f7a4_38 : decode cJ5_newCapacity_0f7a4 38 = .ok (.if_icmp .ne 13, 3) := by decide +kernel
theorem dJ5_newCapacity_0f7a4_41 : decode cJ5_newCapacity_0f7a4 41 = .ok (.new 120, 3) := by decide +kernel
theorem dJ5_newCapacity_0f7a4_44 : decode cJ5_newCapacity_0f7a4 44 = .ok (.dup, 1) := by decide +kernel
theorem dJ5_newCapacity_0f7a4_45 : decode cJ5_newCapacity_0f7a4 45 = .ok (.ldc 122, 2) := by decide +kernel
theorem dJ5_newCapacity_0f7a4_47 : decode cJ5_newCapacity_0f7a4 47 = .ok (.invokespecial 124, 3) := by decide +kernel
theorem dJ5_newCapacity_0f7a4_50 : decode cJ5_newCapacity_0f7a4 50 = .ok (.athrow, 1) := by decide +kernel
theorem dJ5_newCapacity_0f7a4_51 : decode cJ5_newCapacity_0f7a4 51 = .ok (.iload 5, 2) := by decide +kernel
theorem dJ5_newCapacity_0f7a4_53 : decode cJ5_newCapacity_0f7a4 53 = .ok (.aload_n 0, 1) := by decide +kernel
theorem dJ5_newCapacity_0f7a4_54 : decode cJ5_newCapacity_0f7a4 54 = .ok (.getfield 22, 3) := by decide +kernel
theorem dJ5_newCapacity_0f7a4_57 : decode cJ5_newCapacity_0f7a4 57 = .ok (.ishr, 1) := by decide +kernel
theorem dJ5_newCapacity_0f7a4_58 : decode cJ5_newCapacity_0f7a4 58 = .ok (.ireturn, 1) := by decide +kernel
def f_J5_newCapacity_0f7a4_0 (a0 : Nat) (i1 : Int32) (M : zM) : Option (Int32 × zM) :=
  (gR 2 0 M a0).bind fun v1 =>
  (gL M v1).bind fun v2 =>
  (gI 2 1 M a0).bind fun v3 =>
  (gI 2 1 M a0).bind fun v4 =>
  (f_J8_newLength_cabcc v2 ((((i1 <<< (v3 &&& 31))) - v2)) ((v2 + ((((2 : Int32)) <<< (v4 &&& 31))))) M).bind fun r5 =>
  if r5.1 = ((2147483647 : Int32)) then
  none
  else
  (gI 2 1 r5.2 a0).bind fun v6 =>
  some ((r5.1 >>> (v6 &&& 31)), r5.2)
set_option maxRecDepth 20000 in
set_option maxHeartbeats 4000000 in
theorem s_J5_newCapacity_0f7a4_0 {L : zL} {X : zX} {M0 : zM} {N : Nat × Nat} {Q : State → Prop} {r : Int32 × zM} (hq : vQ L X M0 N Q (some (.int r.1)) r.2) {a0 : Nat} {i1 : Int32} {M : zM} (h : f_J5_newCapacity_0f7a4_0 a0 i1 M = some r) : V L X yJ5_newCapacity_0f7a4 cJ5_newCapacity_0f7a4 6 (some FieldType.int) 3 M0 N Q M 0 [(0, .ref (zad L (a0))), (1, .int (i1))] [] := by
  unfold f_J5_newCapacity_0f7a4_0 at h
  refine V_aload_n dJ5_newCapacity_0f7a4_0 rfl 0 rfl ?_
  replace h := ob h
  obtain ⟨v1, e_v1, h⟩ := h
  refine V_getR zf_2_0 zl_J5_15 e_v1 dJ5_newCapacity_0f7a4_1 ?_
  refine V_pc (pc' := 4) rfl ?_
  replace h := ob h
  obtain ⟨v2, e_v2, h⟩ := h
  refine V_alen e_v2 dJ5_newCapacity_0f7a4_4 ?_
  refine V_pc (pc' := 5) rfl ?_
  refine V_istore_n (ls' := [(2, .int (v2)), (0, .ref (zad L (a0))), (1, .int (i1))]) dJ5_newCapacity_0f7a4_5 rfl (by decide) rfl ?_
  refine V_iload_n dJ5_newCapacity_0f7a4_6 rfl 2 rfl ?_
  refine V_aload_n dJ5_newCapacity_0f7a4_7 rfl 1 rfl ?_
  replace h := ob h
  obtain ⟨v3, e_v3, h⟩ := h
  refine V_getI zf_2_1 zl_J5_22 e_v3 dJ5_newCapacity_0f7a4_8 ?_
  refine V_pc (pc' := 11) rfl ?_
  refine V_ishl dJ5_newCapacity_0f7a4_11 ?_
  refine V_istore_n (ls' := [(3, .int ((i1 <<< (v3 &&& 31)))), (2, .int (v2)), (0, .ref (zad L (a0))), (1, .int (i1))]) dJ5_newCapacity_0f7a4_12 rfl (by decide) rfl ?_
  refine V_iload_n dJ5_newCapacity_0f7a4_13 rfl 0 rfl ?_
  refine V_iload_n dJ5_newCapacity_0f7a4_14 rfl 1 rfl ?_
  refine V_isub dJ5_newCapacity_0f7a4_15 ?_
  refine V_istore (ls' := [(4, .int ((((i1 <<< (v3 &&& 31))) - v2))), (3, .int ((i1 <<< (v3 &&& 31)))), (2, .int (v2)), (0, .ref (zad L (a0))), (1, .int (i1))]) dJ5_newCapacity_0f7a4_16 (by decide) rfl ?_
  refine V_iload_n dJ5_newCapacity_0f7a4_18 rfl 2 rfl ?_
  refine V_iload dJ5_newCapacity_0f7a4_19 0 rfl ?_
  refine V_iload_n dJ5_newCapacity_0f7a4_21 rfl 2 rfl ?_
  refine V_iconst (v := 2) dJ5_newCapacity_0f7a4_22 (by decide) ?_
  refine V_aload_n dJ5_newCapacity_0f7a4_23 rfl 3 rfl ?_
  replace h := ob h
  obtain ⟨v4, e_v4, h⟩ := h
  refine V_getI zf_2_1 zl_J5_22 e_v4 dJ5_newCapacity_0f7a4_24 ?_
  refine V_pc (pc' := 27) rfl ?_
  refine V_ishl dJ5_newCapacity_0f7a4_27 ?_
  refine V_iadd dJ5_newCapacity_0f7a4_28 ?_
  replace h := ob h
  obtain ⟨r5, e_r5, h⟩ := h
  refine V_callS_I (As := [.int (v2), .int ((((i1 <<< (v3 &&& 31))) - v2)), .int ((v2 + ((((2 : Int32)) <<< (v4 &&& 31)))))]) (rest := []) (c_J8_newLength_cabcc e_r5) zc_J8_newLength_cabcc rfl (by decide) zm_J5_114 (Nat.le_of_ble_eq_true rfl) rfl dJ5_newCapacity_0f7a4_29 ?_
  refine V_pc (pc' := 32) rfl ?_
  refine V_istore (ls' := [(5, .int (r5.1)), (4, .int ((((i1 <<< (v3 &&& 31))) - v2))), (3, .int ((i1 <<< (v3 &&& 31)))), (2, .int (v2)), (0, .ref (zad L (a0))), (1, .int (i1))]) dJ5_newCapacity_0f7a4_32 (by decide) rfl ?_
  refine V_iload dJ5_newCapacity_0f7a4_34 0 rfl ?_
  refine V_ldc zcn_J5_39 dJ5_newCapacity_0f7a4_36 ?_
  refine V_icmp_ne (tgt := 51) dJ5_newCapacity_0f7a4_38 (by decide) (fun c7 => ?_) (fun c7 => ?_)
  · replace h := (oi h).2 c7
    refine V_iload dJ5_newCapacity_0f7a4_51 0 rfl ?_
    refine V_aload_n dJ5_newCapacity_0f7a4_53 rfl 4 rfl ?_
    replace h := ob h
    obtain ⟨v6, e_v6, h⟩ := h
    refine V_getI zf_2_1 zl_J5_22 e_v6 dJ5_newCapacity_0f7a4_54 ?_
    refine V_pc (pc' := 57) rfl ?_
    refine V_ishr dJ5_newCapacity_0f7a4_57 ?_
    obtain rfl := Option.some.inj h
    exact V_iret rfl hq dJ5_newCapacity_0f7a4_58
  · replace h := (oi h).1 c7
    cases h
def f_J5_newCapacity_0f7a4 (a0 : Nat) (i1 : Int32) (M : zM) : Option (Int32 × zM) := f_J5_newCapacity_0f7a4_0 a0 i1 M
theorem c_J5_newCapacity_0f7a4 {L : zL} {l : Launch} {a0 : Nat} {i1 : Int32} {M : zM} {r : Int32 × zM} (h : f_J5_newCapacity_0f7a4 a0 i1 M = some r) : CP L l yJ5_newCapacity_0f7a4 cJ5_newCapacity_0f7a4 6 (some FieldType.int) 3 M [.ref (zad L (a0)), .int (i1)] (some (.int r.1)) r.2 :=
  CP.of ⟨by decide +kernel, by decide +kernel⟩ (Nat.le_of_ble_eq_true rfl) fun X Q hq => s_J5_newCapacity_0f7a4_0 hq h
/-! java/util/Arrays.copyOf([BI)[B -/
theorem dJ7_copyOf_9075b_0 : decode cJ7_copyOf_9075b 0 = .ok (.iload_n 1, 1) := by decide +kernel
theorem dJ7_copyOf_9075b_1 : decode cJ7_copyOf_9075b 1 = .ok (.aload_n 0, 1) := by decide +kernel
theorem dJ7_copyOf_9075b_2 : decode cJ7_copyOf_9075b 2 = .ok (.arraylength, 1) := by decide +kernel
theorem dJ7_copyOf_9075b_3 : decode cJ7_copyOf_9075b 3 = .ok (.if_icmp .ne 11, 3) := by decide +kernel
theorem dJ7_copyOf_9075b_6 : decode cJ7_copyOf_9075b 6 = .ok (.aload_n 0, 1) := by decide +kernel
theorem dJ7_copyOf_9075b_7 : decode cJ7_copyOf_9075b 7 = .ok (.invokevirtual 310, 3) := by decide +kernel
theorem dJ7_copyOf_9075b_10 : decode cJ7_copyOf_9075b 10 = .ok (.checkcast 311, 3) := by decide +kernel
theorem dJ7_copyOf_9075b_13 : decode cJ7_copyOf_9075b 13 = .ok (.areturn, 1) := by decide +kernel
theorem dJ7_copyOf_9075b_14 : decode cJ7_copyOf_9075b 14 = .ok (.iload_n 1, 1) := by decide +kernel
theorem dJ7_copyOf_9075b_15 : decode cJ7_copyOf_9075b 15 = .ok (.newarray .byte, 2) := by decide +kernel
theorem dJ7_copyOf_9075b_17 : decode cJ7_copyOf_9075b 17 = .ok (.astore_n 2, 1) := by decide +kernel
theorem dJ7_copyOf_9075b_18 : decode cJ7_copyOf_9075b 18 = .ok (.aload_n 0, 1) := by decide +kernel
theorem dJ7_copyOf_9075b_19 : decode cJ7_copyOf_9075b 19 = .ok (.iconst 0, 1) := by decide +kernel
theorem dJ7_copyOf_9075b_20 : decode cJ7_copyOf_9075b 20 = .ok (.aload_n 2, 1) := by decide +kernel
theorem dJ7_copyOf_9075b_21 : decode cJ7_copyOf_9075b 21 = .ok (.iconst 0, 1) := by decide +kernel
theorem dJ7_copyOf_9075b_22 : decode cJ7_copyOf_9075b 22 = .ok (.aload_n 0, 1) := by decide +kernel
theorem dJ7_copyOf_9075b_23 : decode cJ7_copyOf_9075b 23 = .ok (.arraylength, 1) := by decide +kernel
theorem dJ7_copyOf_9075b_24 : decode cJ7_copyOf_9075b 24 = .ok (.iload_n 1, 1) := by decide +kernel
theorem dJ7_copyOf_9075b_25 : decode cJ7_copyOf_9075b 25 = .ok (.invokestatic 304, 3) := by decide +kernel
theorem dJ7_copyOf_9075b_28 : decode cJ7_copyOf_9075b 28 = .ok (.invokestatic 150, 3) := by decide +kernel
theorem dJ7_copyOf_9075b_31 : decode cJ7_copyOf_9075b 31 = .ok (.aload_n 2, 1) := by decide +kernel
theorem dJ7_copyOf_9075b_32 : decode cJ7_copyOf_9075b 32 = .ok (.areturn, 1) := by decide +kernel
def f_J7_copyOf_9075b_0 (a0 : Nat) (i1 : Int32) (M : zM) : Option (Nat × zM) :=
  (gL M a0).bind fun v1 =>
  if i1 = v1 then
  (aC M a0).bind fun r6 =>
  if mK r6.2 r6.1 = 101 then
  some (r6.1, r6.2)
  else none
  else
  (aA 1 M i1).bind fun r2 =>
  (gL r2.2 a0).bind fun v3 =>
  (f_J9_min_7cf53 v3 i1 r2.2).bind fun r4 =>
  (yI 1 r4.2 a0 ((0 : Int32)) r2.1 ((0 : Int32)) r4.1).bind fun M5 =>
  some (r2.1, M5)
set_option maxRecDepth 20000 in
set_option maxHeartbeats 4000000 in
theorem s_J7_copyOf_9075b_0 {L : zL} {X : zX} {M0 : zM} {N : Nat × Nat} {Q : State → Prop} {r : Nat × zM} (hq : vQ L X M0 N Q (some (.ref (zad L r.1))) r.2) {a0 : Nat} {i1 : Int32} {M : zM} (h : f_J7_copyOf_9075b_0 a0 i1 M = some r) : V L X yJ7_copyOf_9075b cJ7_copyOf_9075b 3 (Option.some (FieldType.array FieldType.byte)) 2 M0 N Q M 0 [(0, .ref (zad L (a0))), (1, .int (i1))] [] := by
  unfold f_J7_copyOf_9075b_0 at h
  refine V_iload_n dJ7_copyOf_9075b_0 rfl 1 rfl ?_
  refine V_aload_n dJ7_copyOf_9075b_1 rfl 0 rfl ?_
  replace h := ob h
  obtain ⟨v1, e_v1, h⟩ := h
  refine V_alen e_v1 dJ7_copyOf_9075b_2 ?_
  refine V_pc (pc' := 3) rfl ?_
  refine V_icmp_ne (tgt := 14) dJ7_copyOf_9075b_3 (by decide) (fun c8 => ?_) (fun c8 => ?_)
  · replace h := (oi h).2 c8
    refine V_iload_n dJ7_copyOf_9075b_14 rfl 1 rfl ?_
    replace h := ob h
    obtain ⟨r2, e_r2, h⟩ := h
    refine V_newa (t := 1) (by decide) rfl zna_1 e_r2 dJ7_copyOf_9075b_15 ?_
    refine V_pc (pc' := 17) rfl ?_
    refine V_astore_n (ls' := [(2, .ref (zad L (r2.1))), (0, .ref (zad L (a0))), (1, .int (i1))]) dJ7_copyOf_9075b_17 rfl (by decide) rfl ?_
    refine V_aload_n dJ7_copyOf_9075b_18 rfl 1 rfl ?_
    refine V_iconst (v := 0) dJ7_copyOf_9075b_19 (by decide) ?_
    refine V_aload_n dJ7_copyOf_9075b_20 rfl 0 rfl ?_
    refine V_iconst (v := 0) dJ7_copyOf_9075b_21 (by decide) ?_
    refine V_aload_n dJ7_copyOf_9075b_22 rfl 1 rfl ?_
    replace h := ob h
    obtain ⟨v3, e_v3, h⟩ := h
    refine V_alen e_v3 dJ7_copyOf_9075b_23 ?_
    refine V_pc (pc' := 24) rfl ?_
    refine V_iload_n dJ7_copyOf_9075b_24 rfl 2 rfl ?_
    replace h := ob h
    obtain ⟨r4, e_r4, h⟩ := h
    refine V_callS_I (As := [.int (v3), .int (i1)]) (rest := [.int ((0 : Int32)), .ref (zad L (r2.1)), .int ((0 : Int32)), .ref (zad L (a0))]) (c_J9_min_7cf53 e_r4) zc_J9_min_7cf53 rfl (by decide) zm_J7_304 (Nat.le_of_ble_eq_true rfl) rfl dJ7_copyOf_9075b_25 ?_
    refine V_pc (pc' := 28) rfl ?_
    replace h := ob h
    obtain ⟨M5, e_M5, h⟩ := h
    refine V_copyI (t := 1) (by decide) e_M5 zac_J7_150 (by decide) (Nat.le_of_ble_eq_true rfl) dJ7_copyOf_9075b_28 ?_
    refine V_aload_n dJ7_copyOf_9075b_31 rfl 0 rfl ?_
    obtain rfl := Option.some.inj h
    exact V_aret rfl (by first | exact Or.inl ⟨_, rfl⟩ | exact Or.inr ⟨_, rfl⟩) hq dJ7_copyOf_9075b_32
  · replace h := (oi h).1 c8
    refine V_aload_n dJ7_copyOf_9075b_6 rfl 0 rfl ?_
    replace h := ob h
    obtain ⟨r6, e_r6, h⟩ := h
    refine V_cloneB e_r6 zclw_J7_310 (by decide) (Nat.le_of_ble_eq_true rfl) dJ7_copyOf_9075b_7 ?_
    replace h := ox h
    obtain ⟨c7, h⟩ := h
    refine V_castB c7 zk_J7_311 dJ7_copyOf_9075b_10 ?_
    obtain rfl := Option.some.inj h
    exact V_aret rfl (by first | exact Or.inl ⟨_, rfl⟩ | exact Or.inr ⟨_, rfl⟩) hq dJ7_copyOf_9075b_13
def f_J7_copyOf_9075b (a0 : Nat) (i1 : Int32) (M : zM) : Option (Nat × zM) := f_J7_copyOf_9075b_0 a0 i1 M
theorem c_J7_copyOf_9075b {L : zL} {l : Launch} {a0 : Nat} {i1 : Int32} {M : zM} {r : Nat × zM} (h : f_J7_copyOf_9075b a0 i1 M = some r) : CP L l yJ7_copyOf_9075b cJ7_copyOf_9075b 3 (Option.some (FieldType.array FieldType.byte)) 2 M [.ref (zad L (a0)), .int (i1)] (some (.ref (zad L r.1))) r.2 :=
  CP.of ⟨by decide +kernel, by decide +kernel⟩ (Nat.le_of_ble_eq_true rfl) fun X Q hq => s_J7_copyOf_9075b_0 hq h
/-! java/lang/AbstractStringBuilder.ensureCapacityInternal(I)V -/
theorem dJ5_ensureCapacityInternal_d00df_0 : decode cJ5_ensureCapacityInternal_d00df 0 = .ok (.aload_n 0, 1) := by decide +kernel
theorem dJ5_ensureCapacityInternal_d00df_1 : decode cJ5_ensureCapacityInternal_d00df 1 = .ok (.getfield 15, 3) := by decide +kernel
theorem dJ5_ensureCapacityInternal_d00df_4 : decode cJ5_ensureCapacityInternal_d00df 4 = .ok (.arraylength, 1) := by decide +kernel
theorem dJ5_ensureCapacityInternal_d00df_5 : decode cJ5_ensureCapacityInternal_d00df 5 = .ok (.aload_n 0, 1) := by decide +kernel
theorem dJ5_ensureCapacityInternal_d00df_6 : decode cJ5_ensureCapacityInternal_d00df 6 = .ok (.getfield 22, 3) := by decide +kernel
theorem dJ5_ensureCapacityInternal_d00df_9 : decode cJ5_ensureCapacityInternal_d00df 9 = .ok (.ishr, 1) := by decide +kernel
theorem dJ5_ensureCapacityInternal_d00df_10 : decode cJ5_ensureCapacityInternal_d00df 10 = .ok (.istore_n 2, 1) := by decide +kernel
theorem dJ5_ensureCapacityInternal_d00df_11 : decode cJ5_ensureCapacityInternal_d00df 11 = .ok (.iload_n 1, 1) := by decide +kernel
theorem dJ5_ensureCapacityInternal_d00df_12 : decode cJ5_ensureCapacityInternal_d00df 12 = .ok (.iload_n 2, 1) := by decide +kernel
theorem dJ5_ensureCapacityInternal_d00df_13 : decode cJ5_ensureCapacityInternal_d00df 13 = .ok (.isub, 1) := by decide +kernel
theorem dJ5_ensureCapacityInternal_d00df_14 : decode cJ5_ensureCapacityInternal_d00df 14 = .ok (.ifCond .le 24, 3) := by decide +kernel
theorem dJ5_ensureCapacityInternal_d00df_17 : decode cJ5_ensureCapacityInternal_d00df 17 = .ok (.aload_n 0, 1) := by decide +kernel
theorem dJ5_ensureCapacityInternal_d00df_18 : decode cJ5_ensureCapacityInternal_d00df 18 = .ok (.aload_n 0, 1) := by decide +kernel
theorem dJ5_ensureCapacityInternal_d00df_19 : decode cJ5_ensureCapacityInternal_d00df 19 = .ok (.getfield 15, 3) := by decide +kernel
theorem dJ5_ensureCapacityInternal_d00df_22 : decode cJ5_ensureCapacityInternal_d00df 22 = .ok (.aload_n 0, 1) := by decide +kernel
theorem dJ5_ensureCapacityInternal_d00df_23 : decode cJ5_ensureCapacityInternal_d00df 23 = .ok (.iload_n 1, 1) := by decide +kernel
theorem dJ5_ensureCapacityInternal_d00df_24 : decode cJ5_ensureCapacityInternal_d00df 24 = .ok (.invokevirtual 104, 3) := by decide +kernel
theorem dJ5_ensureCapacityInternal_d00df_27 : decode cJ5_ensureCapacityInternal_d00df 27 = .ok (.aload_n 0, 1) := by decide +kernel
theorem dJ5_ensureCapacityInternal_d00df_28 : decode cJ5_ensureCapacityInternal_d00df 28 = .ok (.getfield 22, 3) := by decide +kernel
theorem dJ5_ensureCapacityInternal_d00df_31 : decode cJ5_ensureCapacityInternal_d00df 31 = .ok (.ishl, 1) := by decide +kernel
theorem dJ5_ensureCapacityInternal_d00df_32 : decode cJ5_ensureCapacityInternal_d00df 32 = .ok (.invokestatic 108, 3) := by decide +kernel
theorem dJ5_ensureCapacityInternal_d00df_35 : decode cJ5_ensureCapacityInternal_d00df 35 = .ok (.putfield 15, 3) := by decide +kernel
theorem dJ5_ensureCapacityInternal_d00df_38 : decode cJ5_ensureCapacityInternal_d00df 38 = .ok (.return_, 1) := by decide +kernel
def f_J5_ensureCapacityInternal_d00df_0 (a0 : Nat) (i1 : Int32) (M : zM) : Option (Unit × zM) :=
  (gR 2 0 M a0).bind fun v1 =>
  (gL M v1).bind fun v2 =>
  (gI 2 1 M a0).bind fun v3 =>
  if ((i1 - ((v2 >>> (v3 &&& 31))))) ≤ 0 then
  some ((), M)
  else
  (gR 2 0 M a0).bind fun v4 =>
  if mK M a0 = 2 then
  (f_J5_newCapacity_0f7a4 a0 i1 M).bind fun r5 =>
  (gI 2 1 r5.2 a0).bind fun v7 =>
  (f_J7_copyOf_9075b v4 ((r5.1 <<< (v7 &&& 31))) r5.2).bind fun r8 =>
  (pR 2 0 r8.2 a0 r8.1).bind fun M9 =>
  some ((), M9)
  else none
set_option maxRecDepth 20000 in
set_option maxHeartbeats 4000000 in
theorem s_J5_ensureCapacityInternal_d00df_0 {L : zL} {X : zX} {M0 : zM} {N : Nat × Nat} {Q : State → Prop} {r : Unit × zM} (hq : vQ L X M0 N Q none r.2) {a0 : Nat} {i1 : Int32} {M : zM} (h : f_J5_ensureCapacityInternal_d00df_0 a0 i1 M = some r) : V L X yJ5_ensureCapacityInternal_d00df cJ5_ensureCapacityInternal_d00df 3 (none : Option FieldType) 4 M0 N Q M 0 [(0, .ref (zad L (a0))), (1, .int (i1))] [] := by
  unfold f_J5_ensureCapacityInternal_d00df_0 at h
  refine V_aload_n dJ5_ensureCapacityInternal_d00df_0 rfl 0 rfl ?_
  replace h := ob h
  obtain ⟨v1, e_v1, h⟩ := h
  refine V_getR zf_2_0 zl_J5_15 e_v1 dJ5_ensureCapacityInternal_d00df_1 ?_
  refine V_pc (pc' := 4) rfl ?_
  replace h := ob h
  obtain ⟨v2, e_v2, h⟩ := h
  refine V_alen e_v2 dJ5_ensureCapacityInternal_d00df_4 ?_
  refine V_pc (pc' := 5) rfl ?_
  refine V_aload_n dJ5_ensureCapacityInternal_d00df_5 rfl 0 rfl ?_
  replace h := ob h
  obtain ⟨v3, e_v3, h⟩ := h
  refine V_getI zf_2_1 zl_J5_22 e_v3 dJ5_ensureCapacityInternal_d00df_6 ?_
  refine V_pc (pc' := 9) rfl ?_
  refine V_ishr dJ5_ensureCapacityInternal_d00df_9 ?_
  refine V_istore_n (ls' := [(2, .int ((v2 >>> (v3 &&& 31)))), (0, .ref (zad L (a0))), (1, .int (i1))]) dJ5_ensureCapacityInternal_d00df_10 rfl (by decide) rfl ?_
  refine V_iload_n dJ5_ensureCapacityInternal_d00df_11 rfl 2 rfl ?_
  refine V_iload_n dJ5_ensureCapacityInternal_d00df_12 rfl 0 rfl ?_
  refine V_isub dJ5_ensureCapacityInternal_d00df_13 ?_
  refine V_if_le (tgt := 38) dJ5_ensureCapacityInternal_d00df_14 (by decide) (fun c10 => ?_) (fun c10 => ?_)
  · replace h := (oi h).1 c10
    obtain rfl := Option.some.inj h
    exact V_vret rfl hq dJ5_ensureCapacityInternal_d00df_38
  · replace h := (oi h).2 c10
    refine V_aload_n dJ5_ensureCapacityInternal_d00df_17 rfl 1 rfl ?_
    refine V_aload_n dJ5_ensureCapacityInternal_d00df_18 rfl 1 rfl ?_
    replace h := ob h
    obtain ⟨v4, e_v4, h⟩ := h
    refine V_getR zf_2_0 zl_J5_15 e_v4 dJ5_ensureCapacityInternal_d00df_19 ?_
    refine V_pc (pc' := 22) rfl ?_
    refine V_aload_n dJ5_ensureCapacityInternal_d00df_22 rfl 1 rfl ?_
    refine V_iload_n dJ5_ensureCapacityInternal_d00df_23 rfl 2 rfl ?_
    replace h := ox h
    obtain ⟨c6, h⟩ := h
    replace h := ob h
    obtain ⟨r5, e_r5, h⟩ := h
    refine V_callV_I (As := [.int (i1)]) (rest := [.ref (zad L (v4)), .ref (zad L (a0))]) (c_J5_newCapacity_0f7a4 e_r5) zc_J5_newCapacity_0f7a4 rfl (by decide) rfl (by decide) (Or.inl c6) zm_J5_104 (Nat.le_of_ble_eq_true rfl) rfl dJ5_ensureCapacityInternal_d00df_24 ?_
    refine V_pc (pc' := 27) rfl ?_
    refine V_aload_n dJ5_ensureCapacityInternal_d00df_27 rfl 1 rfl ?_
    replace h := ob h
    obtain ⟨v7, e_v7, h⟩ := h
    refine V_getI zf_2_1 zl_J5_22 e_v7 dJ5_ensureCapacityInternal_d00df_28 ?_
    refine V_pc (pc' := 31) rfl ?_
    refine V_ishl dJ5_ensureCapacityInternal_d00df_31 ?_
    replace h := ob h
    obtain ⟨r8, e_r8, h⟩ := h
    refine V_callS_A (As := [.ref (zad L (v4)), .int ((r5.1 <<< (v7 &&& 31)))]) (rest := [.ref (zad L (a0))]) (c_J7_copyOf_9075b e_r8) zc_J7_copyOf_9075b rfl (by decide) zm_J5_108 (Nat.le_of_ble_eq_true rfl) rfl dJ5_ensureCapacityInternal_d00df_32 ?_
    refine V_pc (pc' := 35) rfl ?_
    replace h := ob h
    obtain ⟨M9, e_M9, h⟩ := h
    refine V_putR zf_2_0 zl_J5_15 (Or.inl rfl) rfl e_M9 dJ5_ensureCapacityInternal_d00df_35 ?_
    refine V_pc (pc' := 38) rfl ?_
    obtain rfl := Option.some.inj h
    exact V_vret rfl hq dJ5_ensureCapacityInternal_d00df_38
def f_J5_ensureCapacityInternal_d00df (a0 : Nat) (i1 : Int32) (M : zM) : Option (Unit × zM) := f_J5_ensureCapacityInternal_d00df_0 a0 i1 M
theorem c_J5_ensureCapacityInternal_d00df {L : zL} {l : Launch} {a0 : Nat} {i1 : Int32} {M : zM} {r : Unit × zM} (h : f_J5_ensureCapacityInternal_d00df a0 i1 M = some r) : CP L l yJ5_ensureCapacityInternal_d00df cJ5_ensureCapacityInternal_d00df 3 (none : Option FieldType) 4 M [.ref (zad L (a0)), .int (i1)] none r.2 :=
  CP.of ⟨by decide +kernel, by decide +kernel⟩ (Nat.le_of_ble_eq_true rfl) fun X Q hq => s_J5_ensureCapacityInternal_d00df_0 hq h
/-! java/lang/String.getBytes([BIB)V -/
theorem dJ0_getBytes_840e7_0 : decode cJ0_getBytes_840e7 0 = .ok (.aload_n 0, 1) := by decide +kernel
theorem dJ0_getBytes_840e7_1 : decode cJ0_getBytes_840e7 1 = .ok (.invokevirtual 335, 3) := by decide +kernel
theorem dJ0_getBytes_840e7_4 : decode cJ0_getBytes_840e7 4 = .ok (.iload_n 3, 1) := by decide +kernel
theorem dJ0_getBytes_840e7_5 : decode cJ0_getBytes_840e7 5 = .ok (.if_icmp .ne 23, 3) := by decide +kernel
theorem dJ0_getBytes_840e7_8 : decode cJ0_getBytes_840e7 8 = .ok (.aload_n 0, 1) := by decide +kernel
theorem dJ0_getBytes_840e7_9 : decode cJ0_getBytes_840e7 9 = .ok (.getfield 9, 3) := by decide +kernel
theorem dJ0_getBytes_840e7_12 : decode cJ0_getBytes_840e7 12 = .ok (.iconst 0, 1) := by decide +kernel
theorem dJ0_getBytes_840e7_13 : decode cJ0_getBytes_840e7 13 = .ok (.aload_n 1, 1) := by decide +kernel
theorem dJ0_getBytes_840e7_14 : decode cJ0_getBytes_840e7 14 = .ok (.iload_n 2, 1) := by decide +kernel
theorem dJ0_getBytes_840e7_15 : decode cJ0_getBytes_840e7 15 = .ok (.iload_n 3, 1) := by decide +kernel
theorem dJ0_getBytes_840e7_16 : decode cJ0_getBytes_840e7 16 = .ok (.ishl, 1) := by decide +kernel
theorem dJ0_getBytes_840e7_17 : decode cJ0_getBytes_840e7 17 = .ok (.aload_n 0, 1) := by decide +kernel
theorem dJ0_getBytes_840e7_18 : decode cJ0_getBytes_840e7 18 = .ok (.getfield 9, 3) := by decide +kernel
theorem dJ0_getBytes_840e7_21 : decode cJ0_getBytes_840e7 21 = .ok (.arraylength, 1) := by decide +kernel
theorem dJ0_getBytes_840e7_22 : decode cJ0_getBytes_840e7 22 = .ok (.invokestatic 212, 3) := by decide +kernel
theorem dJ0_getBytes_840e7_25 : decode cJ0_getBytes_840e7 25 = .ok (.goto 18, 3) := by decide +kernel
theorem dJ0_getBytes_840e7_28 : decode cJ0_getBytes_840e7 28 = .ok (.aload_n 0, 1) := by decide +kernel
theorem dJ0_getBytes_840e7_29 : decode cJ0_getBytes_840e7 29 = .ok (.getfield 9, 3) := by decide +kernel
theorem dJ0_getBytes_840e7_32 : decode cJ0_getBytes_840e7 32 = .ok (.iconst 0, 1) := by decide +kernel
theorem dJ0_getBytes_840e7_33 : decode cJ0_getBytes_840e7 33 = .ok (.aload_n 1, 1) := by decide +kernel
theorem dJ0_getBytes_840e7_34 : decode cJ0_getBytes_840e7 34 = .ok (.iload_n 2, 1) := by decide +kernel
theorem dJ0_getBytes_840e7_35 : decode cJ0_getBytes_840e7 35 = .ok (.aload_n 0, 1) := by decide +kernel
theorem dJ0_getBytes_840e7_36 : decode cJ0_getBytes_840e7 36 = .ok (.getfield 9, 3) := by decide +kernel
theorem dJ0_getBytes_840e7_39 : decode cJ0_getBytes_840e7 39 = .ok (.arraylength, 1) := by decide +kernel
theorem dJ0_getBytes_840e7_40 : decode cJ0_getBytes_840e7 40 = .ok (.invokestatic 106, 3) := by decide +kernel
theorem dJ0_getBytes_840e7_43 : decode cJ0_getBytes_840e7 43 = .ok (.return_, 1) := by decide +kernel
def f_J0_getBytes_840e7_0 (a0 : Nat) (a1 : Nat) (i2 : Int32) (i3 : Int32) (M : zM) : Option (Unit × zM) :=
  if mK M a0 = 1 ∨ mK M a0 = 301 then
  (f_J0_coder_7d493 a0 M).bind fun r1 =>
  if r1.1 = i3 then
  (hR 1 0 r1.2 a0).bind fun v6 =>
  (hR 1 0 r1.2 a0).bind fun v7 =>
  (gL r1.2 v7).bind fun v8 =>
  (yI 1 r1.2 v6 ((0 : Int32)) a1 ((i2 <<< (i3 &&& 31))) v8).bind fun M9 =>
  some ((), M9)
  else
  (hR 1 0 r1.2 a0).bind fun v3 =>
  (hR 1 0 r1.2 a0).bind fun v4 =>
  (gL r1.2 v4).bind fun v5 =>
  none
  else none
set_option maxRecDepth 20000 in
set_option maxHeartbeats 4000000 in
theorem s_J0_getBytes_840e7_0 {L : zL} {X : zX} {M0 : zM} {N : Nat × Nat} {Q : State → Prop} {r : Unit × zM} (hq : vQ L X M0 N Q none r.2) {a0 : Nat} {a1 : Nat} {i2 : Int32} {i3 : Int32} {M : zM} (h : f_J0_getBytes_840e7_0 a0 a1 i2 i3 M = some r) : V L X yJ0_getBytes_840e7 cJ0_getBytes_840e7 4 (none : Option FieldType) 2 M0 N Q M 0 [(0, .ref (zad L (a0))), (1, .ref (zad L (a1))), (2, .int (i2)), (3, .int (i3))] [] := by
  unfold f_J0_getBytes_840e7_0 at h
  refine V_aload_n dJ0_getBytes_840e7_0 rfl 0 rfl ?_
  replace h := ox h
  obtain ⟨c2, h⟩ := h
  replace h := ob h
  obtain ⟨r1, e_r1, h⟩ := h
  refine V_callV_I (As := []) (rest := []) (c_J0_coder_7d493 e_r1) zc_J0_coder_7d493 rfl (by decide) rfl (by decide) (c2) zm_J0_335 (Nat.le_of_ble_eq_true rfl) rfl dJ0_getBytes_840e7_1 ?_
  refine V_pc (pc' := 4) rfl ?_
  refine V_iload_n dJ0_getBytes_840e7_4 rfl 3 rfl ?_
  refine V_icmp_ne (tgt := 28) dJ0_getBytes_840e7_5 (by decide) (fun c10 => ?_) (fun c10 => ?_)
  · replace h := (oi h).2 c10
    refine V_aload_n dJ0_getBytes_840e7_28 rfl 0 rfl ?_
    replace h := ob h
    obtain ⟨v3, e_v3, h⟩ := h
    refine V_getRx zf_1_0 zl_J0_9 (by decide) e_v3 dJ0_getBytes_840e7_29 ?_
    refine V_pc (pc' := 32) rfl ?_
    refine V_iconst (v := 0) dJ0_getBytes_840e7_32 (by decide) ?_
    refine V_aload_n dJ0_getBytes_840e7_33 rfl 1 rfl ?_
    refine V_iload_n dJ0_getBytes_840e7_34 rfl 2 rfl ?_
    refine V_aload_n dJ0_getBytes_840e7_35 rfl 0 rfl ?_
    replace h := ob h
    obtain ⟨v4, e_v4, h⟩ := h
    refine V_getRx zf_1_0 zl_J0_9 (by decide) e_v4 dJ0_getBytes_840e7_36 ?_
    refine V_pc (pc' := 39) rfl ?_
    replace h := ob h
    obtain ⟨v5, e_v5, h⟩ := h
    refine V_alen e_v5 dJ0_getBytes_840e7_39 ?_
    refine V_pc (pc' := 40) rfl ?_
    cases h
  · replace h := (oi h).1 c10
    refine V_aload_n dJ0_getBytes_840e7_8 rfl 0 rfl ?_
    replace h := ob h
    obtain ⟨v6, e_v6, h⟩ := h
    refine V_getRx zf_1_0 zl_J0_9 (by decide) e_v6 dJ0_getBytes_840e7_9 ?_
    refine V_pc (pc' := 12) rfl ?_
    refine V_iconst (v := 0) dJ0_getBytes_840e7_12 (by decide) ?_
    refine V_aload_n dJ0_getBytes_840e7_13 rfl 1 rfl ?_
    refine V_iload_n dJ0_getBytes_840e7_14 rfl 2 rfl ?_
    refine V_iload_n dJ0_getBytes_840e7_15 rfl 3 rfl ?_
    refine V_ishl dJ0_getBytes_840e7_16 ?_
    refine V_aload_n dJ0_getBytes_840e7_17 rfl 0 rfl ?_
    replace h := ob h
    obtain ⟨v7, e_v7, h⟩ := h
    refine V_getRx zf_1_0 zl_J0_9 (by decide) e_v7 dJ0_getBytes_840e7_18 ?_
    refine V_pc (pc' := 21) rfl ?_
    replace h := ob h
    obtain ⟨v8, e_v8, h⟩ := h
    refine V_alen e_v8 dJ0_getBytes_840e7_21 ?_
    refine V_pc (pc' := 22) rfl ?_
    replace h := ob h
    obtain ⟨M9, e_M9, h⟩ := h
    refine V_copyI (t := 1) (by decide) e_M9 zac_J0_212 (by decide) (Nat.le_of_ble_eq_true rfl) dJ0_getBytes_840e7_22 ?_
    refine V_goto (tgt := 43) dJ0_getBytes_840e7_25 (by decide) ?_
    obtain rfl := Option.some.inj h
    exact V_vret rfl hq dJ0_getBytes_840e7_43
def f_J0_getBytes_840e7 (a0 : Nat) (a1 : Nat) (i2 : Int32) (i3 : Int32) (M : zM) : Option (Unit × zM) := f_J0_getBytes_840e7_0 a0 a1 i2 i3 M
theorem c_J0_getBytes_840e7 {L : zL} {l : Launch} {a0 : Nat} {a1 : Nat} {i2 : Int32} {i3 : Int32} {M : zM} {r : Unit × zM} (h : f_J0_getBytes_840e7 a0 a1 i2 i3 M = some r) : CP L l yJ0_getBytes_840e7 cJ0_getBytes_840e7 4 (none : Option FieldType) 2 M [.ref (zad L (a0)), .ref (zad L (a1)), .int (i2), .int (i3)] none r.2 :=
  CP.of ⟨by decide +kernel, by decide +kernel⟩ (Nat.le_of_ble_eq_true rfl) fun X Q hq => s_J0_getBytes_840e7_0 hq h
/-! java/lang/AbstractStringBuilder.inflateIfNeededFor(Ljava/lang/String;)V -/
theorem dJ5_inflateIfNeededFor_a7421_0 : decode cJ5_inflateIfNeededFor_a7421 0 = .ok (.getstatic 18, 3) := by decide +kernel
theorem dJ5_inflateIfNeededFor_a7421_3 : decode cJ5_inflateIfNeededFor_a7421 3 = .ok (.ifCond .eq 18, 3) := by decide +kernel
theorem dJ5_inflateIfNeededFor_a7421_6 : decode cJ5_inflateIfNeededFor_a7421 6 = .ok (.aload_n 0, 1) := by decide +kernel
theorem dJ5_inflateIfNeededFor_a7421_7 : decode cJ5_inflateIfNeededFor_a7421 7 = .ok (.getfield 22, 3) := by decide +kernel
theorem dJ5_inflateIfNeededFor_a7421_10 : decode cJ5_inflateIfNeededFor_a7421 10 = .ok (.aload_n 1, 1) := by decide +kernel
theorem dJ5_inflateIfNeededFor_a7421_11 : decode cJ5_inflateIfNeededFor_a7421 11 = .ok (.invokevirtual 40, 3) := by decide +kernel
theorem dJ5_inflateIfNeededFor_a7421_14 : decode cJ5_inflateIfNeededFor_a7421 14 = .ok (.if_icmp .eq 7, 3) := by decide +kernel
theorem dJ5_inflateIfNeededFor_a7421_17 : decode cJ5_inflateIfNeededFor_a7421 17 = .ok (.aload_n 0, 1) := by decide +kernel
theorem dJ5_inflateIfNeededFor_a7421_18 : decode cJ5_inflateIfNeededFor_a7421 18 = .ok (.invokevirtual 195, 3) := by decide +kernel
theorem dJ5_inflateIfNeededFor_a7421_21 : decode cJ5_inflateIfNeededFor_a7421 21 = .ok (.return_, 1) := by decide +kernel
def f_J5_inflateIfNeededFor_a7421_0 (a0 : Nat) (a1 : Nat) (M : zM) : Option (Unit × zM) :=
  if ((1 : Int32)) = 0 then
  some ((), M)
  else
  (gI 2 1 M a0).bind fun v1 =>
  if mK M a1 = 1 ∨ mK M a1 = 301 then
  (f_J0_coder_7d493 a1 M).bind fun r2 =>
  if v1 = r2.1 then
  some ((), r2.2)
  else
  none
  else none
set_option maxRecDepth 20000 in
set_option maxHeartbeats 4000000 in
theorem s_J5_inflateIfNeededFor_a7421_0 {L : zL} {X : zX} {M0 : zM} {N : Nat × Nat} {Q : State → Prop} {r : Unit × zM} (hq : vQ L X M0 N Q none r.2) {a0 : Nat} {a1 : Nat} {M : zM} (h : f_J5_inflateIfNeededFor_a7421_0 a0 a1 M = some r) : V L X yJ5_inflateIfNeededFor_a7421 cJ5_inflateIfNeededFor_a7421 2 (none : Option FieldType) 2 M0 N Q M 0 [(0, .ref (zad L (a0))), (1, .ref (zad L (a1)))] [] := by
  unfold f_J5_inflateIfNeededFor_a7421_0 at h
  refine V_gets (zst_6 L) zg_J5_18 rfl dJ5_inflateIfNeededFor_a7421_0 ?_
  refine V_if_eq (tgt := 21) dJ5_inflateIfNeededFor_a7421_3 (by decide) (fun c5 => ?_) (fun c5 => ?_)
  · replace h := (oi h).1 c5
    obtain rfl := Option.some.inj h
    exact V_vret rfl hq dJ5_inflateIfNeededFor_a7421_21
  · replace h := (oi h).2 c5
    refine V_aload_n dJ5_inflateIfNeededFor_a7421_6 rfl 0 rfl ?_
    replace h := ob h
    obtain ⟨v1, e_v1, h⟩ := h
    refine V_getI zf_2_1 zl_J5_22 e_v1 dJ5_inflateIfNeededFor_a7421_7 ?_
    refine V_pc (pc' := 10) rfl ?_
    refine V_aload_n dJ5_inflateIfNeededFor_a7421_10 rfl 1 rfl ?_
    replace h := ox h
    obtain ⟨c3, h⟩ := h
    replace h := ob h
    obtain ⟨r2, e_r2, h⟩ := h
    refine V_callV_I (As := []) (rest := [.int (v1)]) (c_J0_coder_7d493 e_r2) zc_J0_coder_7d493 rfl (by decide) rfl (by decide) (c3) zm_J5_40 (Nat.le_of_ble_eq_true rfl) rfl dJ5_inflateIfNeededFor_a7421_11 ?_
    refine V_pc (pc' := 14) rfl ?_
    refine V_icmp_eq (tgt := 21) dJ5_inflateIfNeededFor_a7421_14 (by decide) (fun c4 => ?_) (fun c4 => ?_)
    · replace h := (oi h).1 c4
      obtain rfl := Option.some.inj h
      exact V_vret rfl hq dJ5_inflateIfNeededFor_a7421_21
    · replace h := (oi h).2 c4
      refine V_aload_n dJ5_inflateIfNeededFor_a7421_17 rfl 0 rfl ?_
      cases h
def f_J5_inflateIfNeededFor_a7421 (a0 : Nat) (a1 : Nat) (M : zM) : Option (Unit × zM) := f_J5_inflateIfNeededFor_a7421_0 a0 a1 M
theorem c_J5_inflateIfNeededFor_a7421 {L : zL} {l : Launch} {a0 : Nat} {a1 : Nat} {M : zM} {r : Unit × zM} (h : f_J5_inflateIfNeededFor_a7421 a0 a1 M = some r) : CP L l yJ5_inflateIfNeededFor_a7421 cJ5_inflateIfNeededFor_a7421 2 (none : Option FieldType) 2 M [.ref (zad L (a0)), .ref (zad L (a1))] none r.2 :=
  CP.of ⟨by decide +kernel, by decide +kernel⟩ (Nat.le_of_ble_eq_true rfl) fun X Q hq => s_J5_inflateIfNeededFor_a7421_0 hq h
/-! java/lang/AbstractStringBuilder.putStringAt(ILjava/lang/String;)V -/
theorem dJ5_putStringAt_47b60_0 : decode cJ5_putStringAt_47b60 0 = .ok (.aload_n 0, 1) := by decide +kernel
theorem dJ5_putStringAt_47b60_1 : decode cJ5_putStringAt_47b60 1 = .ok (.aload_n 2, 1) := by decide +kernel
theorem dJ5_putStringAt_47b60_2 : decode cJ5_putStringAt_47b60 2 = .ok (.invokevirtual 397, 3) := by decide +kernel
theorem dJ5_putStringAt_47b60_5 : decode cJ5_putStringAt_47b60 5 = .ok (.aload_n 2, 1) := by decide +kernel
theorem dJ5_putStringAt_47b60_6 : decode cJ5_putStringAt_47b60 6 = .ok (.aload_n 0, 1) := by decide +kernel
theorem dJ5_putStringAt_47b60_7 : decode cJ5_putStringAt_47b60 7 = .ok (.getfield 15, 3) := by decide +kernel
theorem dJ5_putStringAt_47b60_10 : decode cJ5_putStringAt_47b60 10 = .ok (.iload_n 1, 1) := by decide +kernel
theorem dJ5_putStringAt_47b60_11 : decode cJ5_putStringAt_47b60 11 = .ok (.aload_n 0, 1) := by decide +kernel
theorem dJ5_putStringAt_47b60_12 : decode cJ5_putStringAt_47b60 12 = .ok (.getfield 22, 3) := by decide +kernel
theorem dJ5_putStringAt_47b60_15 : decode cJ5_putStringAt_47b60 15 = .ok (.invokevirtual 399, 3) := by decide +kernel
theorem dJ5_putStringAt_47b60_18 : decode cJ5_putStringAt_47b60 18 = .ok (.return_, 1) := by decide +kernel
def f_J5_putStringAt_47b60_0 (a0 : Nat) (i1 : Int32) (a2 : Nat) (M : zM) : Option (Unit × zM) :=
  if mK M a0 = 2 then
  (f_J5_inflateIfNeededFor_a7421 a0 a2 M).bind fun r1 =>
  (gR 2 0 r1.2 a0).bind fun v3 =>
  (gI 2 1 r1.2 a0).bind fun v4 =>
  if mK r1.2 a2 = 1 ∨ mK r1.2 a2 = 301 then
  (f_J0_getBytes_840e7 a2 v3 i1 v4 r1.2).bind fun r5 =>
  some ((), r5.2)
  else none
  else none
set_option maxRecDepth 20000 in
set_option maxHeartbeats 4000000 in
theorem s_J5_putStringAt_47b60_0 {L : zL} {X : zX} {M0 : zM} {N : Nat × Nat} {Q : State → Prop} {r : Unit × zM} (hq : vQ L X M0 N Q none r.2) {a0 : Nat} {i1 : Int32} {a2 : Nat} {M : zM} (h : f_J5_putStringAt_47b60_0 a0 i1 a2 M = some r) : V L X yJ5_putStringAt_47b60 cJ5_putStringAt_47b60 3 (none : Option FieldType) 3 M0 N Q M 0 [(0, .ref (zad L (a0))), (1, .int (i1)), (2, .ref (zad L (a2)))] [] := by
  unfold f_J5_putStringAt_47b60_0 at h
  refine V_aload_n dJ5_putStringAt_47b60_0 rfl 0 rfl ?_
  refine V_aload_n dJ5_putStringAt_47b60_1 rfl 2 rfl ?_
  replace h := ox h
  obtain ⟨c2, h⟩ := h
  replace h := ob h
  obtain ⟨r1, e_r1, h⟩ := h
  refine V_callV_V (As := [.ref (zad L (a2))]) (rest := []) (c_J5_inflateIfNeededFor_a7421 e_r1) zc_J5_inflateIfNeededFor_a7421 rfl (by decide) rfl (by decide) (Or.inl c2) zm_J5_397 (Nat.le_of_ble_eq_true rfl) rfl dJ5_putStringAt_47b60_2 ?_
  refine V_pc (pc' := 5) rfl ?_
  refine V_aload_n dJ5_putStringAt_47b60_5 rfl 2 rfl ?_
  refine V_aload_n dJ5_putStringAt_47b60_6 rfl 0 rfl ?_
  replace h := ob h
  obtain ⟨v3, e_v3, h⟩ := h
  refine V_getR zf_2_0 zl_J5_15 e_v3 dJ5_putStringAt_47b60_7 ?_
  refine V_pc (pc' := 10) rfl ?_
  refine V_iload_n dJ5_putStringAt_47b60_10 rfl 1 rfl ?_
  refine V_aload_n dJ5_putStringAt_47b60_11 rfl 0 rfl ?_
  replace h := ob h
  obtain ⟨v4, e_v4, h⟩ := h
  refine V_getI zf_2_1 zl_J5_22 e_v4 dJ5_putStringAt_47b60_12 ?_
  refine V_pc (pc' := 15) rfl ?_
  replace h := ox h
  obtain ⟨c6, h⟩ := h
  replace h := ob h
  obtain ⟨r5, e_r5, h⟩ := h
  refine V_callV_V (As := [.ref (zad L (v3)), .int (i1), .int (v4)]) (rest := []) (c_J0_getBytes_840e7 e_r5) zc_J0_getBytes_840e7 rfl (by decide) rfl (by decide) (c6) zm_J5_399 (Nat.le_of_ble_eq_true rfl) rfl dJ5_putStringAt_47b60_15 ?_
  refine V_pc (pc' := 18) rfl ?_
  obtain rfl := Option.some.inj h
  exact V_vret rfl hq dJ5_putStringAt_47b60_18
def f_J5_putStringAt_47b60 (a0 : Nat) (i1 : Int32) (a2 : Nat) (M : zM) : Option (Unit × zM) := f_J5_putStringAt_47b60_0 a0 i1 a2 M
theorem c_J5_putStringAt_47b60 {L : zL} {l : Launch} {a0 : Nat} {i1 : Int32} {a2 : Nat} {M : zM} {r : Unit × zM} (h : f_J5_putStringAt_47b60 a0 i1 a2 M = some r) : CP L l yJ5_putStringAt_47b60 cJ5_putStringAt_47b60 3 (none : Option FieldType) 3 M [.ref (zad L (a0)), .int (i1), .ref (zad L (a2))] none r.2 :=
  CP.of ⟨by decide +kernel, by decide +kernel⟩ (Nat.le_of_ble_eq_true rfl) fun X Q hq => s_J5_putStringAt_47b60_0 hq h
/-! java/lang/AbstractStringBuilder.append(Ljava/lang/String;)Ljava/lang/AbstractStringBuilder; -/
theorem dJ5_append_cf1ce_0 : decode cJ5_append_cf1ce 0 = .ok (.aload_n 1, 1) := by decide +kernel
theorem dJ5_append_cf1ce_1 : decode cJ5_append_cf1ce 1 = .ok (.ifnonnull 8, 3) := by decide +kernel
theorem dJ5_append_cf1ce_4 : decode cJ5_append_cf1ce 4 = .ok (.aload_n 0, 1) := by decide +kernel
theorem dJ5_append_cf1ce_5 : decode cJ5_append_cf1ce 5 = .ok (.invokevirtual 204, 3) := by decide +kernel
theorem dJ5_append_cf1ce_8 : decode cJ5_append_cf1ce 8 = .ok (.areturn, 1) := by decide +kernel
theorem dJ5_append_cf1ce_9 : decode cJ5_append_cf1ce 9 = .ok (.aload_n 1, 1) := by decide +kernel
theorem dJ5_append_cf1ce_10 : decode cJ5_append_cf1ce 10 = .ok (.invokevirtual 32, 3) := by decide +kernel
theorem dJ5_append_cf1ce_13 : decode cJ5_append_cf1ce 13 = .ok (.istore_n 2, 1) := by decide +kernel
theorem dJ5_append_cf1ce_14 : decode cJ5_append_cf1ce 14 = .ok (.aload_n 0, 1) := by decide +kernel
theorem dJ5_append_cf1ce_15 : decode cJ5_append_cf1ce 15 = .ok (.aload_n 0, 1) := by decide +kernel
theorem dJ5_append_cf1ce_16 : decode cJ5_append_cf1ce 16 = .ok (.getfield 79, 3) := by decide +kernel
theorem dJ5_append_cf1ce_19 : decode cJ5_append_cf1ce 19 = .ok (.iload_n 2, 1) := by decide +kernel
theorem dJ5_append_cf1ce_20 : decode cJ5_append_cf1ce 20 = .ok (.iadd, 1) := by decide +kernel
theorem dJ5_append_cf1ce_21 : decode cJ5_append_cf1ce 21 = .ok (.invokevirtual 100, 3) := by decide +kernel
theorem dJ5_append_cf1ce_24 : decode cJ5_append_cf1ce 24 = .ok (.aload_n 0, 1) := by decide +kernel
theorem dJ5_append_cf1ce_25 : decode cJ5_append_cf1ce 25 = .ok (.aload_n 0, 1) := by decide +kernel
theorem dJ5_append_cf1ce_26 : decode cJ5_append_cf1ce 26 = .ok (.getfield 79, 3) := by decide +kernel
theorem dJ5_append_cf1ce_29 : decode cJ5_append_cf1ce 29 = .ok (.aload_n 1, 1) := by decide +kernel
theorem dJ5_append_cf1ce_30 : decode cJ5_append_cf1ce 30 = .ok (.invokevirtual 208, 3) := by decide +kernel
theorem dJ5_append_cf1ce_33 : decode cJ5_append_cf1ce 33 = .ok (.aload_n 0, 1) := by decide +kernel
theorem dJ5_append_cf1ce_34 : decode cJ5_append_cf1ce 34 = .ok (.dup, 1) := by decide +kernel
theorem dJ5_append_cf1ce_35 : decode cJ5_append_cf1ce 35 = .ok (.getfield 79, 3) := by decide +kernel
theorem dJ5_append_cf1ce_38 : decode cJ5_append_cf1ce 38 = .ok (.iload_n 2, 1) := by decide +kernel
theorem dJ5_append_cf1ce_39 : decode cJ5_append_cf1ce 39 = .ok (.iadd, 1) := by decide +kernel
theorem dJ5_append_cf1ce_40 : decode cJ5_append_cf1ce 40 = .ok (.putfield 79, 3) := by decide +kernel
theorem dJ5_append_cf1ce_43 : decode cJ5_append_cf1ce 43 = .ok (.aload_n 0, 1) := by decide +kernel
theorem dJ5_append_cf1ce_44 : decode cJ5_append_cf1ce 44 = .ok (.areturn, 1) := by decide +kernel
def f_J5_append_cf1ce_0 (a0 : Nat) (a1 : Nat) (M : zM) : Option (Nat × zM) :=
  if mK M a1 = 1 ∨ mK M a1 = 301 then
  (f_J0_length_8abf5 a1 M).bind fun r1 =>
  (gI 2 3 r1.2 a0).bind fun v3 =>
  if mK r1.2 a0 = 2 then
  (f_J5_ensureCapacityInternal_d00df a0 ((v3 + r1.1)) r1.2).bind fun r4 =>
  (gI 2 3 r4.2 a0).bind fun v6 =>
  if mK r4.2 a0 = 2 then
  (f_J5_putStringAt_47b60 a0 v6 a1 r4.2).bind fun r7 =>
  (gI 2 3 r7.2 a0).bind fun v9 =>
  (pI 2 3 r7.2 a0 ((v9 + r1.1))).bind fun M10 =>
  some (a0, M10)
  else none
  else none
  else none
set_option maxRecDepth 20000 in
set_option maxHeartbeats 4000000 in
theorem s_J5_append_cf1ce_0 {L : zL} {X : zX} {M0 : zM} {N : Nat × Nat} {Q : State → Prop} {r : Nat × zM} (hq : vQ L X M0 N Q (some (.ref (zad L r.1))) r.2) {a0 : Nat} {a1 : Nat} {M : zM} (h : f_J5_append_cf1ce_0 a0 a1 M = some r) : V L X yJ5_append_cf1ce cJ5_append_cf1ce 3 (Option.some (FieldType.object "java/lang/AbstractStringBuilder")) 5 M0 N Q M 0 [(0, .ref (zad L (a0))), (1, .ref (zad L (a1)))] [] := by
  unfold f_J5_append_cf1ce_0 at h
  refine V_aload_n dJ5_append_cf1ce_0 rfl 1 rfl ?_
  refine V_ifnn (tgt := 9) dJ5_append_cf1ce_1 (by decide) ?_
  refine V_aload_n dJ5_append_cf1ce_9 rfl 1 rfl ?_
  replace h := ox h
  obtain ⟨c2, h⟩ := h
  replace h := ob h
  obtain ⟨r1, e_r1, h⟩ := h
  refine V_callV_I (As := []) (rest := []) (c_J0_length_8abf5 e_r1) zc_J0_length_8abf5 rfl (by decide) rfl (by decide) (c2) zm_J5_32 (Nat.le_of_ble_eq_true rfl) rfl dJ5_append_cf1ce_10 ?_
  refine V_pc (pc' := 13) rfl ?_
  refine V_istore_n (ls' := [(2, .int (r1.1)), (0, .ref (zad L (a0))), (1, .ref (zad L (a1)))]) dJ5_append_cf1ce_13 rfl (by decide) rfl ?_
  refine V_aload_n dJ5_append_cf1ce_14 rfl 1 rfl ?_
  refine V_aload_n dJ5_append_cf1ce_15 rfl 1 rfl ?_
  replace h := ob h
  obtain ⟨v3, e_v3, h⟩ := h
  refine V_getI zf_2_3 zl_J5_79 e_v3 dJ5_append_cf1ce_16 ?_
  refine V_pc (pc' := 19) rfl ?_
  refine V_iload_n dJ5_append_cf1ce_19 rfl 0 rfl ?_
  refine V_iadd dJ5_append_cf1ce_20 ?_
  replace h := ox h
  obtain ⟨c5, h⟩ := h
  replace h := ob h
  obtain ⟨r4, e_r4, h⟩ := h
  refine V_callV_V (As := [.int ((v3 + r1.1))]) (rest := []) (c_J5_ensureCapacityInternal_d00df e_r4) zc_J5_ensureCapacityInternal_d00df rfl (by decide) rfl (by decide) (Or.inl c5) zm_J5_100 (Nat.le_of_ble_eq_true rfl) rfl dJ5_append_cf1ce_21 ?_
  refine V_pc (pc' := 24) rfl ?_
  refine V_aload_n dJ5_append_cf1ce_24 rfl 1 rfl ?_
  refine V_aload_n dJ5_append_cf1ce_25 rfl 1 rfl ?_
  replace h := ob h
  obtain ⟨v6, e_v6, h⟩ := h
  refine V_getI zf_2_3 zl_J5_79 e_v6 dJ5_append_cf1ce_26 ?_
  refine V_pc (pc' := 29) rfl ?_
  refine V_aload_n dJ5_append_cf1ce_29 rfl 2 rfl ?_
  replace h := ox h
  obtain ⟨c8, h⟩ := h
  replace h := ob h
  obtain ⟨r7, e_r7, h⟩ := h
  refine V_callV_V (As := [.int (v6), .ref (zad L (a1))]) (rest := []) (c_J5_putStringAt_47b60 e_r7) zc_J5_putStringAt_47b60 rfl (by decide) rfl (by decide) (Or.inl c8) zm_J5_208 (Nat.le_of_ble_eq_true rfl) rfl dJ5_append_cf1ce_30 ?_
  refine V_pc (pc' := 33) rfl ?_
  refine V_aload_n dJ5_append_cf1ce_33 rfl 1 rfl ?_
  refine V_dup dJ5_append_cf1ce_34 rfl ?_
  replace h := ob h
  obtain ⟨v9, e_v9, h⟩ := h
  refine V_getI zf_2_3 zl_J5_79 e_v9 dJ5_append_cf1ce_35 ?_
  refine V_pc (pc' := 38) rfl ?_
  refine V_iload_n dJ5_append_cf1ce_38 rfl 0 rfl ?_
  refine V_iadd dJ5_append_cf1ce_39 ?_
  replace h := ob h
  obtain ⟨M10, e_M10, h⟩ := h
  refine V_putI zf_2_3 zl_J5_79 (Or.inl rfl) rfl e_M10 dJ5_append_cf1ce_40 ?_
  refine V_pc (pc' := 43) rfl ?_
  refine V_aload_n dJ5_append_cf1ce_43 rfl 1 rfl ?_
  obtain rfl := Option.some.inj h
  exact V_aret rfl (by first | exact Or.inl ⟨_, rfl⟩ | exact Or.inr ⟨_, rfl⟩) hq dJ5_append_cf1ce_44
def f_J5_append_cf1ce (a0 : Nat) (a1 : Nat) (M : zM) : Option (Nat × zM) := f_J5_append_cf1ce_0 a0 a1 M
theorem c_J5_append_cf1ce {L : zL} {l : Launch} {a0 : Nat} {a1 : Nat} {M : zM} {r : Nat × zM} (h : f_J5_append_cf1ce a0 a1 M = some r) : CP L l yJ5_append_cf1ce cJ5_append_cf1ce 3 (Option.some (FieldType.object "java/lang/AbstractStringBuilder")) 5 M [.ref (zad L (a0)), .ref (zad L (a1))] (some (.ref (zad L r.1))) r.2 :=
  CP.of ⟨by decide +kernel, by decide +kernel⟩ (Nat.le_of_ble_eq_true rfl) fun X Q hq => s_J5_append_cf1ce_0 hq h
/-! java/lang/StringBuilder.append(Ljava/lang/String;)Ljava/lang/StringBuilder; -/
theorem dJ4_append_15ec4_0 : decode cJ4_append_15ec4 0 = .ok (.aload_n 0, 1) := by decide +kernel
theorem dJ4_append_15ec4_1 : decode cJ4_append_15ec4 1 = .ok (.aload_n 1, 1) := by decide +kernel
theorem dJ4_append_15ec4_2 : decode cJ4_append_15ec4 2 = .ok (.invokespecial 29, 3) := by decide +kernel
theorem dJ4_append_15ec4_5 : decode cJ4_append_15ec4 5 = .ok (.pop, 1) := by decide +kernel
theorem dJ4_append_15ec4_6 : decode cJ4_append_15ec4 6 = .ok (.aload_n 0, 1) := by decide +kernel
theorem dJ4_append_15ec4_7 : decode cJ4_append_15ec4 7 = .ok (.areturn, 1) := by decide +kernel
def f_J4_append_15ec4_0 (a0 : Nat) (a1 : Nat) (M : zM) : Option (Nat × zM) :=
  if mK M a0 = 2 then
  (f_J5_append_cf1ce a0 a1 M).bind fun r1 =>
  some (a0, r1.2)
  else none
set_option maxRecDepth 20000 in
set_option maxHeartbeats 4000000 in
theorem s_J4_append_15ec4_0 {L : zL} {X : zX} {M0 : zM} {N : Nat × Nat} {Q : State → Prop} {r : Nat × zM} (hq : vQ L X M0 N Q (some (.ref (zad L r.1))) r.2) {a0 : Nat} {a1 : Nat} {M : zM} (h : f_J4_append_15ec4_0 a0 a1 M = some r) : V L X yJ4_append_15ec4 cJ4_append_15ec4 2 (Option.some (FieldType.object "java/lang/StringBuilder")) 6 M0 N Q M 0 [(0, .ref (zad L (a0))), (1, .ref (zad L (a1)))] [] := by
  unfold f_J4_append_15ec4_0 at h
  refine V_aload_n dJ4_append_15ec4_0 rfl 0 rfl ?_
  refine V_aload_n dJ4_append_15ec4_1 rfl 1 rfl ?_
  replace h := ox h
  obtain ⟨c2, h⟩ := h
  replace h := ob h
  obtain ⟨r1, e_r1, h⟩ := h
  refine V_callU_A (As := [.ref (zad L (a1))]) (rest := []) (c_J5_append_cf1ce e_r1) zc_J5_append_cf1ce rfl (by decide) rfl (by decide) (Or.inl c2) zm_J4_29 (Nat.le_of_ble_eq_true rfl) rfl dJ4_append_15ec4_2 ?_
  refine V_pc (pc' := 5) rfl ?_
  refine V_pop dJ4_append_15ec4_5 rfl ?_
  refine V_aload_n dJ4_append_15ec4_6 rfl 0 rfl ?_
  obtain rfl := Option.some.inj h
  exact V_aret rfl (by first | exact Or.inl ⟨_, rfl⟩ | exact Or.inr ⟨_, rfl⟩) hq dJ4_append_15ec4_7
def f_J4_append_15ec4 (a0 : Nat) (a1 : Nat) (M : zM) : Option (Nat × zM) := f_J4_append_15ec4_0 a0 a1 M
theorem c_J4_append_15ec4 {L : zL} {l : Launch} {a0 : Nat} {a1 : Nat} {M : zM} {r : Nat × zM} (h : f_J4_append_15ec4 a0 a1 M = some r) : CP L l yJ4_append_15ec4 cJ4_append_15ec4 2 (Option.some (FieldType.object "java/lang/StringBuilder")) 6 M [.ref (zad L (a0)), .ref (zad L (a1))] (some (.ref (zad L r.1))) r.2 :=
  CP.of ⟨by decide +kernel, by decide +kernel⟩ (Nat.le_of_ble_eq_true rfl) fun X Q hq => s_J4_append_15ec4_0 hq h
/-! java/lang/Integer.getChars(II[B)I -/
theorem dJ6_getChars_ba4f3_0 : decode cJ6_getChars_ba4f3 0 = .ok (.iload_n 1, 1) := by decide +kernel
theorem dJ6_getChars_ba4f3_1 : decode cJ6_getChars_ba4f3 1 = .ok (.istore 5, 2) := by decide +kernel
theorem dJ6_getChars_ba4f3_3 : decode cJ6_getChars_ba4f3 3 = .ok (.iload_n 0, 1) := by decide +kernel
theorem dJ6_getChars_ba4f3_4 : decode cJ6_getChars_ba4f3 4 = .ok (.ifCond .ge 7, 3) := by decide +kernel
theorem dJ6_getChars_ba4f3_7 : decode cJ6_getChars_ba4f3 7 = .ok (.iconst 1, 1) := by decide +kernel
theorem dJ6_getChars_ba4f3_8 : decode cJ6_getChars_ba4f3 8 = .ok (.goto 4, 3) := by decide +kernel
theorem dJ6_getChars_ba4f3_11 : decode cJ6_getChars_ba4f3 11 = .ok (.iconst 0, 1) := by decide +kernel
theorem dJ6_getChars_ba4f3_12 : decode cJ6_getChars_ba4f3 12 = .ok (.istore 6, 2) := by decide +kernel
theorem dJ6_getChars_ba4f3_14 : decode cJ6_getChars_ba4f3 14 = .ok (.iload 6, 2) := by decide +kernel
theorem dJ6_getChars_ba4f3_16 : decode cJ6_getChars_ba4f3 16 = .ok (.ifCond .ne 6, 3) := by decide +kernel
theorem dJ6_getChars_ba4f3_19 : decode cJ6_getChars_ba4f3 19 = .ok (.iload_n 0, 1) := by decide +kernel
theorem dJ6_getChars_ba4f3_20 : decode cJ6_getChars_ba4f3 20 = .ok (.ineg, 1) := by decide +kernel
theorem dJ6_getChars_ba4f3_21 : decode cJ6_getChars_ba4f3 21 = .ok (.istore_n 0, 1) := by decide +kernel
theorem dJ6_getChars_ba4f3_22 : decode cJ6_getChars_ba4f3 22 = .ok (.iload_n 0, 1) := by decide +kernel
theorem dJ6_getChars_ba4f3_23 : decode cJ6_getChars_ba4f3 23 = .ok (.bipush (-100), 2) := by decide +kernel
theorem dJ6_getChars_ba4f3_25 : decode cJ6_getChars_ba4f3 25 = .ok (.if_icmp .gt 47, 3) := by decide +kernel
theorem dJ6_getChars_ba4f3_28 : decode cJ6_getChars_ba4f3 28 = .ok (.iload_n 0, 1) := by decide +kernel
theorem dJ6_getChars_ba4f3_29 : decode cJ6_getChars_ba4f3 29 = .ok (.bipush 100, 2) := by decide +kernel
theorem dJ6_getChars_ba4f3_31 : decode cJ6_getChars_ba4f3 31 = .ok (.idiv, 1) := by decide +kernel
theorem dJ6_getChars_ba4f3_32 : decode cJ6_getChars_ba4f3 32 = .ok (.istore_n 3, 1) := by decide +kernel
theorem dJ6_getChars_ba4f3_33 : decode cJ6_getChars_ba4f3 33 = .ok (.iload_n 3, 1) := by decide +kernel
theorem dJ6_getChars_ba4f3_34 : decode cJ6_getChars_ba4f3 34 = .ok (.bipush 100, 2) := by decide +kernel
theorem dJ6_getChars_ba4f3_36 : decode cJ6_getChars_ba4f3 36 = .ok (.imul, 1) := by decide +kernel
theorem dJ6_getChars_ba4f3_37 : decode cJ6_getChars_ba4f3 37 = .ok (.iload_n 0, 1) := by decide +kernel
theorem dJ6_getChars_ba4f3_38 : decode cJ6_getChars_ba4f3 38 = .ok (.isub, 1) := by decide +kernel
theorem dJ6_getChars_ba4f3_39 : decode cJ6_getChars_ba4f3 39 = .ok (.istore 4, 2) := by decide +kernel
theorem dJ6_getChars_ba4f3_41 : decode cJ6_getChars_ba4f3 41 = .ok (.iload_n 3, 1) := by decide +kernel
theorem dJ6_getChars_ba4f3_42 : decode cJ6_getChars_ba4f3 42 = .ok (.istore_n 0, 1) := by decide +kernel
theorem dJ6_getChars_ba4f3_43 : decode cJ6_getChars_ba4f3 43 = .ok (.aload_n 2, 1) := by decide +kernel
theorem dJ6_getChars_ba4f3_44 : decode cJ6_getChars_ba4f3 44 = .ok (.iinc 5 (-1), 3) := by decide +kernel
theorem dJ6_getChars_ba4f3_47 : decode cJ6_getChars_ba4f3 47 = .ok (.iload 5, 2) := by decide +kernel
theorem dJ6_getChars_ba4f3_49 : decode cJ6_getChars_ba4f3 49 = .ok (.getstatic 83, 3) := by decide +kernel
theorem dJ6_getChars_ba4f3_52 : decode cJ6_getChars_ba4f3 52 = .ok (.iload 4, 2) := by decide +kernel
theorem dJ6_getChars_ba4f3_54 : decode cJ6_getChars_ba4f3 54 = .ok (.baload, 1) := by decide +kernel
theorem dJ6_getChars_ba4f3_55 : decode cJ6_getChars_ba4f3 55 = .ok (.bastore, 1) := by decide +kernel
theorem dJ6_getChars_ba4f3_56 : decode cJ6_getChars_ba4f3 56 = .ok (.aload_n 2, 1) := by decide +kernel
theorem dJ6_getChars_ba4f3_57 : decode cJ6_getChars_ba4f3 57 = .ok (.iinc 5 (-1), 3) := by decide +kernel
theorem dJ6_getChars_ba4f3_60 : decode cJ6_getChars_ba4f3 60 = .ok (.iload 5, 2) := by decide +kernel
theorem dJ6_getChars_ba4f3_62 : decode cJ6_getChars_ba4f3 62 = .ok (.getstatic 87, 3) := by decide +kernel
theorem dJ6_getChars_ba4f3_65 : decode cJ6_getChars_ba4f3 65 = .ok (.iload 4, 2) := by decide +kernel
theorem dJ6_getChars_ba4f3_67 : decode cJ6_getChars_ba4f3 67 = .ok (.baload, 1) := by decide +kernel
theorem dJ6_getChars_ba4f3_68 : decode cJ6_getChars_ba4f3 68 = .ok (.bastore, 1) := by decide +kernel
theorem dJ6_getChars_ba4f3_69 : decode cJ6_getChars_ba4f3 69 = .ok (.goto (-47), 3) := by decide +kernel
theorem dJ6_getChars_ba4f3_72 : decode cJ6_getChars_ba4f3 72 = .ok (.aload_n 2, 1) := by decide +kernel
theorem dJ6_getChars_ba4f3_73 : decode cJ6_getChars_ba4f3 73 = .ok (.iinc 5 (-1), 3) := by decide +kernel
theorem dJ6_getChars_ba4f3_76 : decode cJ6_getChars_ba4f3 76 = .ok (.iload 5, 2) := by decide +kernel
theorem dJ6_getChars_ba4f3_78 : decode cJ6_getChars_ba4f3 78 = .ok (.getstatic 83, 3) := by decide +kernel
theorem dJ6_getChars_ba4f3_81 : decode cJ6_getChars_ba4f3 81 = .ok (.iload_n 0, 1) := by decide +kernel
theorem dJ6_getChars_ba4f3_82 : decode cJ6_getChars_ba4f3 82 = .ok (.ineg, 1) := by decide +kernel
theorem dJ6_getChars_ba4f3_83 : decode cJ6_getChars_ba4f3 83 = .ok (.baload, 1) := by decide +kernel
theorem dJ6_getChars_ba4f3_84 : decode cJ6_getChars_ba4f3 84 = .ok (.bastore, 1) := by decide +kernel
theorem dJ6_getChars_ba4f3_85 : decode cJ6_getChars_ba4f3 85 = .ok (.iload_n 0, 1) := by decide +kernel
theorem dJ6_getChars_ba4f3_86 : decode cJ6_getChars_ba4f3 86 = .ok (.bipush (-9), 2) := by decide +kernel
theorem dJ6_getChars_ba4f3_88 : decode cJ6_getChars_ba4f3 88 = .ok (.if_icmp .ge 16, 3) := by decide +kernel
theorem dJ6_getChars_ba4f3_91 : decode cJ6_getChars_ba4f3 91 = .ok (.aload_n 2, 1) := by decide +kernel
theorem dJ6_getChars_ba4f3_92 : decode cJ6_getChars_ba4f3 92 = .ok (.iinc 5 (-1), 3) := by decide +kernel
theorem dJ6_getChars_ba4f3_95 : decode cJ6_getChars_ba4f3 95 = .ok (.iload 5, 2) := by decide +kernel
theorem dJ6_getChars_ba4f3_97 : decode cJ6_getChars_ba4f3 97 = .ok (.getstatic 87, 3) := by decide +kernel
theorem dJ6_getChars_ba4f3_100 : decode cJ6_getChars_ba4f3 100 = .ok (.iload_n 0, 1) := by decide +kernel
theorem dJ6_getChars_ba4f3_101 : decode cJ6_getChars_ba4f3 101 = .ok (.ineg, 1) := by decide +kernel
theorem dJ6_getChars_ba4f3_102 : decode cJ6_getChars_ba4f3 102 = .ok (.baload, 1) := by decide +kernel
theorem dJ6_getChars_ba4f3_103 : decode cJ6_getChars_ba4f3 103 = .ok (.bastore, 1) := by decide +kernel
theorem dJ6_getChars_ba4f3_104 : decode cJ6_getChars_ba4f3 104 = .ok (.iload 6, 2) := by decide +kernel
theorem dJ6_getChars_ba4f3_106 : decode cJ6_getChars_ba4f3 106 = .ok (.ifCond .eq 12, 3) := by decide +kernel
theorem dJ6_getChars_ba4f3_109 : decode cJ6_getChars_ba4f3 109 = .ok (.aload_n 2, 1) := by decide +kernel
theorem dJ6_getChars_ba4f3_110 : decode cJ6_getChars_ba4f3 110 = .ok (.iinc 5 (-1), 3) := by decide +kernel
theorem dJ6_getChars_ba4f3_113 : decode cJ6_getChars_ba4f3 113 = .ok (.iload 5, 2) := by decide +kernel
theorem dJ6_getChars_ba4f3_115 : decode cJ6_getChars_ba4f3 115 = .ok (.bipush 45, 2) := by decide +kernel
theorem dJ6_getChars_ba4f3_117 : decode cJ6_getChars_ba4f3 117 = .ok (.bastore, 1) := by decide +kernel
theorem dJ6_getChars_ba4f3_118 : decode cJ6_getChars_ba4f3 118 = .ok (.iload 5, 2) := by decide +kernel
theorem dJ6_getChars_ba4f3_120 : decode cJ6_getChars_ba4f3 120 = .ok (.ireturn, 1) := by decide +kernel
def f_J6_getChars_ba4f3_104 (a2 : Nat) (i5 : Int32) (i6 : Int32) (M : zM) : Option (Int32 × zM) :=
  if i6 = 0 then
  some (i5, M)
  else
  (tB M a2 ((i5 + (-1 : Int32))) ((45 : Int32))).bind fun M1 =>
  some ((i5 + (-1 : Int32)), M1)
set_option maxRecDepth 20000 in
set_option maxHeartbeats 4000000 in
theorem s_J6_getChars_ba4f3_104 {L : zL} {X : zX} {M0 : zM} {N : Nat × Nat} {Q : State → Prop} {r : Int32 × zM} (hq : vQ L X M0 N Q (some (.int r.1)) r.2) {a2 : Nat} {i5 : Int32} {i6 : Int32} {M : zM} (h : f_J6_getChars_ba4f3_104 a2 i5 i6 M = some r) : V L X yJ6_getChars_ba4f3 cJ6_getChars_ba4f3 7 (some FieldType.int) 1 M0 N Q M 104 [(2, .ref (zad L (a2))), (5, .int (i5)), (6, .int (i6))] [] := by
  unfold f_J6_getChars_ba4f3_104 at h
  refine V_iload dJ6_getChars_ba4f3_104 2 rfl ?_
  refine V_if_eq (tgt := 118) dJ6_getChars_ba4f3_106 (by decide) (fun c2 => ?_) (fun c2 => ?_)
  · replace h := (oi h).1 c2
    refine V_iload dJ6_getChars_ba4f3_118 1 rfl ?_
    obtain rfl := Option.some.inj h
    exact V_iret rfl hq dJ6_getChars_ba4f3_120
  · replace h := (oi h).2 c2
    refine V_aload_n dJ6_getChars_ba4f3_109 rfl 0 rfl ?_
    refine V_iinc (v := i5 + (-1 : Int32)) (ls' := [(5, .int ((i5 + (-1 : Int32)))), (2, .ref (zad L (a2))), (6, .int (i6))]) dJ6_getChars_ba4f3_110 1 rfl (by rfl) (by decide) rfl ?_
    refine V_iload dJ6_getChars_ba4f3_113 0 rfl ?_
    refine V_bipush (v := 45) dJ6_getChars_ba4f3_115 (by decide) ?_
    replace h := ob h
    obtain ⟨M1, e_M1, h⟩ := h
    refine V_bast e_M1 dJ6_getChars_ba4f3_117 ?_
    refine V_iload dJ6_getChars_ba4f3_118 0 rfl ?_
    obtain rfl := Option.some.inj h
    exact V_iret rfl hq dJ6_getChars_ba4f3_120
def f_J6_getChars_ba4f3_22 (n : Nat) (i0 : Int32) (a2 : Nat) (i5 : Int32) (i6 : Int32) (M : zM) : Option (Int32 × zM) := match n with
  | 0 => none
  | n + 1 =>
    if ((-100 : Int32)) < i0 then
    (lA 1 M 6 ((-i0))).bind fun v1 =>
    (tB M a2 ((i5 + (-1 : Int32))) v1).bind fun M2 =>
    if ((-9 : Int32)) ≤ i0 then
    f_J6_getChars_ba4f3_104 a2 ((i5 + (-1 : Int32))) i6 M2
    else
    (lA 1 M2 7 ((-i0))).bind fun v3 =>
    (tB M2 a2 ((((i5 + (-1 : Int32))) + (-1 : Int32))) v3).bind fun M4 =>
    f_J6_getChars_ba4f3_104 a2 ((((i5 + (-1 : Int32))) + (-1 : Int32))) i6 M4
    else
    (lA 1 M 6 ((((((i0 / ((100 : Int32)))) * ((100 : Int32)))) - i0))).bind fun v6 =>
    (tB M a2 ((i5 + (-1 : Int32))) v6).bind fun M7 =>
    (lA 1 M7 7 ((((((i0 / ((100 : Int32)))) * ((100 : Int32)))) - i0))).bind fun v8 =>
    (tB M7 a2 ((((i5 + (-1 : Int32))) + (-1 : Int32))) v8).bind fun M9 =>
    f_J6_getChars_ba4f3_22 n ((i0 / ((100 : Int32)))) a2 ((((i5 + (-1 : Int32))) + (-1 : Int32))) i6 M9
set_option maxRecDepth 20000 in
set_option maxHeartbeats 4000000 in
theorem s_J6_getChars_ba4f3_22 {L : zL} {X : zX} {M0 : zM} {N : Nat × Nat} {Q : State → Prop} {r : Int32 × zM} (hq : vQ L X M0 N Q (some (.int r.1)) r.2) {n : Nat} {i0 : Int32} {a2 : Nat} {i5 : Int32} {i6 : Int32} {M : zM} : f_J6_getChars_ba4f3_22 n i0 a2 i5 i6 M = some r → V L X yJ6_getChars_ba4f3 cJ6_getChars_ba4f3 7 (some FieldType.int) 1 M0 N Q M 22 [(0, .int (i0)), (2, .ref (zad L (a2))), (5, .int (i5)), (6, .int (i6))] [] := by
  induction n generalizing i0 a2 i5 i6 M with
  | zero =>
    intro h
    rw [f_J6_getChars_ba4f3_22] at h
    cases h
  | succ n ih0 =>
    intro h
    have ih : ∀ (i0 : Int32) (a2 : Nat) (i5 : Int32) (i6 : Int32) (M : zM), f_J6_getChars_ba4f3_22 n i0 a2 i5 i6 M = some r → V L X yJ6_getChars_ba4f3 cJ6_getChars_ba4f3 7 (some FieldType.int) 1 M0 N Q M 22 [(0, .int (i0)), (2, .ref (zad L (a2))), (5, .int (i5)), (6, .int (i6))] [] := fun i0 a2 i5 i6 M h => ih0 h
    rw [f_J6_getChars_ba4f3_22] at h
    refine V_iload_n dJ6_getChars_ba4f3_22 rfl 0 rfl ?_
    refine V_bipush (v := -100) dJ6_getChars_ba4f3_23 (by decide) ?_
    refine V_icmp_gt (tgt := 72) dJ6_getChars_ba4f3_25 (by decide) (fun c10 => ?_) (fun c10 => ?_)
    · replace h := (oi h).1 c10
      refine V_aload_n dJ6_getChars_ba4f3_72 rfl 1 rfl ?_
      refine V_iinc (v := i5 + (-1 : Int32)) (ls' := [(5, .int ((i5 + (-1 : Int32)))), (0, .int (i0)), (2, .ref (zad L (a2))), (6, .int (i6))]) dJ6_getChars_ba4f3_73 2 rfl (by rfl) (by decide) rfl ?_
      refine V_iload dJ6_getChars_ba4f3_76 0 rfl ?_
      refine V_gets (zst_7 L) zg_J6_83 rfl dJ6_getChars_ba4f3_78 ?_
      refine V_iload_n dJ6_getChars_ba4f3_81 rfl 1 rfl ?_
      refine V_ineg dJ6_getChars_ba4f3_82 ?_
      replace h := ob h
      obtain ⟨v1, e_v1, h⟩ := h
      refine V_bald e_v1 dJ6_getChars_ba4f3_83 ?_
      refine V_pc (pc' := 84) rfl ?_
      replace h := ob h
      obtain ⟨M2, e_M2, h⟩ := h
      refine V_bast e_M2 dJ6_getChars_ba4f3_84 ?_
      refine V_iload_n dJ6_getChars_ba4f3_85 rfl 1 rfl ?_
      refine V_bipush (v := -9) dJ6_getChars_ba4f3_86 (by decide) ?_
      refine V_icmp_ge (tgt := 104) dJ6_getChars_ba4f3_88 (by decide) (fun c5 => ?_) (fun c5 => ?_)
      · replace h := (oi h).1 c5
        refine V_sub [2, 0, 3] rfl ?_
        exact s_J6_getChars_ba4f3_104 hq h
      · replace h := (oi h).2 c5
        refine V_aload_n dJ6_getChars_ba4f3_91 rfl 2 rfl ?_
        refine V_iinc (v := ((i5 + (-1 : Int32))) + (-1 : Int32)) (ls' := [(5, .int ((((i5 + (-1 : Int32))) + (-1 : Int32)))), (0, .int (i0)), (2, .ref (zad L (a2))), (6, .int (i6))]) dJ6_getChars_ba4f3_92 0 rfl (by rfl) (by decide) rfl ?_
        refine V_iload dJ6_getChars_ba4f3_95 0 rfl ?_
        refine V_gets (zst_8 L) zg_J6_87 rfl dJ6_getChars_ba4f3_97 ?_
        refine V_iload_n dJ6_getChars_ba4f3_100 rfl 1 rfl ?_
        refine V_ineg dJ6_getChars_ba4f3_101 ?_
        replace h := ob h
        obtain ⟨v3, e_v3, h⟩ := h
        refine V_bald e_v3 dJ6_getChars_ba4f3_102 ?_
        refine V_pc (pc' := 103) rfl ?_
        replace h := ob h
        obtain ⟨M4, e_M4, h⟩ := h
        refine V_bast e_M4 dJ6_getChars_ba4f3_103 ?_
        refine V_sub [2, 0, 3] rfl ?_
        exact s_J6_getChars_ba4f3_104 hq h
    · replace h := (oi h).2 c10
      refine V_iload_n dJ6_getChars_ba4f3_28 rfl 0 rfl ?_
      refine V_bipush (v := 100) dJ6_getChars_ba4f3_29 (by decide) ?_
      refine V_idiv dJ6_getChars_ba4f3_31 (by decide) ?_
      refine V_istore_n (ls' := [(3, .int ((i0 / ((100 : Int32))))), (0, .int (i0)), (2, .ref (zad L (a2))), (5, .int (i5)), (6, .int (i6))]) dJ6_getChars_ba4f3_32 rfl (by decide) rfl ?_
      refine V_iload_n dJ6_getChars_ba4f3_33 rfl 0 rfl ?_
      refine V_bipush (v := 100) dJ6_getChars_ba4f3_34 (by decide) ?_
      refine V_imul dJ6_getChars_ba4f3_36 ?_
      refine V_iload_n dJ6_getChars_ba4f3_37 rfl 1 rfl ?_
      refine V_isub dJ6_getChars_ba4f3_38 ?_
      refine V_istore (ls' := [(4, .int ((((((i0 / ((100 : Int32)))) * ((100 : Int32)))) - i0))), (3, .int ((i0 / ((100 : Int32))))), (0, .int (i0)), (2, .ref (zad L (a2))), (5, .int (i5)), (6, .int (i6))]) dJ6_getChars_ba4f3_39 (by decide) rfl ?_
      refine V_iload_n dJ6_getChars_ba4f3_41 rfl 1 rfl ?_
      refine V_istore_n (ls' := [(0, .int ((i0 / ((100 : Int32))))), (4, .int ((((((i0 / ((100 : Int32)))) * ((100 : Int32)))) - i0))), (3, .int ((i0 / ((100 : Int32))))), (2, .ref (zad L (a2))), (5, .int (i5)), (6, .int (i6))]) dJ6_getChars_ba4f3_42 rfl (by decide) rfl ?_
      refine V_aload_n dJ6_getChars_ba4f3_43 rfl 3 rfl ?_
      refine V_iinc (v := i5 + (-1 : Int32)) (ls' := [(5, .int ((i5 + (-1 : Int32)))), (0, .int ((i0 / ((100 : Int32))))), (4, .int ((((((i0 / ((100 : Int32)))) * ((100 : Int32)))) - i0))), (3, .int ((i0 / ((100 : Int32))))), (2, .ref (zad L (a2))), (6, .int (i6))]) dJ6_getChars_ba4f3_44 4 rfl (by rfl) (by decide) rfl ?_
      refine V_iload dJ6_getChars_ba4f3_47 0 rfl ?_
      refine V_gets (zst_7 L) zg_J6_83 rfl dJ6_getChars_ba4f3_49 ?_
      refine V_iload dJ6_getChars_ba4f3_52 2 rfl ?_
      replace h := ob h
      obtain ⟨v6, e_v6, h⟩ := h
      refine V_bald e_v6 dJ6_getChars_ba4f3_54 ?_
      refine V_pc (pc' := 55) rfl ?_
      replace h := ob h
      obtain ⟨M7, e_M7, h⟩ := h
      refine V_bast e_M7 dJ6_getChars_ba4f3_55 ?_
      refine V_aload_n dJ6_getChars_ba4f3_56 rfl 4 rfl ?_
      refine V_iinc (v := ((i5 + (-1 : Int32))) + (-1 : Int32)) (ls' := [(5, .int ((((i5 + (-1 : Int32))) + (-1 : Int32)))), (0, .int ((i0 / ((100 : Int32))))), (4, .int ((((((i0 / ((100 : Int32)))) * ((100 : Int32)))) - i0))), (3, .int ((i0 / ((100 : Int32))))), (2, .ref (zad L (a2))), (6, .int (i6))]) dJ6_getChars_ba4f3_57 0 rfl (by rfl) (by decide) rfl ?_
      refine V_iload dJ6_getChars_ba4f3_60 0 rfl ?_
      refine V_gets (zst_8 L) zg_J6_87 rfl dJ6_getChars_ba4f3_62 ?_
      refine V_iload dJ6_getChars_ba4f3_65 2 rfl ?_
      replace h := ob h
      obtain ⟨v8, e_v8, h⟩ := h
      refine V_bald e_v8 dJ6_getChars_ba4f3_67 ?_
      refine V_pc (pc' := 68) rfl ?_
      replace h := ob h
      obtain ⟨M9, e_M9, h⟩ := h
      refine V_bast e_M9 dJ6_getChars_ba4f3_68 ?_
      refine V_goto (tgt := 22) dJ6_getChars_ba4f3_69 (by decide) ?_
      refine V_sub [1, 4, 0, 5] rfl ?_
      exact ih _ _ _ _ _ h
def f_J6_getChars_ba4f3_12 (i0 : Int32) (a2 : Nat) (i5 : Int32) (i_0 : Int32) (M : zM) : Option (Int32 × zM) :=
  if i_0 = 0 then
  f_J6_getChars_ba4f3_22 zN ((-i0)) a2 i5 i_0 M
  else
  f_J6_getChars_ba4f3_22 zN i0 a2 i5 i_0 M
set_option maxRecDepth 20000 in
set_option maxHeartbeats 4000000 in
theorem s_J6_getChars_ba4f3_12 {L : zL} {X : zX} {M0 : zM} {N : Nat × Nat} {Q : State → Prop} {r : Int32 × zM} (hq : vQ L X M0 N Q (some (.int r.1)) r.2) {i0 : Int32} {a2 : Nat} {i5 : Int32} {i_0 : Int32} {M : zM} (h : f_J6_getChars_ba4f3_12 i0 a2 i5 i_0 M = some r) : V L X yJ6_getChars_ba4f3 cJ6_getChars_ba4f3 7 (some FieldType.int) 1 M0 N Q M 12 [(0, .int (i0)), (2, .ref (zad L (a2))), (5, .int (i5))] [.int (i_0)] := by
  unfold f_J6_getChars_ba4f3_12 at h
  refine V_istore (ls' := [(6, .int (i_0)), (0, .int (i0)), (2, .ref (zad L (a2))), (5, .int (i5))]) dJ6_getChars_ba4f3_12 (by decide) rfl ?_
  refine V_iload dJ6_getChars_ba4f3_14 0 rfl ?_
  refine V_if_ne (tgt := 22) dJ6_getChars_ba4f3_16 (by decide) (fun c1 => ?_) (fun c1 => ?_)
  · replace h := (oi h).2 c1
    refine V_sub [1, 2, 3, 0] rfl ?_
    exact s_J6_getChars_ba4f3_22 hq h
  · replace h := (oi h).1 c1
    refine V_iload_n dJ6_getChars_ba4f3_19 rfl 1 rfl ?_
    refine V_ineg dJ6_getChars_ba4f3_20 ?_
    refine V_istore_n (ls' := [(0, .int ((-i0))), (6, .int (i_0)), (2, .ref (zad L (a2))), (5, .int (i5))]) dJ6_getChars_ba4f3_21 rfl (by decide) rfl ?_
    refine V_sub [0, 2, 3, 1] rfl ?_
    exact s_J6_getChars_ba4f3_22 hq h
def f_J6_getChars_ba4f3_0 (i0 : Int32) (i1 : Int32) (a2 : Nat) (M : zM) : Option (Int32 × zM) :=
  if 0 ≤ i0 then
  f_J6_getChars_ba4f3_12 i0 a2 i1 ((0 : Int32)) M
  else
  f_J6_getChars_ba4f3_12 i0 a2 i1 ((1 : Int32)) M
set_option maxRecDepth 20000 in
set_option maxHeartbeats 4000000 in
theorem s_J6_getChars_ba4f3_0 {L : zL} {X : zX} {M0 : zM} {N : Nat × Nat} {Q : State → Prop} {r : Int32 × zM} (hq : vQ L X M0 N Q (some (.int r.1)) r.2) {i0 : Int32} {i1 : Int32} {a2 : Nat} {M : zM} (h : f_J6_getChars_ba4f3_0 i0 i1 a2 M = some r) : V L X yJ6_getChars_ba4f3 cJ6_getChars_ba4f3 7 (some FieldType.int) 1 M0 N Q M 0 [(0, .int (i0)), (1, .int (i1)), (2, .ref (zad L (a2)))] [] := by
  unfold f_J6_getChars_ba4f3_0 at h
  refine V_iload_n dJ6_getChars_ba4f3_0 rfl 1 rfl ?_
  refine V_istore (ls' := [(5, .int (i1)), (0, .int (i0)), (1, .int (i1)), (2, .ref (zad L (a2)))]) dJ6_getChars_ba4f3_1 (by decide) rfl ?_
  refine V_iload_n dJ6_getChars_ba4f3_3 rfl 1 rfl ?_
  refine V_if_ge (tgt := 11) dJ6_getChars_ba4f3_4 (by decide) (fun c1 => ?_) (fun c1 => ?_)
  · replace h := (oi h).1 c1
    refine V_iconst (v := 0) dJ6_getChars_ba4f3_11 (by decide) ?_
    refine V_sub [1, 3, 0] rfl ?_
    exact s_J6_getChars_ba4f3_12 hq h
  · replace h := (oi h).2 c1
    refine V_iconst (v := 1) dJ6_getChars_ba4f3_7 (by decide) ?_
    refine V_goto (tgt := 12) dJ6_getChars_ba4f3_8 (by decide) ?_
    refine V_sub [1, 3, 0] rfl ?_
    exact s_J6_getChars_ba4f3_12 hq h
def f_J6_getChars_ba4f3 (i0 : Int32) (i1 : Int32) (a2 : Nat) (M : zM) : Option (Int32 × zM) := f_J6_getChars_ba4f3_0 i0 i1 a2 M
theorem c_J6_getChars_ba4f3 {L : zL} {l : Launch} {i0 : Int32} {i1 : Int32} {a2 : Nat} {M : zM} {r : Int32 × zM} (h : f_J6_getChars_ba4f3 i0 i1 a2 M = some r) : CP L l yJ6_getChars_ba4f3 cJ6_getChars_ba4f3 7 (some FieldType.int) 1 M [.int (i0), .int (i1), .ref (zad L (a2))] (some (.int r.1)) r.2 :=
  CP.of ⟨by decide +kernel, by decide +kernel⟩ (Nat.le_of_ble_eq_true rfl) fun X Q hq => s_J6_getChars_ba4f3_0 hq h
/-! java/lang/Integer.stringSize(I)I -/
theorem dJ6_stringSize_0f7a4_0 : decode cJ6_stringSize_0f7a4 0 = .ok (.iconst 1, 1) := by decide +kernel
theorem dJ6_stringSize_0f7a4_1 : decode cJ6_stringSize_0f7a4 1 = .ok (.istore_n 1, 1) := by decide +kernel
theorem dJ6_stringSize_0f7a4_2 : decode cJ6_stringSize_0f7a4 2 = .ok (.iload_n 0, 1) := by decide +kernel
theorem dJ6_stringSize_0f7a4_3 : decode cJ6_stringSize_0f7a4 3 = .ok (.ifCond .lt 8, 3) := by decide +kernel
theorem dJ6_stringSize_0f7a4_6 : decode cJ6_stringSize_0f7a4 6 = .ok (.iconst 0, 1) := by decide +kernel
theorem dJ6_stringSize_0f7a4_7 : decode cJ6_stringSize_0f7a4 7 = .ok (.istore_n 1, 1) := by decide +kernel
theorem dJ6_stringSize_0f7a4_8 : decode cJ6_stringSize_0f7a4 8 = .ok (.iload_n 0, 1) := by decide +kernel
theorem dJ6_stringSize_0f7a4_9 : decode cJ6_stringSize_0f7a4 9 = .ok (.ineg, 1) := by decide +kernel
theorem dJ6_stringSize_0f7a4_10 : decode cJ6_stringSize_0f7a4 10 = .ok (.istore_n 0, 1) := by decide +kernel
theorem dJ6_stringSize_0f7a4_11 : decode cJ6_stringSize_0f7a4 11 = .ok (.bipush (-10), 2) := by decide +kernel
theorem dJ6_stringSize_0f7a4_13 : decode cJ6_stringSize_0f7a4 13 = .ok (.istore_n 2, 1) := by decide +kernel
theorem dJ6_stringSize_0f7a4_14 : decode cJ6_stringSize_0f7a4 14 = .ok (.iconst 1, 1) := by decide +kernel
theorem dJ6_stringSize_0f7a4_15 : decode cJ6_stringSize_0f7a4 15 = .ok (.istore_n 3, 1) := by decide +kernel
theorem dJ6_stringSize_0f7a4_16 : decode cJ6_stringSize_0f7a4 16 = .ok (.iload_n 3, 1) := by decide +kernel
theorem dJ6_stringSize_0f7a4_17 : decode cJ6_stringSize_0f7a4 17 = .ok (.bipush 10, 2) := by decide +kernel
theorem dJ6_stringSize_0f7a4_19 : decode cJ6_stringSize_0f7a4 19 = .ok (.if_icmp .ge 23, 3) := by decide +kernel
theorem dJ6_stringSize_0f7a4_22 : decode cJ6_stringSize_0f7a4 22 = .ok (.iload_n 0, 1) := by decide +kernel
theorem dJ6_stringSize_0f7a4_23 : decode cJ6_stringSize_0f7a4 23 = .ok (.iload_n 2, 1) := by decide +kernel
theorem dJ6_stringSize_0f7a4_24 : decode cJ6_stringSize_0f7a4 24 = .ok (.if_icmp .le 7, 3) := by decide +kernel
theorem dJ6_stringSize_0f7a4_27 : decode cJ6_stringSize_0f7a4 27 = .ok (.iload_n 3, 1) := by decide +kernel
theorem dJ6_stringSize_0f7a4_28 : decode cJ6_stringSize_0f7a4 28 = .ok (.iload_n 1, 1) := by decide +kernel
theorem dJ6_stringSize_0f7a4_29 : decode cJ6_stringSize_0f7a4 29 = .ok (.iadd, 1) := by decide +kernel
theorem dJ6_stringSize_0f7a4_30 : decode cJ6_stringSize_0f7a4 30 = .ok (.ireturn, 1) := by decide +kernel
theorem dJ6_stringSize_0f7a4_31 : decode cJ6_stringSize_0f7a4 31 = .ok (.bipush 10, 2) := by decide +kernel
theorem dJ6_stringSize_0f7a4_33 : decode cJ6_stringSize_0f7a4 33 = .ok (.iload_n 2, 1) := by decide +kernel
theorem dJ6_stringSize_0f7a4_34 : decode cJ6_stringSize_0f7a4 34 = .ok (.imul, 1) := by decide +kernel
theorem dJ6_stringSize_0f7a4_35 : decode cJ6_stringSize_0f7a4 35 = .ok (.istore_n 2, 1) := by decide +kernel
theorem dJ6_stringSize_0f7a4_36 : decode cJ6_stringSize_0f7a4 36 = .ok (.iinc 3 1, 3) := by decide +kernel
theorem dJ6_stringSize_0f7a4_39 : decode cJ6_stringSize_0f7a4 39 = .ok (.goto (-23), 3) := by decide +kernel
theorem dJ6_stringSize_0f7a4_42 : decode cJ6_stringSize_0f7a4 42 = .ok (.bipush 10, 2) := by decide +kernel
theorem dJ6_stringSize_0f7a4_44 : decode cJ6_stringSize_0f7a4 44 = .ok (.iload_n 1, 1) := by decide +kernel
theorem dJ6_stringSize_0f7a4_45 : decode cJ6_stringSize_0f7a4 45 = .ok (.iadd, 1) := by decide +kernel
theorem dJ6_stringSize_0f7a4_46 : decode cJ6_stringSize_0f7a4 46 = .ok (.ireturn, 1) := by decide +kernel
def f_J6_stringSize_0f7a4_16 (n : Nat) (i0 : Int32) (i1 : Int32) (i2 : Int32) (i3 : Int32) (M : zM) : Option (Int32 × zM) := match n with
  | 0 => none
  | n + 1 =>
    if ((10 : Int32)) ≤ i3 then
    some ((((10 : Int32)) + i1), M)
    else
    if i0 ≤ i2 then
    f_J6_stringSize_0f7a4_16 n i0 i1 ((((10 : Int32)) * i2)) ((i3 + (1 : Int32))) M
    else
    some ((i3 + i1), M)
set_option maxRecDepth 20000 in
set_option maxHeartbeats 4000000 in
theorem s_J6_stringSize_0f7a4_16 {L : zL} {X : zX} {M0 : zM} {N : Nat × Nat} {Q : State → Prop} {r : Int32 × zM} (hq : vQ L X M0 N Q (some (.int r.1)) r.2) {n : Nat} {i0 : Int32} {i1 : Int32} {i2 : Int32} {i3 : Int32} {M : zM} : f_J6_stringSize_0f7a4_16 n i0 i1 i2 i3 M = some r → V L X yJ6_stringSize_0f7a4 cJ6_stringSize_0f7a4 4 (some FieldType.int) 1 M0 N Q M 16 [(0, .int (i0)), (1, .int (i1)), (2, .int (i2)), (3, .int (i3))] [] := by
  induction n generalizing i0 i1 i2 i3 M with
  | zero =>
    intro h
    rw [f_J6_stringSize_0f7a4_16] at h
    cases h
  | succ n ih0 =>
    intro h
    have ih : ∀ (i0 : Int32) (i1 : Int32) (i2 : Int32) (i3 : Int32) (M : zM), f_J6_stringSize_0f7a4_16 n i0 i1 i2 i3 M = some r → V L X yJ6_stringSize_0f7a4 cJ6_stringSize_0f7a4 4 (some FieldType.int) 1 M0 N Q M 16 [(0, .int (i0)), (1, .int (i1)), (2, .int (i2)), (3, .int (i3))] [] := fun i0 i1 i2 i3 M h => ih0 h
    rw [f_J6_stringSize_0f7a4_16] at h
    refine V_iload_n dJ6_stringSize_0f7a4_16 rfl 3 rfl ?_
    refine V_bipush (v := 10) dJ6_stringSize_0f7a4_17 (by decide) ?_
    refine V_icmp_ge (tgt := 42) dJ6_stringSize_0f7a4_19 (by decide) (fun c2 => ?_) (fun c2 => ?_)
    · replace h := (oi h).1 c2
      refine V_bipush (v := 10) dJ6_stringSize_0f7a4_42 (by decide) ?_
      refine V_iload_n dJ6_stringSize_0f7a4_44 rfl 1 rfl ?_
      refine V_iadd dJ6_stringSize_0f7a4_45 ?_
      obtain rfl := Option.some.inj h
      exact V_iret rfl hq dJ6_stringSize_0f7a4_46
    · replace h := (oi h).2 c2
      refine V_iload_n dJ6_stringSize_0f7a4_22 rfl 0 rfl ?_
      refine V_iload_n dJ6_stringSize_0f7a4_23 rfl 2 rfl ?_
      refine V_icmp_le (tgt := 31) dJ6_stringSize_0f7a4_24 (by decide) (fun c1 => ?_) (fun c1 => ?_)
      · replace h := (oi h).1 c1
        refine V_bipush (v := 10) dJ6_stringSize_0f7a4_31 (by decide) ?_
        refine V_iload_n dJ6_stringSize_0f7a4_33 rfl 2 rfl ?_
        refine V_imul dJ6_stringSize_0f7a4_34 ?_
        refine V_istore_n (ls' := [(2, .int ((((10 : Int32)) * i2))), (0, .int (i0)), (1, .int (i1)), (3, .int (i3))]) dJ6_stringSize_0f7a4_35 rfl (by decide) rfl ?_
        refine V_iinc (v := i3 + (1 : Int32)) (ls' := [(3, .int ((i3 + (1 : Int32)))), (2, .int ((((10 : Int32)) * i2))), (0, .int (i0)), (1, .int (i1))]) dJ6_stringSize_0f7a4_36 3 rfl (by rfl) (by decide) rfl ?_
        refine V_goto (tgt := 16) dJ6_stringSize_0f7a4_39 (by decide) ?_
        refine V_sub [2, 3, 1, 0] rfl ?_
        exact ih _ _ _ _ _ h
      · replace h := (oi h).2 c1
        refine V_iload_n dJ6_stringSize_0f7a4_27 rfl 3 rfl ?_
        refine V_iload_n dJ6_stringSize_0f7a4_28 rfl 1 rfl ?_
        refine V_iadd dJ6_stringSize_0f7a4_29 ?_
        obtain rfl := Option.some.inj h
        exact V_iret rfl hq dJ6_stringSize_0f7a4_30
def f_J6_stringSize_0f7a4_11 (i0 : Int32) (i1 : Int32) (M : zM) : Option (Int32 × zM) :=
  f_J6_stringSize_0f7a4_16 zN i0 i1 ((-10 : Int32)) ((1 : Int32)) M
set_option maxRecDepth 20000 in
set_option maxHeartbeats 4000000 in
theorem s_J6_stringSize_0f7a4_11 {L : zL} {X : zX} {M0 : zM} {N : Nat × Nat} {Q : State → Prop} {r : Int32 × zM} (hq : vQ L X M0 N Q (some (.int r.1)) r.2) {i0 : Int32} {i1 : Int32} {M : zM} (h : f_J6_stringSize_0f7a4_11 i0 i1 M = some r) : V L X yJ6_stringSize_0f7a4 cJ6_stringSize_0f7a4 4 (some FieldType.int) 1 M0 N Q M 11 [(0, .int (i0)), (1, .int (i1))] [] := by
  unfold f_J6_stringSize_0f7a4_11 at h
  refine V_bipush (v := -10) dJ6_stringSize_0f7a4_11 (by decide) ?_
  refine V_istore_n (ls' := [(2, .int ((-10 : Int32))), (0, .int (i0)), (1, .int (i1))]) dJ6_stringSize_0f7a4_13 rfl (by decide) rfl ?_
  refine V_iconst (v := 1) dJ6_stringSize_0f7a4_14 (by decide) ?_
  refine V_istore_n (ls' := [(3, .int ((1 : Int32))), (2, .int ((-10 : Int32))), (0, .int (i0)), (1, .int (i1))]) dJ6_stringSize_0f7a4_15 rfl (by decide) rfl ?_
  refine V_sub [2, 3, 1, 0] rfl ?_
  exact s_J6_stringSize_0f7a4_16 hq h
def f_J6_stringSize_0f7a4_0 (i0 : Int32) (M : zM) : Option (Int32 × zM) :=
  if i0 < 0 then
  f_J6_stringSize_0f7a4_11 i0 ((1 : Int32)) M
  else
  f_J6_stringSize_0f7a4_11 ((-i0)) ((0 : Int32)) M
set_option maxRecDepth 20000 in
set_option maxHeartbeats 4000000 in
theorem s_J6_stringSize_0f7a4_0 {L : zL} {X : zX} {M0 : zM} {N : Nat × Nat} {Q : State → Prop} {r : Int32 × zM} (hq : vQ L X M0 N Q (some (.int r.1)) r.2) {i0 : Int32} {M : zM} (h : f_J6_stringSize_0f7a4_0 i0 M = some r) : V L X yJ6_stringSize_0f7a4 cJ6_stringSize_0f7a4 4 (some FieldType.int) 1 M0 N Q M 0 [(0, .int (i0))] [] := by
  unfold f_J6_stringSize_0f7a4_0 at h
  refine V_iconst (v := 1) dJ6_stringSize_0f7a4_0 (by decide) ?_
  refine V_istore_n (ls' := [(1, .int ((1 : Int32))), (0, .int (i0))]) dJ6_stringSize_0f7a4_1 rfl (by decide) rfl ?_
  refine V_iload_n dJ6_stringSize_0f7a4_2 rfl 1 rfl ?_
  refine V_if_lt (tgt := 11) dJ6_stringSize_0f7a4_3 (by decide) (fun c1 => ?_) (fun c1 => ?_)
  · replace h := (oi h).1 c1
    refine V_sub [1, 0] rfl ?_
    exact s_J6_stringSize_0f7a4_11 hq h
  · replace h := (oi h).2 c1
    refine V_iconst (v := 0) dJ6_stringSize_0f7a4_6 (by decide) ?_
    refine V_istore_n (ls' := [(1, .int ((0 : Int32))), (0, .int (i0))]) dJ6_stringSize_0f7a4_7 rfl (by decide) rfl ?_
    refine V_iload_n dJ6_stringSize_0f7a4_8 rfl 1 rfl ?_
    refine V_ineg dJ6_stringSize_0f7a4_9 ?_
    refine V_istore_n (ls' := [(0, .int ((-i0))), (1, .int ((0 : Int32)))]) dJ6_stringSize_0f7a4_10 rfl (by decide) rfl ?_
    exact s_J6_stringSize_0f7a4_11 hq h
def f_J6_stringSize_0f7a4 (i0 : Int32) (M : zM) : Option (Int32 × zM) := f_J6_stringSize_0f7a4_0 i0 M
theorem c_J6_stringSize_0f7a4 {L : zL} {l : Launch} {i0 : Int32} {M : zM} {r : Int32 × zM} (h : f_J6_stringSize_0f7a4 i0 M = some r) : CP L l yJ6_stringSize_0f7a4 cJ6_stringSize_0f7a4 4 (some FieldType.int) 1 M [.int (i0)] (some (.int r.1)) r.2 :=
  CP.of ⟨by decide +kernel, by decide +kernel⟩ (Nat.le_of_ble_eq_true rfl) fun X Q hq => s_J6_stringSize_0f7a4_0 hq h
/-! java/lang/AbstractStringBuilder.append(I)Ljava/lang/AbstractStringBuilder; -/
theorem dJ5_append_c97b9_0 : decode cJ5_append_c97b9 0 = .ok (.aload_n 0, 1) := by decide +kernel
theorem dJ5_append_c97b9_1 : decode cJ5_append_c97b9 1 = .ok (.getfield 79, 3) := by decide +kernel
theorem dJ5_append_c97b9_4 : decode cJ5_append_c97b9 4 = .ok (.istore_n 2, 1) := by decide +kernel
theorem dJ5_append_c97b9_5 : decode cJ5_append_c97b9 5 = .ok (.iload_n 2, 1) := by decide +kernel
theorem dJ5_append_c97b9_6 : decode cJ5_append_c97b9 6 = .ok (.iload_n 1, 1) := by decide +kernel
theorem dJ5_append_c97b9_7 : decode cJ5_append_c97b9 7 = .ok (.invokestatic 245, 3) := by decide +kernel
theorem dJ5_append_c97b9_10 : decode cJ5_append_c97b9 10 = .ok (.iadd, 1) := by decide +kernel
theorem dJ5_append_c97b9_11 : decode cJ5_append_c97b9 11 = .ok (.istore_n 3, 1) := by decide +kernel
theorem dJ5_append_c97b9_12 : decode cJ5_append_c97b9 12 = .ok (.aload_n 0, 1) := by decide +kernel
theorem dJ5_append_c97b9_13 : decode cJ5_append_c97b9 13 = .ok (.iload_n 3, 1) := by decide +kernel
theorem dJ5_append_c97b9_14 : decode cJ5_append_c97b9 14 = .ok (.invokevirtual 100, 3) := by decide +kernel
theorem dJ5_append_c97b9_17 : decode cJ5_append_c97b9 17 = .ok (.aload_n 0, 1) := by decide +kernel
theorem dJ5_append_c97b9_18 : decode cJ5_append_c97b9 18 = .ok (.invokevirtual 83, 3) := by decide +kernel
theorem dJ5_append_c97b9_21 : decode cJ5_append_c97b9 21 = .ok (.ifCond .eq 16, 3) := by decide +kernel
theorem dJ5_append_c97b9_24 : decode cJ5_append_c97b9 24 = .ok (.iload_n 1, 1) := by decide +kernel
theorem dJ5_append_c97b9_25 : decode cJ5_append_c97b9 25 = .ok (.iload_n 3, 1) := by decide +kernel
theorem dJ5_append_c97b9_26 : decode cJ5_append_c97b9 26 = .ok (.aload_n 0, 1) := by decide +kernel
theorem dJ5_append_c97b9_27 : decode cJ5_append_c97b9 27 = .ok (.getfield 15, 3) := by decide +kernel
theorem dJ5_append_c97b9_30 : decode cJ5_append_c97b9 30 = .ok (.invokestatic 248, 3) := by decide +kernel
theorem dJ5_append_c97b9_33 : decode cJ5_append_c97b9 33 = .ok (.pop, 1) := by decide +kernel
theorem dJ5_append_c97b9_34 : decode cJ5_append_c97b9 34 = .ok (.goto 14, 3) := by decide +kernel
theorem dJ5_append_c97b9_37 : decode cJ5_append_c97b9 37 = .ok (.iload_n 1, 1) := by decide +kernel
theorem dJ5_append_c97b9_38 : decode cJ5_append_c97b9 38 = .ok (.iload_n 2, 1) := by decide +kernel
theorem dJ5_append_c97b9_39 : decode cJ5_append_c97b9 39 = .ok (.iload_n 3, 1) := by decide +kernel
theorem dJ5_append_c97b9_40 : decode cJ5_append_c97b9 40 = .ok (.aload_n 0, 1) := by decide +kernel
theorem dJ5_append_c97b9_41 : decode cJ5_append_c97b9 41 = .ok (.getfield 15, 3) := by decide +kernel
theorem dJ5_append_c97b9_44 : decode cJ5_append_c97b9 44 = .ok (.invokestatic 251, 3) := by decide +kernel
theorem dJ5_append_c97b9_47 : decode cJ5_append_c97b9 47 = .ok (.pop, 1) := by decide +kernel
theorem dJ5_append_c97b9_48 : decode cJ5_append_c97b9 48 = .ok (.aload_n 0, 1) := by decide +kernel
theorem dJ5_append_c97b9_49 : decode cJ5_append_c97b9 49 = .ok (.iload_n 3, 1) := by decide +kernel
theorem dJ5_append_c97b9_50 : decode cJ5_append_c97b9 50 = .ok (.putfield 79, 3) := by decide +kernel
theorem dJ5_append_c97b9_53 : decode cJ5_append_c97b9 53 = .ok (.aload_n 0, 1) := by decide +kernel
theorem dJ5_append_c97b9_54 : decode cJ5_append_c97b9 54 = .ok (.areturn, 1) := by decide +kernel
def f_J5_append_c97b9_48 (a0 : Nat) (i3 : Int32) (M : zM) : Option (Nat × zM) :=
  (pI 2 3 M a0 i3).bind fun M1 =>
  some (a0, M1)
set_option maxRecDepth 20000 in
set_option maxHeartbeats 4000000 in
theorem s_J5_append_c97b9_48 {L : zL} {X : zX} {M0 : zM} {N : Nat × Nat} {Q : State → Prop} {r : Nat × zM} (hq : vQ L X M0 N Q (some (.ref (zad L r.1))) r.2) {a0 : Nat} {i3 : Int32} {M : zM} (h : f_J5_append_c97b9_48 a0 i3 M = some r) : V L X yJ5_append_c97b9 cJ5_append_c97b9 4 (Option.some (FieldType.object "java/lang/AbstractStringBuilder")) 5 M0 N Q M 48 [(0, .ref (zad L (a0))), (3, .int (i3))] [] := by
  unfold f_J5_append_c97b9_48 at h
  refine V_aload_n dJ5_append_c97b9_48 rfl 0 rfl ?_
  refine V_iload_n dJ5_append_c97b9_49 rfl 1 rfl ?_
  replace h := ob h
  obtain ⟨M1, e_M1, h⟩ := h
  refine V_putI zf_2_3 zl_J5_79 (Or.inl rfl) rfl e_M1 dJ5_append_c97b9_50 ?_
  refine V_pc (pc' := 53) rfl ?_
  refine V_aload_n dJ5_append_c97b9_53 rfl 0 rfl ?_
  obtain rfl := Option.some.inj h
  exact V_aret rfl (by first | exact Or.inl ⟨_, rfl⟩ | exact Or.inr ⟨_, rfl⟩) hq dJ5_append_c97b9_54
def f_J5_append_c97b9_0 (a0 : Nat) (i1 : Int32) (M : zM) : Option (Nat × zM) :=
  (gI 2 3 M a0).bind fun v1 =>
  (f_J6_stringSize_0f7a4 i1 M).bind fun r2 =>
  if mK r2.2 a0 = 2 then
  (f_J5_ensureCapacityInternal_d00df a0 ((v1 + r2.1)) r2.2).bind fun r3 =>
  if mK r3.2 a0 = 2 then
  (f_J5_isLatin1_aae02 a0 r3.2).bind fun r5 =>
  if r5.1 = 0 then
  (gR 2 0 r5.2 a0).bind fun v7 =>
  none
  else
  (gR 2 0 r5.2 a0).bind fun v8 =>
  (f_J6_getChars_ba4f3 i1 ((v1 + r2.1)) v8 r5.2).bind fun r9 =>
  f_J5_append_c97b9_48 a0 ((v1 + r2.1)) r9.2
  else none
  else none
set_option maxRecDepth 20000 in
set_option maxHeartbeats 4000000 in
theorem s_J5_append_c97b9_0 {L : zL} {X : zX} {M0 : zM} {N : Nat × Nat} {Q : State → Prop} {r : Nat × zM} (hq : vQ L X M0 N Q (some (.ref (zad L r.1))) r.2) {a0 : Nat} {i1 : Int32} {M : zM} (h : f_J5_append_c97b9_0 a0 i1 M = some r) : V L X yJ5_append_c97b9 cJ5_append_c97b9 4 (Option.some (FieldType.object "java/lang/AbstractStringBuilder")) 5 M0 N Q M 0 [(0, .ref (zad L (a0))), (1, .int (i1))] [] := by
  unfold f_J5_append_c97b9_0 at h
  refine V_aload_n dJ5_append_c97b9_0 rfl 0 rfl ?_
  replace h := ob h
  obtain ⟨v1, e_v1, h⟩ := h
  refine V_getI zf_2_3 zl_J5_79 e_v1 dJ5_append_c97b9_1 ?_
  refine V_pc (pc' := 4) rfl ?_
  refine V_istore_n (ls' := [(2, .int (v1)), (0, .ref (zad L (a0))), (1, .int (i1))]) dJ5_append_c97b9_4 rfl (by decide) rfl ?_
  refine V_iload_n dJ5_append_c97b9_5 rfl 0 rfl ?_
  refine V_iload_n dJ5_append_c97b9_6 rfl 2 rfl ?_
  replace h := ob h
  obtain ⟨r2, e_r2, h⟩ := h
  refine V_callS_I (As := [.int (i1)]) (rest := [.int (v1)]) (c_J6_stringSize_0f7a4 e_r2) zc_J6_stringSize_0f7a4 rfl (by decide) zm_J5_245 (Nat.le_of_ble_eq_true rfl) rfl dJ5_append_c97b9_7 ?_
  refine V_pc (pc' := 10) rfl ?_
  refine V_iadd dJ5_append_c97b9_10 ?_
  refine V_istore_n (ls' := [(3, .int ((v1 + r2.1))), (2, .int (v1)), (0, .ref (zad L (a0))), (1, .int (i1))]) dJ5_append_c97b9_11 rfl (by decide) rfl ?_
  refine V_aload_n dJ5_append_c97b9_12 rfl 2 rfl ?_
  refine V_iload_n dJ5_append_c97b9_13 rfl 0 rfl ?_
  replace h := ox h
  obtain ⟨c4, h⟩ := h
  replace h := ob h
  obtain ⟨r3, e_r3, h⟩ := h
  refine V_callV_V (As := [.int ((v1 + r2.1))]) (rest := []) (c_J5_ensureCapacityInternal_d00df e_r3) zc_J5_ensureCapacityInternal_d00df rfl (by decide) rfl (by decide) (Or.inl c4) zm_J5_100 (Nat.le_of_ble_eq_true rfl) rfl dJ5_append_c97b9_14 ?_
  refine V_pc (pc' := 17) rfl ?_
  refine V_aload_n dJ5_append_c97b9_17 rfl 2 rfl ?_
  replace h := ox h
  obtain ⟨c6, h⟩ := h
  replace h := ob h
  obtain ⟨r5, e_r5, h⟩ := h
  refine V_callV_I (As := []) (rest := []) (c_J5_isLatin1_aae02 e_r5) zc_J5_isLatin1_aae02 rfl (by decide) rfl (by decide) (Or.inl c6) zm_J5_83 (Nat.le_of_ble_eq_true rfl) rfl dJ5_append_c97b9_18 ?_
  refine V_pc (pc' := 21) rfl ?_
  refine V_if_eq (tgt := 37) dJ5_append_c97b9_21 (by decide) (fun c10 => ?_) (fun c10 => ?_)
  · replace h := (oi h).1 c10
    refine V_iload_n dJ5_append_c97b9_37 rfl 3 rfl ?_
    refine V_iload_n dJ5_append_c97b9_38 rfl 1 rfl ?_
    refine V_iload_n dJ5_append_c97b9_39 rfl 0 rfl ?_
    refine V_aload_n dJ5_append_c97b9_40 rfl 2 rfl ?_
    replace h := ob h
    obtain ⟨v7, e_v7, h⟩ := h
    refine V_getR zf_2_0 zl_J5_15 e_v7 dJ5_append_c97b9_41 ?_
    refine V_pc (pc' := 44) rfl ?_
    cases h
  · replace h := (oi h).2 c10
    refine V_iload_n dJ5_append_c97b9_24 rfl 3 rfl ?_
    refine V_iload_n dJ5_append_c97b9_25 rfl 0 rfl ?_
    refine V_aload_n dJ5_append_c97b9_26 rfl 2 rfl ?_
    replace h := ob h
    obtain ⟨v8, e_v8, h⟩ := h
    refine V_getR zf_2_0 zl_J5_15 e_v8 dJ5_append_c97b9_27 ?_
    refine V_pc (pc' := 30) rfl ?_
    replace h := ob h
    obtain ⟨r9, e_r9, h⟩ := h
    refine V_callS_I (As := [.int (i1), .int ((v1 + r2.1)), .ref (zad L (v8))]) (rest := []) (c_J6_getChars_ba4f3 e_r9) zc_J6_getChars_ba4f3 rfl (by decide) zm_J5_248 (Nat.le_of_ble_eq_true rfl) rfl dJ5_append_c97b9_30 ?_
    refine V_pc (pc' := 33) rfl ?_
    refine V_pop dJ5_append_c97b9_33 rfl ?_
    refine V_goto (tgt := 48) dJ5_append_c97b9_34 (by decide) ?_
    refine V_sub [2, 0] rfl ?_
    exact s_J5_append_c97b9_48 hq h
def f_J5_append_c97b9 (a0 : Nat) (i1 : Int32) (M : zM) : Option (Nat × zM) := f_J5_append_c97b9_0 a0 i1 M
theorem c_J5_append_c97b9 {L : zL} {l : Launch} {a0 : Nat} {i1 : Int32} {M : zM} {r : Nat × zM} (h : f_J5_append_c97b9 a0 i1 M = some r) : CP L l yJ5_append_c97b9 cJ5_append_c97b9 4 (Option.some (FieldType.object "java/lang/AbstractStringBuilder")) 5 M [.ref (zad L (a0)), .int (i1)] (some (.ref (zad L r.1))) r.2 :=
  CP.of ⟨by decide +kernel, by decide +kernel⟩ (Nat.le_of_ble_eq_true rfl) fun X Q hq => s_J5_append_c97b9_0 hq h
/-! java/lang/StringBuilder.append(I)Ljava/lang/StringBuilder; -/
theorem dJ4_append_bf812_0 : decode cJ4_append_bf812 0 = .ok (.aload_n 0, 1) := by decide +kernel
theorem dJ4_append_bf812_1 : decode cJ4_append_bf812 1 = .ok (.iload_n 1, 1) := by decide +kernel
theorem dJ4_append_bf812_2 : decode cJ4_append_bf812 2 = .ok (.invokespecial 53, 3) := by decide +kernel
theorem dJ4_append_bf812_5 : decode cJ4_append_bf812 5 = .ok (.pop, 1) := by decide +kernel
theorem dJ4_append_bf812_6 : decode cJ4_append_bf812 6 = .ok (.aload_n 0, 1) := by decide +kernel
theorem dJ4_append_bf812_7 : decode cJ4_append_bf812 7 = .ok (.areturn, 1) := by decide +kernel
def f_J4_append_bf812_0 (a0 : Nat) (i1 : Int32) (M : zM) : Option (Nat × zM) :=
  if mK M a0 = 2 then
  (f_J5_append_c97b9 a0 i1 M).bind fun r1 =>
  some (a0, r1.2)
  else none
set_option maxRecDepth 20000 in
set_option maxHeartbeats 4000000 in
theorem s_J4_append_bf812_0 {L : zL} {X : zX} {M0 : zM} {N : Nat × Nat} {Q : State → Prop} {r : Nat × zM} (hq : vQ L X M0 N Q (some (.ref (zad L r.1))) r.2) {a0 : Nat} {i1 : Int32} {M : zM} (h : f_J4_append_bf812_0 a0 i1 M = some r) : V L X yJ4_append_bf812 cJ4_append_bf812 2 (Option.some (FieldType.object "java/lang/StringBuilder")) 6 M0 N Q M 0 [(0, .ref (zad L (a0))), (1, .int (i1))] [] := by
  unfold f_J4_append_bf812_0 at h
  refine V_aload_n dJ4_append_bf812_0 rfl 0 rfl ?_
  refine V_iload_n dJ4_append_bf812_1 rfl 1 rfl ?_
  replace h := ox h
  obtain ⟨c2, h⟩ := h
  replace h := ob h
  obtain ⟨r1, e_r1, h⟩ := h
  refine V_callU_A (As := [.int (i1)]) (rest := []) (c_J5_append_c97b9 e_r1) zc_J5_append_c97b9 rfl (by decide) rfl (by decide) (Or.inl c2) zm_J4_53 (Nat.le_of_ble_eq_true rfl) rfl dJ4_append_bf812_2 ?_
  refine V_pc (pc' := 5) rfl ?_
  refine V_pop dJ4_append_bf812_5 rfl ?_
  refine V_aload_n dJ4_append_bf812_6 rfl 0 rfl ?_
  obtain rfl := Option.some.inj h
  exact V_aret rfl (by first | exact Or.inl ⟨_, rfl⟩ | exact Or.inr ⟨_, rfl⟩) hq dJ4_append_bf812_7
def f_J4_append_bf812 (a0 : Nat) (i1 : Int32) (M : zM) : Option (Nat × zM) := f_J4_append_bf812_0 a0 i1 M
theorem c_J4_append_bf812 {L : zL} {l : Launch} {a0 : Nat} {i1 : Int32} {M : zM} {r : Nat × zM} (h : f_J4_append_bf812 a0 i1 M = some r) : CP L l yJ4_append_bf812 cJ4_append_bf812 2 (Option.some (FieldType.object "java/lang/StringBuilder")) 6 M [.ref (zad L (a0)), .int (i1)] (some (.ref (zad L r.1))) r.2 :=
  CP.of ⟨by decide +kernel, by decide +kernel⟩ (Nat.le_of_ble_eq_true rfl) fun X Q hq => s_J4_append_bf812_0 hq h
/-! java/util/Arrays.checkLength(II)V -/
theorem dJ7_checkLength_df160_0 : decode cJ7_checkLength_df160 0 = .ok (.iload_n 1, 1) := by decide +kernel
theorem dJ7_checkLength_df160_1 : decode cJ7_checkLength_df160 1 = .ok (.iload_n 0, 1) := by decide +kernel
theorem dJ7_checkLength_df160_2 : decode cJ7_checkLength_df160 2 = .ok (.if_icmp .ge 35, 3) := by decide +kernel
theorem dJ7_checkLength_df160_5 : decode cJ7_checkLength_df160 5 = .ok (.new 43, 3) := by decide +kernel
theorem dJ7_checkLength_df160_8 : decode cJ7_checkLength_df160 8 = .ok (.dup, 1) := by decide +kernel
theorem dJ7_checkLength_df160_9 : decode cJ7_checkLength_df160 9 = .ok (.new 45, 3) := by decide +kernel
theorem dJ7_checkLength_df160_12 : decode cJ7_checkLength_df160 12 = .ok (.dup, 1) := by decide +kernel
theorem dJ7_checkLength_df160_13 : decode cJ7_checkLength_df160 13 = .ok (.invokespecial 47, 3) := by decide +kernel
theorem dJ7_checkLength_df160_16 : decode cJ7_checkLength_df160 16 = .ok (.iload_n 0, 1) := by decide +kernel
theorem dJ7_checkLength_df160_17 : decode cJ7_checkLength_df160 17 = .ok (.invokevirtual 54, 3) := by decide +kernel
theorem dJ7_checkLength_df160_20 : decode cJ7_checkLength_df160 20 = .ok (.ldc_w 337, 3) := by decide +kernel
theorem dJ7_checkLength_df160_23 : decode cJ7_checkLength_df160 23 = .ok (.invokevirtual 50, 3) := by decide +kernel
theorem dJ7_checkLength_df160_26 : decode cJ7_checkLength_df160 26 = .ok (.iload_n 1, 1) := by decide +kernel
theorem dJ7_checkLength_df160_27 : decode cJ7_checkLength_df160 27 = .ok (.invokevirtual 54, 3) := by decide +kernel
theorem dJ7_checkLength_df160_30 : decode cJ7_checkLength_df160 30 = .ok (.invokevirtual 61, 3) := by decide +kernel
theorem dJ7_checkLength_df160_33 : decode cJ7_checkLength_df160 33 = .ok (.invokespecial 65, 3) := by decide +kernel
theorem dJ7_checkLength_df160_36 : decode cJ7_checkLength_df160 36 = .ok (.athrow, 1) := by decide +kernel
theorem dJ7_checkLength_df160_37 : decode cJ7_checkLength_df160 37 = .ok (.return_, 1) := by decide +kernel
def f_J7_checkLength_df160_0 (i0 : Int32) (i1 : Int32) (M : zM) : Option (Unit × zM) :=
  if i0 ≤ i1 then
  some ((), M)
  else
  none
set_option maxRecDepth 20000 in
set_option maxHeartbeats 4000000 in
theorem s_J7_checkLength_df160_0 {L : zL} {X : zX} {M0 : zM} {N : Nat × Nat} {Q : State → Prop} {r : Unit × zM} (hq : vQ L X M0 N Q none r.2) {i0 : Int32} {i1 : Int32} {M : zM} (h : f_J7_checkLength_df160_0 i0 i1 M = some r) : V L X yJ7_checkLength_df160 cJ7_checkLength_df160 2 (none : Option FieldType) 7 M0 N Q M 0 [(0, .int (i0)), (1, .int (i1))] [] := by
  unfold f_J7_checkLength_df160_0 at h
  refine V_iload_n dJ7_checkLength_df160_0 rfl 1 rfl ?_
  refine V_iload_n dJ7_checkLength_df160_1 rfl 0 rfl ?_
  refine V_icmp_ge (tgt := 37) dJ7_checkLength_df160_2 (by decide) (fun c1 => ?_) (fun c1 => ?_)
  · replace h := (oi h).1 c1
    obtain rfl := Option.some.inj h
    exact V_vret rfl hq dJ7_checkLength_df160_37
  · replace h := (oi h).2 c1
    cases h
def f_J7_checkLength_df160 (i0 : Int32) (i1 : Int32) (M : zM) : Option (Unit × zM) := f_J7_checkLength_df160_0 i0 i1 M
theorem c_J7_checkLength_df160 {L : zL} {l : Launch} {i0 : Int32} {i1 : Int32} {M : zM} {r : Unit × zM} (h : f_J7_checkLength_df160 i0 i1 M = some r) : CP L l yJ7_checkLength_df160 cJ7_checkLength_df160 2 (none : Option FieldType) 7 M [.int (i0), .int (i1)] none r.2 :=
  CP.of ⟨by decide +kernel, by decide +kernel⟩ (Nat.le_of_ble_eq_true rfl) fun X Q hq => s_J7_checkLength_df160_0 hq h
/-! java/util/Arrays.copyOfRangeByte([BII)[B -/
theorem dJ7_copyOfRangeByte_39247_0 : decode cJ7_copyOfRangeByte_39247 0 = .ok (.iload_n 1, 1) := by decide +kernel
theorem dJ7_copyOfRangeByte_39247_1 : decode cJ7_copyOfRangeByte_39247 1 = .ok (.iload_n 2, 1) := by decide +kernel
theorem dJ7_copyOfRangeByte_39247_2 : decode cJ7_copyOfRangeByte_39247 2 = .ok (.invokestatic 343, 3) := by decide +kernel
theorem dJ7_copyOfRangeByte_39247_5 : decode cJ7_copyOfRangeByte_39247 5 = .ok (.iload_n 2, 1) := by decide +kernel
theorem dJ7_copyOfRangeByte_39247_6 : decode cJ7_copyOfRangeByte_39247 6 = .ok (.iload_n 1, 1) := by decide +kernel
theorem dJ7_copyOfRangeByte_39247_7 : decode cJ7_copyOfRangeByte_39247 7 = .ok (.isub, 1) := by decide +kernel
theorem dJ7_copyOfRangeByte_39247_8 : decode cJ7_copyOfRangeByte_39247 8 = .ok (.istore_n 3, 1) := by decide +kernel
theorem dJ7_copyOfRangeByte_39247_9 : decode cJ7_copyOfRangeByte_39247 9 = .ok (.iload_n 3, 1) := by decide +kernel
theorem dJ7_copyOfRangeByte_39247_10 : decode cJ7_copyOfRangeByte_39247 10 = .ok (.newarray .byte, 2) := by decide +kernel
theorem dJ7_copyOfRangeByte_39247_12 : decode cJ7_copyOfRangeByte_39247 12 = .ok (.astore 4, 2) := by decide +kernel
theorem dJ7_copyOfRangeByte_39247_14 : decode cJ7_copyOfRangeByte_39247 14 = .ok (.aload_n 0, 1) := by decide +kernel
theorem dJ7_copyOfRangeByte_39247_15 : decode cJ7_copyOfRangeByte_39247 15 = .ok (.iload_n 1, 1) := by decide +kernel
theorem dJ7_copyOfRangeByte_39247_16 : decode cJ7_copyOfRangeByte_39247 16 = .ok (.aload 4, 2) := by decide +kernel
theorem dJ7_copyOfRangeByte_39247_18 : decode cJ7_copyOfRangeByte_39247 18 = .ok (.iconst 0, 1) := by decide +kernel
theorem dJ7_copyOfRangeByte_39247_19 : decode cJ7_copyOfRangeByte_39247 19 = .ok (.aload_n 0, 1) := by decide +kernel
theorem dJ7_copyOfRangeByte_39247_20 : decode cJ7_copyOfRangeByte_39247 20 = .ok (.arraylength, 1) := by decide +kernel
theorem dJ7_copyOfRangeByte_39247_21 : decode cJ7_copyOfRangeByte_39247 21 = .ok (.iload_n 1, 1) := by decide +kernel
theorem dJ7_copyOfRangeByte_39247_22 : decode cJ7_copyOfRangeByte_39247 22 = .ok (.isub, 1) := by decide +kernel
theorem dJ7_copyOfRangeByte_39247_23 : decode cJ7_copyOfRangeByte_39247 23 = .ok (.iload_n 3, 1) := by decide +kernel
theorem dJ7_copyOfRangeByte_39247_24 : decode cJ7_copyOfRangeByte_39247 24 = .ok (.invokestatic 304, 3) := by decide +kernel
theorem dJ7_copyOfRangeByte_39247_27 : decode cJ7_copyOfRangeByte_39247 27 = .ok (.invokestatic 150, 3) := by decide +kernel
theorem dJ7_copyOfRangeByte_39247_30 : decode cJ7_copyOfRangeByte_39247 30 = .ok (.aload 4, 2) := by decide +kernel
theorem dJ7_copyOfRangeByte_39247_32 : decode cJ7_copyOfRangeByte_39247 32 = .ok (.areturn, 1) := by decide +kernel
def f_J7_copyOfRangeByte_39247_0 (a0 : Nat) (i1 : Int32) (i2 : Int32) (M : zM) : Option (Nat × zM) :=
  (f_J7_checkLength_df160 i1 i2 M).bind fun r1 =>
  (aA 1 r1.2 ((i2 - i1))).bind fun r2 =>
  (gL r2.2 a0).bind fun v3 =>
  (f_J9_min_7cf53 ((v3 - i1)) ((i2 - i1)) r2.2).bind fun r4 =>
  (yI 1 r4.2 a0 i1 r2.1 ((0 : Int32)) r4.1).bind fun M5 =>
  some (r2.1, M5)
set_option maxRecDepth 20000 in
set_option maxHeartbeats 4000000 in
theorem s_J7_copyOfRangeByte_39247_0 {L : zL} {X : zX} {M0 : zM} {N : Nat × Nat} {Q : State → Prop} {r : Nat × zM} (hq : vQ L X M0 N Q (some (.ref (zad L r.1))) r.2) {a0 : Nat} {i1 : Int32} {i2 : Int32} {M : zM} (h : f_J7_copyOfRangeByte_39247_0 a0 i1 i2 M = some r) : V L X yJ7_copyOfRangeByte_39247 cJ7_copyOfRangeByte_39247 5 (Option.some (FieldType.array FieldType.byte)) 8 M0 N Q M 0 [(0, .ref (zad L (a0))), (1, .int (i1)), (2, .int (i2))] [] := by
  unfold f_J7_copyOfRangeByte_39247_0 at h
  refine V_iload_n dJ7_copyOfRangeByte_39247_0 rfl 1 rfl ?_
  refine V_iload_n dJ7_copyOfRangeByte_39247_1 rfl 2 rfl ?_
  replace h := ob h
  obtain ⟨r1, e_r1, h⟩ := h
  refine V_callS_V (As := [.int (i1), .int (i2)]) (rest := []) (c_J7_checkLength_df160 e_r1) zc_J7_checkLength_df160 rfl (by decide) zm_J7_343 (Nat.le_of_ble_eq_true rfl) rfl dJ7_copyOfRangeByte_39247_2 ?_
  refine V_pc (pc' := 5) rfl ?_
  refine V_iload_n dJ7_copyOfRangeByte_39247_5 rfl 2 rfl ?_
  refine V_iload_n dJ7_copyOfRangeByte_39247_6 rfl 1 rfl ?_
  refine V_isub dJ7_copyOfRangeByte_39247_7 ?_
  refine V_istore_n (ls' := [(3, .int ((i2 - i1))), (0, .ref (zad L (a0))), (1, .int (i1)), (2, .int (i2))]) dJ7_copyOfRangeByte_39247_8 rfl (by decide) rfl ?_
  refine V_iload_n dJ7_copyOfRangeByte_39247_9 rfl 0 rfl ?_
  replace h := ob h
  obtain ⟨r2, e_r2, h⟩ := h
  refine V_newa (t := 1) (by decide) rfl zna_1 e_r2 dJ7_copyOfRangeByte_39247_10 ?_
  refine V_pc (pc' := 12) rfl ?_
  refine V_astore (ls' := [(4, .ref (zad L (r2.1))), (3, .int ((i2 - i1))), (0, .ref (zad L (a0))), (1, .int (i1)), (2, .int (i2))]) dJ7_copyOfRangeByte_39247_12 (by decide) rfl ?_
  refine V_aload_n dJ7_copyOfRangeByte_39247_14 rfl 2 rfl ?_
  refine V_iload_n dJ7_copyOfRangeByte_39247_15 rfl 3 rfl ?_
  refine V_aload dJ7_copyOfRangeByte_39247_16 0 rfl ?_
  refine V_iconst (v := 0) dJ7_copyOfRangeByte_39247_18 (by decide) ?_
  refine V_aload_n dJ7_copyOfRangeByte_39247_19 rfl 2 rfl ?_
  replace h := ob h
  obtain ⟨v3, e_v3, h⟩ := h
  refine V_alen e_v3 dJ7_copyOfRangeByte_39247_20 ?_
  refine V_pc (pc' := 21) rfl ?_
  refine V_iload_n dJ7_copyOfRangeByte_39247_21 rfl 3 rfl ?_
  refine V_isub dJ7_copyOfRangeByte_39247_22 ?_
  refine V_iload_n dJ7_copyOfRangeByte_39247_23 rfl 1 rfl ?_
  replace h := ob h
  obtain ⟨r4, e_r4, h⟩ := h
  refine V_callS_I (As := [.int ((v3 - i1)), .int ((i2 - i1))]) (rest := [.int ((0 : Int32)), .ref (zad L (r2.1)), .int (i1), .ref (zad L (a0))]) (c_J9_min_7cf53 e_r4) zc_J9_min_7cf53 rfl (by decide) zm_J7_304 (Nat.le_of_ble_eq_true rfl) rfl dJ7_copyOfRangeByte_39247_24 ?_
  refine V_pc (pc' := 27) rfl ?_
  replace h := ob h
  obtain ⟨M5, e_M5, h⟩ := h
  refine V_copyI (t := 1) (by decide) e_M5 zac_J7_150 (by decide) (Nat.le_of_ble_eq_true rfl) dJ7_copyOfRangeByte_39247_27 ?_
  refine V_aload dJ7_copyOfRangeByte_39247_30 0 rfl ?_
  obtain rfl := Option.some.inj h
  exact V_aret rfl (by first | exact Or.inl ⟨_, rfl⟩ | exact Or.inr ⟨_, rfl⟩) hq dJ7_copyOfRangeByte_39247_32
def f_J7_copyOfRangeByte_39247 (a0 : Nat) (i1 : Int32) (i2 : Int32) (M : zM) : Option (Nat × zM) := f_J7_copyOfRangeByte_39247_0 a0 i1 i2 M
theorem c_J7_copyOfRangeByte_39247 {L : zL} {l : Launch} {a0 : Nat} {i1 : Int32} {i2 : Int32} {M : zM} {r : Nat × zM} (h : f_J7_copyOfRangeByte_39247 a0 i1 i2 M = some r) : CP L l yJ7_copyOfRangeByte_39247 cJ7_copyOfRangeByte_39247 5 (Option.some (FieldType.array FieldType.byte)) 8 M [.ref (zad L (a0)), .int (i1), .int (i2)] (some (.ref (zad L r.1))) r.2 :=
  CP.of ⟨by decide +kernel, by decide +kernel⟩ (Nat.le_of_ble_eq_true rfl) fun X Q hq => s_J7_copyOfRangeByte_39247_0 hq h
/-! java/util/Arrays.copyOfRange([BII)[B -/
theorem dJ7_copyOfRange_39247_0 : decode cJ7_copyOfRange_39247 0 = .ok (.iload_n 1, 1) := by decide +kernel
theorem dJ7_copyOfRange_39247_1 : decode cJ7_copyOfRange_39247 1 = .ok (.ifCond .ne 9, 3) := by decide +kernel
theorem dJ7_copyOfRange_39247_4 : decode cJ7_copyOfRange_39247 4 = .ok (.iload_n 2, 1) := by decide +kernel
theorem dJ7_copyOfRange_39247_5 : decode cJ7_copyOfRange_39247 5 = .ok (.aload_n 0, 1) := by decide +kernel
theorem dJ7_copyOfRange_39247_6 : decode cJ7_copyOfRange_39247 6 = .ok (.arraylength, 1) := by decide +kernel
theorem dJ7_copyOfRange_39247_7 : decode cJ7_copyOfRange_39247 7 = .ok (.if_icmp .eq 10, 3) := by decide +kernel
theorem dJ7_copyOfRange_39247_10 : decode cJ7_copyOfRange_39247 10 = .ok (.aload_n 0, 1) := by decide +kernel
theorem dJ7_copyOfRange_39247_11 : decode cJ7_copyOfRange_39247 11 = .ok (.iload_n 1, 1) := by decide +kernel
theorem dJ7_copyOfRange_39247_12 : decode cJ7_copyOfRange_39247 12 = .ok (.iload_n 2, 1) := by decide +kernel
theorem dJ7_copyOfRange_39247_13 : decode cJ7_copyOfRange_39247 13 = .ok (.invokestatic 339, 3) := by decide +kernel
theorem dJ7_copyOfRange_39247_16 : decode cJ7_copyOfRange_39247 16 = .ok (.areturn, 1) := by decide +kernel
theorem dJ7_copyOfRange_39247_17 : decode cJ7_copyOfRange_39247 17 = .ok (.aload_n 0, 1) := by decide +kernel
theorem dJ7_copyOfRange_39247_18 : decode cJ7_copyOfRange_39247 18 = .ok (.invokevirtual 310, 3) := by decide +kernel
theorem dJ7_copyOfRange_39247_21 : decode cJ7_copyOfRange_39247 21 = .ok (.checkcast 311, 3) := by decide +kernel
theorem dJ7_copyOfRange_39247_24 : decode cJ7_copyOfRange_39247 24 = .ok (.areturn, 1) := by decide +kernel
def f_J7_copyOfRange_39247_10 (a0 : Nat) (i1 : Int32) (i2 : Int32) (M : zM) : Option (Nat × zM) :=
  (f_J7_copyOfRangeByte_39247 a0 i1 i2 M).bind fun r1 =>
  some (r1.1, r1.2)
set_option maxRecDepth 20000 in
set_option maxHeartbeats 4000000 in
theorem s_J7_copyOfRange_39247_10 {L : zL} {X : zX} {M0 : zM} {N : Nat × Nat} {Q : State → Prop} {r : Nat × zM} (hq : vQ L X M0 N Q (some (.ref (zad L r.1))) r.2) {a0 : Nat} {i1 : Int32} {i2 : Int32} {M : zM} (h : f_J7_copyOfRange_39247_10 a0 i1 i2 M = some r) : V L X yJ7_copyOfRange_39247 cJ7_copyOfRange_39247 3 (Option.some (FieldType.array FieldType.byte)) 9 M0 N Q M 10 [(0, .ref (zad L (a0))), (1, .int (i1)), (2, .int (i2))] [] := by
  unfold f_J7_copyOfRange_39247_10 at h
  refine V_aload_n dJ7_copyOfRange_39247_10 rfl 0 rfl ?_
  refine V_iload_n dJ7_copyOfRange_39247_11 rfl 1 rfl ?_
  refine V_iload_n dJ7_copyOfRange_39247_12 rfl 2 rfl ?_
  replace h := ob h
  obtain ⟨r1, e_r1, h⟩ := h
  refine V_callS_A (As := [.ref (zad L (a0)), .int (i1), .int (i2)]) (rest := []) (c_J7_copyOfRangeByte_39247 e_r1) zc_J7_copyOfRangeByte_39247 rfl (by decide) zm_J7_339 (Nat.le_of_ble_eq_true rfl) rfl dJ7_copyOfRange_39247_13 ?_
  refine V_pc (pc' := 16) rfl ?_
  obtain rfl := Option.some.inj h
  exact V_aret rfl (by first | exact Or.inl ⟨_, rfl⟩ | exact Or.inr ⟨_, rfl⟩) hq dJ7_copyOfRange_39247_16
def f_J7_copyOfRange_39247_0 (a0 : Nat) (i1 : Int32) (i2 : Int32) (M : zM) : Option (Nat × zM) :=
  if i1 = 0 then
  (gL M a0).bind fun v1 =>
  if i2 = v1 then
  (aC M a0).bind fun r2 =>
  if mK r2.2 r2.1 = 101 then
  some (r2.1, r2.2)
  else none
  else
  f_J7_copyOfRange_39247_10 a0 i1 i2 M
  else
  f_J7_copyOfRange_39247_10 a0 i1 i2 M
set_option maxRecDepth 20000 in
set_option maxHeartbeats 4000000 in
theorem s_J7_copyOfRange_39247_0 {L : zL} {X : zX} {M0 : zM} {N : Nat × Nat} {Q : State → Prop} {r : Nat × zM} (hq : vQ L X M0 N Q (some (.ref (zad L r.1))) r.2) {a0 : Nat} {i1 : Int32} {i2 : Int32} {M : zM} (h : f_J7_copyOfRange_39247_0 a0 i1 i2 M = some r) : V L X yJ7_copyOfRange_39247 cJ7_copyOfRange_39247 3 (Option.some (FieldType.array FieldType.byte)) 9 M0 N Q M 0 [(0, .ref (zad L (a0))), (1, .int (i1)), (2, .int (i2))] [] := by
  unfold f_J7_copyOfRange_39247_0 at h
  refine V_iload_n dJ7_copyOfRange_39247_0 rfl 1 rfl ?_
  refine V_if_ne (tgt := 10) dJ7_copyOfRange_39247_1 (by decide) (fun c5 => ?_) (fun c5 => ?_)
  · replace h := (oi h).2 c5
    exact s_J7_copyOfRange_39247_10 hq h
  · replace h := (oi h).1 c5
    refine V_iload_n dJ7_copyOfRange_39247_4 rfl 2 rfl ?_
    refine V_aload_n dJ7_copyOfRange_39247_5 rfl 0 rfl ?_
    replace h := ob h
    obtain ⟨v1, e_v1, h⟩ := h
    refine V_alen e_v1 dJ7_copyOfRange_39247_6 ?_
    refine V_pc (pc' := 7) rfl ?_
    refine V_icmp_eq (tgt := 17) dJ7_copyOfRange_39247_7 (by decide) (fun c4 => ?_) (fun c4 => ?_)
    · replace h := (oi h).1 c4
      refine V_aload_n dJ7_copyOfRange_39247_17 rfl 0 rfl ?_
      replace h := ob h
      obtain ⟨r2, e_r2, h⟩ := h
      refine V_cloneB e_r2 zclw_J7_310 (by decide) (Nat.le_of_ble_eq_true rfl) dJ7_copyOfRange_39247_18 ?_
      replace h := ox h
      obtain ⟨c3, h⟩ := h
      refine V_castB c3 zk_J7_311 dJ7_copyOfRange_39247_21 ?_
      obtain rfl := Option.some.inj h
      exact V_aret rfl (by first | exact Or.inl ⟨_, rfl⟩ | exact Or.inr ⟨_, rfl⟩) hq dJ7_copyOfRange_39247_24
    · replace h := (oi h).2 c4
      exact s_J7_copyOfRange_39247_10 hq h
def f_J7_copyOfRange_39247 (a0 : Nat) (i1 : Int32) (i2 : Int32) (M : zM) : Option (Nat × zM) := f_J7_copyOfRange_39247_0 a0 i1 i2 M
theorem c_J7_copyOfRange_39247 {L : zL} {l : Launch} {a0 : Nat} {i1 : Int32} {i2 : Int32} {M : zM} {r : Nat × zM} (h : f_J7_copyOfRange_39247 a0 i1 i2 M = some r) : CP L l yJ7_copyOfRange_39247 cJ7_copyOfRange_39247 3 (Option.some (FieldType.array FieldType.byte)) 9 M [.ref (zad L (a0)), .int (i1), .int (i2)] (some (.ref (zad L r.1))) r.2 :=
  CP.of ⟨by decide +kernel, by decide +kernel⟩ (Nat.le_of_ble_eq_true rfl) fun X Q hq => s_J7_copyOfRange_39247_0 hq h
/-! java/lang/String.<init>(Ljava/lang/AbstractStringBuilder;Ljava/lang/Void;)V -/
theorem dJ0_init_db425_0 : decode cJ0_init_db425 0 = .ok (.aload_n 0, 1) := by decide +kernel
theorem dJ0_init_db425_1 : decode cJ0_init_db425 1 = .ok (.invokespecial 1, 3) := by decide +kernel
theorem dJ0_init_db425_4 : decode cJ0_init_db425 4 = .ok (.aload_n 1, 1) := by decide +kernel
theorem dJ0_init_db425_5 : decode cJ0_init_db425 5 = .ok (.invokevirtual 552, 3) := by decide +kernel
theorem dJ0_init_db425_8 : decode cJ0_init_db425 8 = .ok (.astore_n 3, 1) := by decide +kernel
theorem dJ0_init_db425_9 : decode cJ0_init_db425 9 = .ok (.aload_n 1, 1) := by decide +kernel
theorem dJ0_init_db425_10 : decode cJ0_init_db425 10 = .ok (.invokevirtual 549, 3) := by decide +kernel
theorem dJ0_init_db425_13 : decode cJ0_init_db425 13 = .ok (.istore 4, 2) := by decide +kernel
theorem dJ0_init_db425_15 : decode cJ0_init_db425 15 = .ok (.aload_n 1, 1) := by decide +kernel
theorem dJ0_init_db425_16 : decode cJ0_init_db425 16 = .ok (.invokevirtual 1047, 3) := by decide +kernel
theorem dJ0_init_db425_19 : decode cJ0_init_db425 19 = .ok (.ifCond .eq 22, 3) := by decide +kernel
theorem dJ0_init_db425_22 : decode cJ0_init_db425 22 = .ok (.aload_n 0, 1) := by decide +kernel
theorem dJ0_init_db425_23 : decode cJ0_init_db425 23 = .ok (.iconst 0, 1) := by decide +kernel
theorem dJ0_init_db425_24 : decode cJ0_init_db425 24 = .ok (.putfield 15, 3) := by decide +kernel
theorem dJ0_init_db425_27 : decode cJ0_init_db425 27 = .ok (.aload_n 0, 1) := by decide +kernel
theorem dJ0_init_db425_28 : decode cJ0_init_db425 28 = .ok (.aload_n 3, 1) := by decide +kernel
theorem dJ0_init_db425_29 : decode cJ0_init_db425 29 = .ok (.iconst 0, 1) := by decide +kernel
theorem dJ0_init_db425_30 : decode cJ0_init_db425 30 = .ok (.iload 4, 2) := by decide +kernel
theorem dJ0_init_db425_32 : decode cJ0_init_db425 32 = .ok (.invokestatic 54, 3) := by decide +kernel
theorem dJ0_init_db425_35 : decode cJ0_init_db425 35 = .ok (.putfield 9, 3) := by decide +kernel
theorem dJ0_init_db425_38 : decode cJ0_init_db425 38 = .ok (.goto 59, 3) := by decide +kernel
theorem dJ0_init_db425_41 : decode cJ0_init_db425 41 = .ok (.getstatic 38, 3) := by decide +kernel
theorem dJ0_init_db425_44 : decode cJ0_init_db425 44 = .ok (.ifCond .eq 35, 3) := by decide +kernel
theorem dJ0_init_db425_47 : decode cJ0_init_db425 47 = .ok (.aload_n 1, 1) := by decide +kernel
theorem dJ0_init_db425_48 : decode cJ0_init_db425 48 = .ok (.getfield 1048, 3) := by decide +kernel
theorem dJ0_init_db425_51 : decode cJ0_init_db425 51 = .ok (.ifCond .eq 28, 3) := by decide +kernel
theorem dJ0_init_db425_54 : decode cJ0_init_db425 54 = .ok (.aload_n 0, 1) := by decide +kernel
theorem dJ0_init_db425_55 : decode cJ0_init_db425 55 = .ok (.aload_n 3, 1) := by decide +kernel
theorem dJ0_init_db425_56 : decode cJ0_init_db425 56 = .ok (.iconst 0, 1) := by decide +kernel
theorem dJ0_init_db425_57 : decode cJ0_init_db425 57 = .ok (.iload 4, 2) := by decide +kernel
theorem dJ0_init_db425_59 : decode cJ0_init_db425 59 = .ok (.invokestatic 1051, 3) := by decide +kernel
theorem dJ0_init_db425_62 : decode cJ0_init_db425 62 = .ok (.putfield 9, 3) := by decide +kernel
theorem dJ0_init_db425_65 : decode cJ0_init_db425 65 = .ok (.aload_n 0, 1) := by decide +kernel
theorem dJ0_init_db425_66 : decode cJ0_init_db425 66 = .ok (.aload_n 0, 1) := by decide +kernel
theorem dJ0_init_db425_67 : decode cJ0_init_db425 67 = .ok (.getfield 9, 3) := by decide +kernel
theorem dJ0_init_db425_70 : decode cJ0_init_db425 70 = .ok (.iload 4, 2) := by decide +kernel
theorem dJ0_init_db425_72 : decode cJ0_init_db425 72 = .ok (.invokestatic 47, 3) := by decide +kernel
theorem dJ0_init_db425_75 : decode cJ0_init_db425 75 = .ok (.putfield 15, 3) := by decide +kernel
theorem dJ0_init_db425_78 : decode cJ0_init_db425 78 = .ok (.return_, 1) := by decide +kernel
theorem dJ0_init_db425_79 : decode cJ0_init_db425 79 = .ok (.aload_n 0, 1) := by decide +kernel
theorem dJ0_init_db425_80 : decode cJ0_init_db425 80 = .ok (.iconst 1, 1) := by decide +kernel
theorem dJ0_init_db425_81 : decode cJ0_init_db425 81 = .ok (.putfield 15, 3) := by decide +kernel
theorem dJ0_init_db425_84 : decode cJ0_init_db425 84 = .ok (.aload_n 0, 1) := by decide +kernel
theorem dJ0_init_db425_85 : decode cJ0_init_db425 85 = .ok (.aload_n 3, 1) := by decide +kernel
theorem dJ0_init_db425_86 : decode cJ0_init_db425 86 = .ok (.iconst 0, 1) := by decide +kernel
theorem dJ0_init_db425_87 : decode cJ0_init_db425 87 = .ok (.iload 4, 2) := by decide +kernel
theorem dJ0_init_db425_89 : decode cJ0_init_db425 89 = .ok (.iconst 1, 1) := by decide +kernel
theorem dJ0_init_db425_90 : decode cJ0_init_db425 90 = .ok (.ishl, 1) := by decide +kernel
theorem dJ0_init_db425_91 : decode cJ0_init_db425 91 = .ok (.invokestatic 54, 3) := by decide +kernel
theorem dJ0_init_db425_94 : decode cJ0_init_db425 94 = .ok (.putfield 9, 3) := by decide +kernel
theorem dJ0_init_db425_97 : decode cJ0_init_db425 97 = .ok (.return_, 1) := by decide +kernel
def f_J0_init_db425_79 (a0 : Nat) (a3 : Nat) (i4 : Int32) (M : zM) : Option (Unit × zM) :=
  (pZ 1 1 M a0 ((1 : Int32))).bind fun M1 =>
  (f_J7_copyOfRange_39247 a3 ((0 : Int32)) ((i4 <<< (((1 : Int32)) &&& 31))) M1).bind fun r2 =>
  (pR 1 0 r2.2 a0 r2.1).bind fun M3 =>
  some ((), M3)
set_option maxRecDepth 20000 in
set_option maxHeartbeats 4000000 in
theorem s_J0_init_db425_79 {L : zL} {X : zX} {M0 : zM} {N : Nat × Nat} {Q : State → Prop} {r : Unit × zM} (hq : vQ L X M0 N Q none r.2) {a0 : Nat} {a3 : Nat} {i4 : Int32} {M : zM} (h : f_J0_init_db425_79 a0 a3 i4 M = some r) : V L X yJ0_init_db425 cJ0_init_db425 5 (none : Option FieldType) 10 M0 N Q M 79 [(0, .ref (zad L (a0))), (3, .ref (zad L (a3))), (4, .int (i4))] [] := by
  unfold f_J0_init_db425_79 at h
  refine V_aload_n dJ0_init_db425_79 rfl 0 rfl ?_
  refine V_iconst (v := 1) dJ0_init_db425_80 (by decide) ?_
  replace h := ob h
  obtain ⟨M1, e_M1, h⟩ := h
  refine V_putB zf_1_1 zl_J0_15 (Or.inr ⟨rfl, rfl, rfl⟩) rfl e_M1 dJ0_init_db425_81 ?_
  refine V_pc (pc' := 84) rfl ?_
  refine V_aload_n dJ0_init_db425_84 rfl 0 rfl ?_
  refine V_aload_n dJ0_init_db425_85 rfl 1 rfl ?_
  refine V_iconst (v := 0) dJ0_init_db425_86 (by decide) ?_
  refine V_iload dJ0_init_db425_87 2 rfl ?_
  refine V_iconst (v := 1) dJ0_init_db425_89 (by decide) ?_
  refine V_ishl dJ0_init_db425_90 ?_
  replace h := ob h
  obtain ⟨r2, e_r2, h⟩ := h
  refine V_callS_A (As := [.ref (zad L (a3)), .int ((0 : Int32)), .int ((i4 <<< (((1 : Int32)) &&& 31)))]) (rest := [.ref (zad L (a0))]) (c_J7_copyOfRange_39247 e_r2) zc_J7_copyOfRange_39247 rfl (by decide) zm_J0_54 (Nat.le_of_ble_eq_true rfl) rfl dJ0_init_db425_91 ?_
  refine V_pc (pc' := 94) rfl ?_
  replace h := ob h
  obtain ⟨M3, e_M3, h⟩ := h
  refine V_putR zf_1_0 zl_J0_9 (Or.inr ⟨rfl, rfl, rfl⟩) rfl e_M3 dJ0_init_db425_94 ?_
  refine V_pc (pc' := 97) rfl ?_
  obtain rfl := Option.some.inj h
  exact V_vret rfl hq dJ0_init_db425_97
def f_J0_init_db425_0 (a0 : Nat) (a1 : Nat) (M : zM) : Option (Unit × zM) :=
  if mK M a1 = 2 then
  (f_J5_getValue_6d5f1 a1 M).bind fun r1 =>
  if mK r1.2 a1 = 2 then
  (f_J4_length_8abf5 a1 r1.2).bind fun r3 =>
  if mK r3.2 a1 = 2 then
  (f_J5_isLatin1_aae02 a1 r3.2).bind fun r5 =>
  if r5.1 = 0 then
  if ((1 : Int32)) = 0 then
  f_J0_init_db425_79 a0 r1.1 r3.1 r5.2
  else
  (gI 2 2 r5.2 a1).bind fun v7 =>
  if v7 = 0 then
  f_J0_init_db425_79 a0 r1.1 r3.1 r5.2
  else
  none
  else
  (pZ 1 1 r5.2 a0 ((0 : Int32))).bind fun M10 =>
  (f_J7_copyOfRange_39247 r1.1 ((0 : Int32)) r3.1 M10).bind fun r11 =>
  (pR 1 0 r11.2 a0 r11.1).bind fun M12 =>
  some ((), M12)
  else none
  else none
  else none
set_option maxRecDepth 20000 in
set_option maxHeartbeats 4000000 in
theorem s_J0_init_db425_0 {L : zL} {X : zX} {M0 : zM} {N : Nat × Nat} {Q : State → Prop} {r : Unit × zM} (hq : vQ L X M0 N Q none r.2) {a0 : Nat} {a1 : Nat} {g2 : Option Nat} {M : zM} (h : f_J0_init_db425_0 a0 a1 M = some r) : V L X yJ0_init_db425 cJ0_init_db425 5 (none : Option FieldType) 10 M0 N Q M 0 [(0, .ref (zad L (a0))), (1, .ref (zad L (a1))), (2, va_rf (g2))] [] := by
  unfold f_J0_init_db425_0 at h
  refine V_sub [0, 1] rfl ?_
  refine V_aload_n dJ0_init_db425_0 rfl 0 rfl ?_
  refine V_objInit zo_J0_1 (by decide) (Nat.le_of_ble_eq_true rfl) dJ0_init_db425_1 ?_
  refine V_aload_n dJ0_init_db425_4 rfl 1 rfl ?_
  replace h := ox h
  obtain ⟨c2, h⟩ := h
  replace h := ob h
  obtain ⟨r1, e_r1, h⟩ := h
  refine V_callV_A (As := []) (rest := []) (c_J5_getValue_6d5f1 e_r1) zc_J5_getValue_6d5f1 rfl (by decide) rfl (by decide) (Or.inl c2) zm_J0_552 (Nat.le_of_ble_eq_true rfl) rfl dJ0_init_db425_5 ?_
  refine V_pc (pc' := 8) rfl ?_
  refine V_astore_n (ls' := [(3, .ref (zad L (r1.1))), (0, .ref (zad L (a0))), (1, .ref (zad L (a1)))]) dJ0_init_db425_8 rfl (by decide) rfl ?_
  refine V_aload_n dJ0_init_db425_9 rfl 2 rfl ?_
  replace h := ox h
  obtain ⟨c4, h⟩ := h
  replace h := ob h
  obtain ⟨r3, e_r3, h⟩ := h
  refine V_callO_I (As := []) (rest := []) (c_J4_length_8abf5 e_r3) zc_J4_length_8abf5 rfl (by decide) rfl (by decide) (Or.inl c4) zm_J0_549 (Nat.le_of_ble_eq_true rfl) rfl dJ0_init_db425_10 ?_
  refine V_pc (pc' := 13) rfl ?_
  refine V_istore (ls' := [(4, .int (r3.1)), (3, .ref (zad L (r1.1))), (0, .ref (zad L (a0))), (1, .ref (zad L (a1)))]) dJ0_init_db425_13 (by decide) rfl ?_
  refine V_aload_n dJ0_init_db425_15 rfl 3 rfl ?_
  replace h := ox h
  obtain ⟨c6, h⟩ := h
  replace h := ob h
  obtain ⟨r5, e_r5, h⟩ := h
  refine V_callV_I (As := []) (rest := []) (c_J5_isLatin1_aae02 e_r5) zc_J5_isLatin1_aae02 rfl (by decide) rfl (by decide) (Or.inl c6) zm_J0_1047 (Nat.le_of_ble_eq_true rfl) rfl dJ0_init_db425_16 ?_
  refine V_pc (pc' := 19) rfl ?_
  refine V_if_eq (tgt := 41) dJ0_init_db425_19 (by decide) (fun c13 => ?_) (fun c13 => ?_)
  · replace h := (oi h).1 c13
    refine V_gets (zst_6 L) zg_J0_38 rfl dJ0_init_db425_41 ?_
    refine V_if_eq (tgt := 79) dJ0_init_db425_44 (by decide) (fun c9 => ?_) (fun c9 => ?_)
    · replace h := (oi h).1 c9
      refine V_sub [2, 1, 0] rfl ?_
      exact s_J0_init_db425_79 hq h
    · replace h := (oi h).2 c9
      refine V_aload_n dJ0_init_db425_47 rfl 3 rfl ?_
      replace h := ob h
      obtain ⟨v7, e_v7, h⟩ := h
      refine V_getI zf_2_2 zl_J0_1048 e_v7 dJ0_init_db425_48 ?_
      refine V_pc (pc' := 51) rfl ?_
      refine V_if_eq (tgt := 79) dJ0_init_db425_51 (by decide) (fun c8 => ?_) (fun c8 => ?_)
      · replace h := (oi h).1 c8
        refine V_sub [2, 1, 0] rfl ?_
        exact s_J0_init_db425_79 hq h
      · replace h := (oi h).2 c8
        refine V_aload_n dJ0_init_db425_54 rfl 2 rfl ?_
        refine V_aload_n dJ0_init_db425_55 rfl 1 rfl ?_
        refine V_iconst (v := 0) dJ0_init_db425_56 (by decide) ?_
        refine V_iload dJ0_init_db425_57 0 rfl ?_
        cases h
  · replace h := (oi h).2 c13
    refine V_aload_n dJ0_init_db425_22 rfl 2 rfl ?_
    refine V_iconst (v := 0) dJ0_init_db425_23 (by decide) ?_
    replace h := ob h
    obtain ⟨M10, e_M10, h⟩ := h
    refine V_putB zf_1_1 zl_J0_15 (Or.inr ⟨rfl, rfl, rfl⟩) rfl e_M10 dJ0_init_db425_24 ?_
    refine V_pc (pc' := 27) rfl ?_
    refine V_aload_n dJ0_init_db425_27 rfl 2 rfl ?_
    refine V_aload_n dJ0_init_db425_28 rfl 1 rfl ?_
    refine V_iconst (v := 0) dJ0_init_db425_29 (by decide) ?_
    refine V_iload dJ0_init_db425_30 0 rfl ?_
    replace h := ob h
    obtain ⟨r11, e_r11, h⟩ := h
    refine V_callS_A (As := [.ref (zad L (r1.1)), .int ((0 : Int32)), .int (r3.1)]) (rest := [.ref (zad L (a0))]) (c_J7_copyOfRange_39247 e_r11) zc_J7_copyOfRange_39247 rfl (by decide) zm_J0_54 (Nat.le_of_ble_eq_true rfl) rfl dJ0_init_db425_32 ?_
    refine V_pc (pc' := 35) rfl ?_
    replace h := ob h
    obtain ⟨M12, e_M12, h⟩ := h
    refine V_putR zf_1_0 zl_J0_9 (Or.inr ⟨rfl, rfl, rfl⟩) rfl e_M12 dJ0_init_db425_35 ?_
    refine V_pc (pc' := 38) rfl ?_
    refine V_goto (tgt := 97) dJ0_init_db425_38 (by decide) ?_
    obtain rfl := Option.some.inj h
    exact V_vret rfl hq dJ0_init_db425_97
def f_J0_init_db425 (a0 : Nat) (a1 : Nat) (M : zM) : Option (Unit × zM) := f_J0_init_db425_0 a0 a1 M
theorem c_J0_init_db425 {L : zL} {l : Launch} {a0 : Nat} {a1 : Nat} {g2 : Option Nat} {M : zM} {r : Unit × zM} (h : f_J0_init_db425 a0 a1 M = some r) : CP L l yJ0_init_db425 cJ0_init_db425 5 (none : Option FieldType) 10 M [.ref (zad L (a0)), .ref (zad L (a1)), va_rf (g2)] none r.2 :=
  CP.of ⟨by decide +kernel, by decide +kernel⟩ (by cases g2 <;> exact Nat.le_of_ble_eq_true rfl) fun X Q hq => s_J0_init_db425_0 hq h
/-! java/lang/String.<init>(Ljava/lang/StringBuilder;)V -/
theorem dJ0_init_81219_0 : decode cJ0_init_81219 0 = .ok (.aload_n 0, 1) := by decide +kernel
theorem dJ0_init_81219_1 : decode cJ0_init_81219 1 = .ok (.aload_n 1, 1) := by decide +kernel
theorem dJ0_init_81219_2 : decode cJ0_init_81219 2 = .ok (.aconst_null, 1) := by decide +kernel
theorem dJ0_init_81219_3 : decode cJ0_init_81219 3 = .ok (.invokespecial 489, 3) := by decide +kernel
theorem dJ0_init_81219_6 : decode cJ0_init_81219 6 = .ok (.return_, 1) := by decide +kernel
def f_J0_init_81219_0 (a0 : Nat) (a1 : Nat) (M : zM) : Option (Unit × zM) :=
  (f_J0_init_db425 a0 a1 M).bind fun r1 =>
  some ((), r1.2)
set_option maxRecDepth 20000 in
set_option maxHeartbeats 4000000 in
theorem s_J0_init_81219_0 {L : zL} {X : zX} {M0 : zM} {N : Nat × Nat} {Q : State → Prop} {r : Unit × zM} (hq : vQ L X M0 N Q none r.2) {a0 : Nat} {a1 : Nat} {M : zM} (h : f_J0_init_81219_0 a0 a1 M = some r) : V L X yJ0_init_81219 cJ0_init_81219 2 (none : Option FieldType) 11 M0 N Q M 0 [(0, .ref (zad L (a0))), (1, .ref (zad L (a1)))] [] := by
  unfold f_J0_init_81219_0 at h
  refine V_aload_n dJ0_init_81219_0 rfl 0 rfl ?_
  refine V_aload_n dJ0_init_81219_1 rfl 1 rfl ?_
  refine V_null dJ0_init_81219_2 ?_
  replace h := ob h
  obtain ⟨r1, e_r1, h⟩ := h
  refine V_callI_V (As := [.ref (zad L (a1)), va_rf (none)]) (rest := []) (c_J0_init_db425 e_r1) zc_J0_init_db425 rfl (by decide) zm_J0_489 rfl (Nat.le_of_ble_eq_true rfl) rfl dJ0_init_81219_3 ?_
  refine V_pc (pc' := 6) rfl ?_
  obtain rfl := Option.some.inj h
  exact V_vret rfl hq dJ0_init_81219_6
def f_J0_init_81219 (a0 : Nat) (a1 : Nat) (M : zM) : Option (Unit × zM) := f_J0_init_81219_0 a0 a1 M
theorem c_J0_init_81219 {L : zL} {l : Launch} {a0 : Nat} {a1 : Nat} {M : zM} {r : Unit × zM} (h : f_J0_init_81219 a0 a1 M = some r) : CP L l yJ0_init_81219 cJ0_init_81219 2 (none : Option FieldType) 11 M [.ref (zad L (a0)), .ref (zad L (a1))] none r.2 :=
  CP.of ⟨by decide +kernel, by decide +kernel⟩ (Nat.le_of_ble_eq_true rfl) fun X Q hq => s_J0_init_81219_0 hq h
/-! java/lang/StringBuilder.toString()Ljava/lang/String; -/
theorem dJ4_toString_0e30d_0 : decode cJ4_toString_0e30d 0 = .ok (.new 18, 3) := by decide +kernel
theorem dJ4_toString_0e30d_3 : decode cJ4_toString_0e30d 3 = .ok (.dup, 1) := by decide +kernel
theorem dJ4_toString_0e30d_4 : decode cJ4_toString_0e30d 4 = .ok (.aload_n 0, 1) := by decide +kernel
theorem dJ4_toString_0e30d_5 : decode cJ4_toString_0e30d 5 = .ok (.invokespecial 137, 3) := by decide +kernel
theorem dJ4_toString_0e30d_8 : decode cJ4_toString_0e30d 8 = .ok (.areturn, 1) := by decide +kernel
def f_J4_toString_0e30d_0 (a0 : Nat) (M : zM) : Option (Nat × zM) :=
  (f_J0_init_81219 (mX M) a0 (nO M 1 4)).bind fun r1 =>
  some (mX M, r1.2)
set_option maxRecDepth 20000 in
set_option maxHeartbeats 4000000 in
theorem s_J4_toString_0e30d_0 {L : zL} {X : zX} {M0 : zM} {N : Nat × Nat} {Q : State → Prop} {r : Nat × zM} (hq : vQ L X M0 N Q (some (.ref (zad L r.1))) r.2) {a0 : Nat} {M : zM} (h : f_J4_toString_0e30d_0 a0 M = some r) : V L X yJ4_toString_0e30d cJ4_toString_0e30d 1 (Option.some (FieldType.object "java/lang/String")) 12 M0 N Q M 0 [(0, .ref (zad L (a0)))] [] := by
  unfold f_J4_toString_0e30d_0 at h
  refine V_new (by decide) rfl zin1 zty1 zdf1 zn_J4_18 dJ4_toString_0e30d_0 ?_
  refine V_dup dJ4_toString_0e30d_3 rfl ?_
  refine V_aload_n dJ4_toString_0e30d_4 rfl 0 rfl ?_
  replace h := ob h
  obtain ⟨r1, e_r1, h⟩ := h
  refine V_callI_V (As := [.ref (zad L (a0))]) (rest := [.ref (zad L (mX M))]) (c_J0_init_81219 e_r1) zc_J0_init_81219 rfl (by decide) zm_J4_137 rfl (Nat.le_of_ble_eq_true rfl) rfl dJ4_toString_0e30d_5 ?_
  refine V_pc (pc' := 8) rfl ?_
  obtain rfl := Option.some.inj h
  exact V_aret rfl (by first | exact Or.inl ⟨_, rfl⟩ | exact Or.inr ⟨_, rfl⟩) hq dJ4_toString_0e30d_8
def f_J4_toString_0e30d (a0 : Nat) (M : zM) : Option (Nat × zM) := f_J4_toString_0e30d_0 a0 M
theorem c_J4_toString_0e30d {L : zL} {l : Launch} {a0 : Nat} {M : zM} {r : Nat × zM} (h : f_J4_toString_0e30d a0 M = some r) : CP L l yJ4_toString_0e30d cJ4_toString_0e30d 1 (Option.some (FieldType.object "java/lang/String")) 12 M [.ref (zad L (a0))] (some (.ref (zad L r.1))) r.2 :=
  CP.of ⟨by decide +kernel, by decide +kernel⟩ (Nat.le_of_ble_eq_true rfl) fun X Q hq => s_J4_toString_0e30d_0 hq h
/-! java/lang/String.isLatin1()Z -/
theorem dJ0_isLatin1_aae02_0 : decode cJ0_isLatin1_aae02 0 = .ok (.getstatic 38, 3) := by decide +kernel
theorem dJ0_isLatin1_aae02_3 : decode cJ0_isLatin1_aae02 3 = .ok (.ifCond .eq 14, 3) := by decide +kernel
theorem dJ0_isLatin1_aae02_6 : decode cJ0_isLatin1_aae02 6 = .ok (.aload_n 0, 1) := by decide +kernel
theorem dJ0_isLatin1_aae02_7 : decode cJ0_isLatin1_aae02 7 = .ok (.getfield 15, 3) := by decide +kernel
theorem dJ0_isLatin1_aae02_10 : decode cJ0_isLatin1_aae02 10 = .ok (.ifCond .ne 7, 3) := by decide +kernel
theorem dJ0_isLatin1_aae02_13 : decode cJ0_isLatin1_aae02 13 = .ok (.iconst 1, 1) := by decide +kernel
theorem dJ0_isLatin1_aae02_14 : decode cJ0_isLatin1_aae02 14 = .ok (.goto 4, 3) := by decide +kernel
theorem dJ0_isLatin1_aae02_17 : decode cJ0_isLatin1_aae02 17 = .ok (.iconst 0, 1) := by decide +kernel
theorem dJ0_isLatin1_aae02_18 : decode cJ0_isLatin1_aae02 18 = .ok (.ireturn, 1) := by decide +kernel
def f_J0_isLatin1_aae02_0 (a0 : Nat) (M : zM) : Option (Int32 × zM) :=
  if ((1 : Int32)) = 0 then
  some ((0 : Int32), M)
  else
  (hI 1 1 M a0).bind fun v1 =>
  if v1 = 0 then
  some ((1 : Int32), M)
  else
  some ((0 : Int32), M)
set_option maxRecDepth 20000 in
set_option maxHeartbeats 4000000 in
theorem s_J0_isLatin1_aae02_0 {L : zL} {X : zX} {M0 : zM} {N : Nat × Nat} {Q : State → Prop} {r : Int32 × zM} (hq : vQ L X M0 N Q (some (.int r.1)) r.2) {a0 : Nat} {M : zM} (h : f_J0_isLatin1_aae02_0 a0 M = some r) : V L X yJ0_isLatin1_aae02 cJ0_isLatin1_aae02 1 (some FieldType.boolean) 1 M0 N Q M 0 [(0, .ref (zad L (a0)))] [] := by
  unfold f_J0_isLatin1_aae02_0 at h
  refine V_gets (zst_6 L) zg_J0_38 rfl dJ0_isLatin1_aae02_0 ?_
  refine V_if_eq (tgt := 17) dJ0_isLatin1_aae02_3 (by decide) (fun c3 => ?_) (fun c3 => ?_)
  · replace h := (oi h).1 c3
    refine V_iconst (v := 0) dJ0_isLatin1_aae02_17 (by decide) ?_
    obtain rfl := Option.some.inj h
    exact V_zret (ty := .boolean) rfl rfl hq dJ0_isLatin1_aae02_18
  · replace h := (oi h).2 c3
    refine V_aload_n dJ0_isLatin1_aae02_6 rfl 0 rfl ?_
    replace h := ob h
    obtain ⟨v1, e_v1, h⟩ := h
    refine V_getIx zf_1_1 zl_J0_15 (by decide) e_v1 dJ0_isLatin1_aae02_7 ?_
    refine V_pc (pc' := 10) rfl ?_
    refine V_if_ne (tgt := 17) dJ0_isLatin1_aae02_10 (by decide) (fun c2 => ?_) (fun c2 => ?_)
    · replace h := (oi h).2 c2
      refine V_iconst (v := 0) dJ0_isLatin1_aae02_17 (by decide) ?_
      obtain rfl := Option.some.inj h
      exact V_zret (ty := .boolean) rfl rfl hq dJ0_isLatin1_aae02_18
    · replace h := (oi h).1 c2
      refine V_iconst (v := 1) dJ0_isLatin1_aae02_13 (by decide) ?_
      refine V_goto (tgt := 18) dJ0_isLatin1_aae02_14 (by decide) ?_
      obtain rfl := Option.some.inj h
      exact V_zret (ty := .boolean) rfl rfl hq dJ0_isLatin1_aae02_18
def f_J0_isLatin1_aae02 (a0 : Nat) (M : zM) : Option (Int32 × zM) := f_J0_isLatin1_aae02_0 a0 M
theorem c_J0_isLatin1_aae02 {L : zL} {l : Launch} {a0 : Nat} {M : zM} {r : Int32 × zM} (h : f_J0_isLatin1_aae02 a0 M = some r) : CP L l yJ0_isLatin1_aae02 cJ0_isLatin1_aae02 1 (some FieldType.boolean) 1 M [.ref (zad L (a0))] (some (.int r.1)) r.2 :=
  CP.of ⟨by decide +kernel, by decide +kernel⟩ (Nat.le_of_ble_eq_true rfl) fun X Q hq => s_J0_isLatin1_aae02_0 hq h
/-! jdk/internal/util/Preconditions.checkIndex(IILjava/util/function/BiFunction;)I -/
theorem dJ3_checkIndex_8e157_0 : decode cJ3_checkIndex_8e157 0 = .ok (.iload_n 0, 1) := by decide +kernel
theorem dJ3_checkIndex_8e157_1 : decode cJ3_checkIndex_8e157 1 = .ok (.ifCond .lt 8, 3) := by decide +kernel
theorem dJ3_checkIndex_8e157_4 : decode cJ3_checkIndex_8e157 4 = .ok (.iload_n 0, 1) := by decide +kernel
theorem dJ3_checkIndex_8e157_5 : decode cJ3_checkIndex_8e157 5 = .ok (.iload_n 1, 1) := by decide +kernel
theorem dJ3_checkIndex_8e157_6 : decode cJ3_checkIndex_8e157 6 = .ok (.if_icmp .lt 10, 3) := by decide +kernel
theorem dJ3_checkIndex_8e157_9 : decode cJ3_checkIndex_8e157 9 = .ok (.aload_n 2, 1) := by decide +kernel
theorem dJ3_checkIndex_8e157_10 : decode cJ3_checkIndex_8e157 10 = .ok (.iload_n 0, 1) := by decide +kernel
theorem dJ3_checkIndex_8e157_11 : decode cJ3_checkIndex_8e157 11 = .ok (.iload_n 1, 1) := by decide +kernel
theorem dJ3_checkIndex_8e157_12 : decode cJ3_checkIndex_8e157 12 = .ok (.invokestatic 95, 3) := by decide +kernel
theorem dJ3_checkIndex_8e157_15 : decode cJ3_checkIndex_8e157 15 = .ok (.athrow, 1) := by decide +kernel
theorem dJ3_checkIndex_8e157_16 : decode cJ3_checkIndex_8e157 16 = .ok (.iload_n 0, 1) := by decide +kernel
theorem dJ3_checkIndex_8e157_17 : decode cJ3_checkIndex_8e157 17 = .ok (.ireturn, 1) := by decide +kernel
def f_J3_checkIndex_8e157_0 (i0 : Int32) (i1 : Int32) (M : zM) : Option (Int32 × zM) :=
  if i0 < 0 then
  none
  else
  if i0 < i1 then
  some (i0, M)
  else
  none
set_option maxRecDepth 20000 in
set_option maxHeartbeats 4000000 in
theorem s_J3_checkIndex_8e157_0 {L : zL} {X : zX} {M0 : zM} {N : Nat × Nat} {Q : State → Prop} {r : Int32 × zM} (hq : vQ L X M0 N Q (some (.int r.1)) r.2) {i0 : Int32} {i1 : Int32} {g2 : Option Nat} {M : zM} (h : f_J3_checkIndex_8e157_0 i0 i1 M = some r) : V L X yJ3_checkIndex_8e157 cJ3_checkIndex_8e157 3 (some FieldType.int) 1 M0 N Q M 0 [(0, .int (i0)), (1, .int (i1)), (2, va_rf (g2))] [] := by
  unfold f_J3_checkIndex_8e157_0 at h
  refine V_sub [0, 1] rfl ?_
  refine V_iload_n dJ3_checkIndex_8e157_0 rfl 0 rfl ?_
  refine V_if_lt (tgt := 9) dJ3_checkIndex_8e157_1 (by decide) (fun c2 => ?_) (fun c2 => ?_)
  · replace h := (oi h).1 c2
    cases h
  · replace h := (oi h).2 c2
    refine V_iload_n dJ3_checkIndex_8e157_4 rfl 0 rfl ?_
    refine V_iload_n dJ3_checkIndex_8e157_5 rfl 1 rfl ?_
    refine V_icmp_lt (tgt := 16) dJ3_checkIndex_8e157_6 (by decide) (fun c1 => ?_) (fun c1 => ?_)
    · replace h := (oi h).1 c1
      refine V_iload_n dJ3_checkIndex_8e157_16 rfl 0 rfl ?_
      obtain rfl := Option.some.inj h
      exact V_iret rfl hq dJ3_checkIndex_8e157_17
    · replace h := (oi h).2 c1
      cases h
def f_J3_checkIndex_8e157 (i0 : Int32) (i1 : Int32) (M : zM) : Option (Int32 × zM) := f_J3_checkIndex_8e157_0 i0 i1 M
theorem c_J3_checkIndex_8e157 {L : zL} {l : Launch} {i0 : Int32} {i1 : Int32} {g2 : Option Nat} {M : zM} {r : Int32 × zM} (h : f_J3_checkIndex_8e157 i0 i1 M = some r) : CP L l yJ3_checkIndex_8e157 cJ3_checkIndex_8e157 3 (some FieldType.int) 1 M [.int (i0), .int (i1), va_rf (g2)] (some (.int r.1)) r.2 :=
  CP.of ⟨by decide +kernel, by decide +kernel⟩ (by cases g2 <;> exact Nat.le_of_ble_eq_true rfl) fun X Q hq => s_J3_checkIndex_8e157_0 hq h
/-! java/lang/String.checkIndex(II)V -/
theorem dJ0_checkIndex_df160_0 : decode cJ0_checkIndex_df160 0 = .ok (.iload_n 0, 1) := by decide +kernel
theorem dJ0_checkIndex_df160_1 : decode cJ0_checkIndex_df160 1 = .ok (.iload_n 1, 1) := by decide +kernel
theorem dJ0_checkIndex_df160_2 : decode cJ0_checkIndex_df160 2 = .ok (.getstatic 1053, 3) := by decide +kernel
theorem dJ0_checkIndex_df160_5 : decode cJ0_checkIndex_df160 5 = .ok (.invokestatic 1059, 3) := by decide +kernel
theorem dJ0_checkIndex_df160_8 : decode cJ0_checkIndex_df160 8 = .ok (.pop, 1) := by decide +kernel
theorem dJ0_checkIndex_df160_9 : decode cJ0_checkIndex_df160 9 = .ok (.return_, 1) := by decide +kernel
def f_J0_checkIndex_df160_0 (i0 : Int32) (i1 : Int32) (M : zM) : Option (Unit × zM) :=
  (f_J3_checkIndex_8e157 i0 i1 M).bind fun r1 =>
  some ((), r1.2)
set_option maxRecDepth 20000 in
set_option maxHeartbeats 4000000 in
theorem s_J0_checkIndex_df160_0 {L : zL} {X : zX} {M0 : zM} {N : Nat × Nat} {Q : State → Prop} {r : Unit × zM} (hq : vQ L X M0 N Q none r.2) {i0 : Int32} {i1 : Int32} {M : zM} (h : f_J0_checkIndex_df160_0 i0 i1 M = some r) : V L X yJ0_checkIndex_df160 cJ0_checkIndex_df160 2 (none : Option FieldType) 2 M0 N Q M 0 [(0, .int (i0)), (1, .int (i1))] [] := by
  unfold f_J0_checkIndex_df160_0 at h
  refine V_iload_n dJ0_checkIndex_df160_0 rfl 0 rfl ?_
  refine V_iload_n dJ0_checkIndex_df160_1 rfl 1 rfl ?_
  refine V_gets (zst_9 L) zg_J0_1053 rfl dJ0_checkIndex_df160_2 ?_
  replace h := ob h
  obtain ⟨r1, e_r1, h⟩ := h
  refine V_callS_I (As := [.int (i0), .int (i1), va_rf (zfv L)]) (rest := []) (c_J3_checkIndex_8e157 e_r1) zc_J3_checkIndex_8e157 rfl (by decide) zm_J0_1059 (Nat.le_of_ble_eq_true rfl) rfl dJ0_checkIndex_df160_5 ?_
  refine V_pc (pc' := 8) rfl ?_
  refine V_pop dJ0_checkIndex_df160_8 rfl ?_
  obtain rfl := Option.some.inj h
  exact V_vret rfl hq dJ0_checkIndex_df160_9
def f_J0_checkIndex_df160 (i0 : Int32) (i1 : Int32) (M : zM) : Option (Unit × zM) := f_J0_checkIndex_df160_0 i0 i1 M
theorem c_J0_checkIndex_df160 {L : zL} {l : Launch} {i0 : Int32} {i1 : Int32} {M : zM} {r : Unit × zM} (h : f_J0_checkIndex_df160 i0 i1 M = some r) : CP L l yJ0_checkIndex_df160 cJ0_checkIndex_df160 2 (none : Option FieldType) 2 M [.int (i0), .int (i1)] none r.2 :=
  CP.of ⟨by decide +kernel, by decide +kernel⟩ (Nat.le_of_ble_eq_true rfl) fun X Q hq => s_J0_checkIndex_df160_0 hq h
/-! java/lang/StringLatin1.charAt([BI)C -/
theorem dJ1_charAt_3b067_0 : decode cJ1_charAt_3b067 0 = .ok (.iload_n 1, 1) := by decide +kernel
theorem dJ1_charAt_3b067_1 : decode cJ1_charAt_3b067 1 = .ok (.aload_n 0, 1) := by decide +kernel
theorem dJ1_charAt_3b067_2 : decode cJ1_charAt_3b067 2 = .ok (.arraylength, 1) := by decide +kernel
theorem dJ1_charAt_3b067_3 : decode cJ1_charAt_3b067 3 = .ok (.invokestatic 9, 3) := by decide +kernel
theorem dJ1_charAt_3b067_6 : decode cJ1_charAt_3b067 6 = .ok (.aload_n 0, 1) := by decide +kernel
theorem dJ1_charAt_3b067_7 : decode cJ1_charAt_3b067 7 = .ok (.iload_n 1, 1) := by decide +kernel
theorem dJ1_charAt_3b067_8 : decode cJ1_charAt_3b067 8 = .ok (.baload, 1) := by decide +kernel
theorem dJ1_charAt_3b067_9 : decode cJ1_charAt_3b067 9 = .ok (.sipush 255, 3) := by decide +kernel
theorem dJ1_charAt_3b067_12 : decode cJ1_charAt_3b067 12 = .ok (.iand, 1) := by decide +kernel
theorem dJ1_charAt_3b067_13 : decode cJ1_charAt_3b067 13 = .ok (.i2c, 1) := by decide +kernel
theorem dJ1_charAt_3b067_14 : decode cJ1_charAt_3b067 14 = .ok (.ireturn, 1) := by decide +kernel
def f_J1_charAt_3b067_0 (a0 : Nat) (i1 : Int32) (M : zM) : Option (Int32 × zM) :=
  (gL M a0).bind fun v1 =>
  (f_J0_checkIndex_df160 i1 v1 M).bind fun r2 =>
  (lA 1 r2.2 a0 i1).bind fun v3 =>
  if vp_nar .char (((((v3 &&& ((255 : Int32)))).toUInt32 % 65536).toInt32)) = (((((v3 &&& ((255 : Int32)))).toUInt32 % 65536).toInt32)) then some (((((v3 &&& ((255 : Int32)))).toUInt32 % 65536).toInt32), r2.2) else none
set_option maxRecDepth 20000 in
set_option maxHeartbeats 4000000 in
theorem s_J1_charAt_3b067_0 {L : zL} {X : zX} {M0 : zM} {N : Nat × Nat} {Q : State → Prop} {r : Int32 × zM} (hq : vQ L X M0 N Q (some (.int r.1)) r.2) {a0 : Nat} {i1 : Int32} {M : zM} (h : f_J1_charAt_3b067_0 a0 i1 M = some r) : V L X yJ1_charAt_3b067 cJ1_charAt_3b067 2 (some FieldType.char) 3 M0 N Q M 0 [(0, .ref (zad L (a0))), (1, .int (i1))] [] := by
  unfold f_J1_charAt_3b067_0 at h
  refine V_iload_n dJ1_charAt_3b067_0 rfl 1 rfl ?_
  refine V_aload_n dJ1_charAt_3b067_1 rfl 0 rfl ?_
  replace h := ob h
  obtain ⟨v1, e_v1, h⟩ := h
  refine V_alen e_v1 dJ1_charAt_3b067_2 ?_
  refine V_pc (pc' := 3) rfl ?_
  replace h := ob h
  obtain ⟨r2, e_r2, h⟩ := h
  refine V_callS_V (As := [.int (i1), .int (v1)]) (rest := []) (c_J0_checkIndex_df160 e_r2) zc_J0_checkIndex_df160 rfl (by decide) zm_J1_9 (Nat.le_of_ble_eq_true rfl) rfl dJ1_charAt_3b067_3 ?_
  refine V_pc (pc' := 6) rfl ?_
  refine V_aload_n dJ1_charAt_3b067_6 rfl 0 rfl ?_
  refine V_iload_n dJ1_charAt_3b067_7 rfl 1 rfl ?_
  replace h := ob h
  obtain ⟨v3, e_v3, h⟩ := h
  refine V_bald e_v3 dJ1_charAt_3b067_8 ?_
  refine V_pc (pc' := 9) rfl ?_
  refine V_sipush (v := 255) dJ1_charAt_3b067_9 (by decide) ?_
  refine V_iand dJ1_charAt_3b067_12 ?_
  refine V_i2c dJ1_charAt_3b067_13 ?_
  replace h := ox h
  obtain ⟨c4, h⟩ := h
  obtain rfl := Option.some.inj h
  exact V_zret (ty := .char) rfl (zna_char c4) hq dJ1_charAt_3b067_14
def f_J1_charAt_3b067 (a0 : Nat) (i1 : Int32) (M : zM) : Option (Int32 × zM) := f_J1_charAt_3b067_0 a0 i1 M
theorem c_J1_charAt_3b067 {L : zL} {l : Launch} {a0 : Nat} {i1 : Int32} {M : zM} {r : Int32 × zM} (h : f_J1_charAt_3b067 a0 i1 M = some r) : CP L l yJ1_charAt_3b067 cJ1_charAt_3b067 2 (some FieldType.char) 3 M [.ref (zad L (a0)), .int (i1)] (some (.int r.1)) r.2 :=
  CP.of ⟨by decide +kernel, by decide +kernel⟩ (Nat.le_of_ble_eq_true rfl) fun X Q hq => s_J1_charAt_3b067_0 hq h
/-! java/lang/String.charAt(I)C -/
theorem dJ0_charAt_5068e_0 : decode cJ0_charAt_5068e 0 = .ok (.aload_n 0, 1) := by decide +kernel
theorem dJ0_charAt_5068e_1 : decode cJ0_charAt_5068e 1 = .ok (.invokevirtual 492, 3) := by decide +kernel
theorem dJ0_charAt_5068e_4 : decode cJ0_charAt_5068e 4 = .ok (.ifCond .eq 12, 3) := by decide +kernel
theorem dJ0_charAt_5068e_7 : decode cJ0_charAt_5068e 7 = .ok (.aload_n 0, 1) := by decide +kernel
theorem dJ0_charAt_5068e_8 : decode cJ0_charAt_5068e 8 = .ok (.getfield 9, 3) := by decide +kernel
theorem dJ0_charAt_5068e_11 : decode cJ0_charAt_5068e 11 = .ok (.iload_n 1, 1) := by decide +kernel
theorem dJ0_charAt_5068e_12 : decode cJ0_charAt_5068e 12 = .ok (.invokestatic 495, 3) := by decide +kernel
theorem dJ0_charAt_5068e_15 : decode cJ0_charAt_5068e 15 = .ok (.ireturn, 1) := by decide +kernel
theorem dJ0_charAt_5068e_16 : decode cJ0_charAt_5068e 16 = .ok (.aload_n 0, 1) := by decide +kernel
theorem dJ0_charAt_5068e_17 : decode cJ0_charAt_5068e 17 = .ok (.getfield 9, 3) := by decide +kernel
theorem dJ0_charAt_5068e_20 : decode cJ0_charAt_5068e 20 = .ok (.iload_n 1, 1) := by decide +kernel
theorem dJ0_charAt_5068e_21 : decode cJ0_charAt_5068e 21 = .ok (.invokestatic 498, 3) := by decide +kernel
theorem dJ0_charAt_5068e_24 : decode cJ0_charAt_5068e 24 = .ok (.ireturn, 1) := by decide +kernel
def f_J0_charAt_5068e_0 (a0 : Nat) (i1 : Int32) (M : zM) : Option (Int32 × zM) :=
  if mK M a0 = 1 ∨ mK M a0 = 301 then
  (f_J0_isLatin1_aae02 a0 M).bind fun r1 =>
  if r1.1 = 0 then
  (hR 1 0 r1.2 a0).bind fun v3 =>
  none
  else
  (hR 1 0 r1.2 a0).bind fun v4 =>
  (f_J1_charAt_3b067 v4 i1 r1.2).bind fun r5 =>
  if vp_nar .char r5.1 = r5.1 then some (r5.1, r5.2) else none
  else none
set_option maxRecDepth 20000 in
set_option maxHeartbeats 4000000 in
theorem s_J0_charAt_5068e_0 {L : zL} {X : zX} {M0 : zM} {N : Nat × Nat} {Q : State → Prop} {r : Int32 × zM} (hq : vQ L X M0 N Q (some (.int r.1)) r.2) {a0 : Nat} {i1 : Int32} {M : zM} (h : f_J0_charAt_5068e_0 a0 i1 M = some r) : V L X yJ0_charAt_5068e cJ0_charAt_5068e 2 (some FieldType.char) 4 M0 N Q M 0 [(0, .ref (zad L (a0))), (1, .int (i1))] [] := by
  unfold f_J0_charAt_5068e_0 at h
  refine V_aload_n dJ0_charAt_5068e_0 rfl 0 rfl ?_
  replace h := ox h
  obtain ⟨c2, h⟩ := h
  replace h := ob h
  obtain ⟨r1, e_r1, h⟩ := h
  refine V_callV_I (As := []) (rest := []) (c_J0_isLatin1_aae02 e_r1) zc_J0_isLatin1_aae02 rfl (by decide) rfl (by decide) (c2) zm_J0_492 (Nat.le_of_ble_eq_true rfl) rfl dJ0_charAt_5068e_1 ?_
  refine V_pc (pc' := 4) rfl ?_
  refine V_if_eq (tgt := 16) dJ0_charAt_5068e_4 (by decide) (fun c7 => ?_) (fun c7 => ?_)
  · replace h := (oi h).1 c7
    refine V_aload_n dJ0_charAt_5068e_16 rfl 0 rfl ?_
    replace h := ob h
    obtain ⟨v3, e_v3, h⟩ := h
    refine V_getRx zf_1_0 zl_J0_9 (by decide) e_v3 dJ0_charAt_5068e_17 ?_
    refine V_pc (pc' := 20) rfl ?_
    refine V_iload_n dJ0_charAt_5068e_20 rfl 1 rfl ?_
    cases h
  · replace h := (oi h).2 c7
    refine V_aload_n dJ0_charAt_5068e_7 rfl 0 rfl ?_
    replace h := ob h
    obtain ⟨v4, e_v4, h⟩ := h
    refine V_getRx zf_1_0 zl_J0_9 (by decide) e_v4 dJ0_charAt_5068e_8 ?_
    refine V_pc (pc' := 11) rfl ?_
    refine V_iload_n dJ0_charAt_5068e_11 rfl 1 rfl ?_
    replace h := ob h
    obtain ⟨r5, e_r5, h⟩ := h
    refine V_callS_I (As := [.ref (zad L (v4)), .int (i1)]) (rest := []) (c_J1_charAt_3b067 e_r5) zc_J1_charAt_3b067 rfl (by decide) zm_J0_495 (Nat.le_of_ble_eq_true rfl) rfl dJ0_charAt_5068e_12 ?_
    refine V_pc (pc' := 15) rfl ?_
    replace h := ox h
    obtain ⟨c6, h⟩ := h
    obtain rfl := Option.some.inj h
    exact V_zret (ty := .char) rfl (zna_char c6) hq dJ0_charAt_5068e_15
def f_J0_charAt_5068e (a0 : Nat) (i1 : Int32) (M : zM) : Option (Int32 × zM) := f_J0_charAt_5068e_0 a0 i1 M
theorem c_J0_charAt_5068e {L : zL} {l : Launch} {a0 : Nat} {i1 : Int32} {M : zM} {r : Int32 × zM} (h : f_J0_charAt_5068e a0 i1 M = some r) : CP L l yJ0_charAt_5068e cJ0_charAt_5068e 2 (some FieldType.char) 4 M [.ref (zad L (a0)), .int (i1)] (some (.int r.1)) r.2 :=
  CP.of ⟨by decide +kernel, by decide +kernel⟩ (Nat.le_of_ble_eq_true rfl) fun X Q hq => s_J0_charAt_5068e_0 hq h
/-! java/lang/StringLatin1.canEncode(C)Z -/
theorem dJ1_canEncode_fc78d_0 : decode cJ1_canEncode_fc78d 0 = .ok (.iload_n 0, 1) := by decide +kernel
theorem dJ1_canEncode_fc78d_1 : decode cJ1_canEncode_fc78d 1 = .ok (.sipush 255, 3) := by decide +kernel
theorem dJ1_canEncode_fc78d_4 : decode cJ1_canEncode_fc78d 4 = .ok (.if_icmp .gt 7, 3) := by decide +kernel
theorem dJ1_canEncode_fc78d_7 : decode cJ1_canEncode_fc78d 7 = .ok (.iconst 1, 1) := by decide +kernel
theorem dJ1_canEncode_fc78d_8 : decode cJ1_canEncode_fc78d 8 = .ok (.goto 4, 3) := by decide +kernel
theorem dJ1_canEncode_fc78d_11 : decode cJ1_canEncode_fc78d 11 = .ok (.iconst 0, 1) := by decide +kernel
theorem dJ1_canEncode_fc78d_12 : decode cJ1_canEncode_fc78d 12 = .ok (.ireturn, 1) := by decide +kernel
def f_J1_canEncode_fc78d_0 (i0 : Int32) (M : zM) : Option (Int32 × zM) :=
  if ((255 : Int32)) < i0 then
  some ((0 : Int32), M)
  else
  some ((1 : Int32), M)
set_option maxRecDepth 20000 in
set_option maxHeartbeats 4000000 in
theorem s_J1_canEncode_fc78d_0 {L : zL} {X : zX} {M0 : zM} {N : Nat × Nat} {Q : State → Prop} {r : Int32 × zM} (hq : vQ L X M0 N Q (some (.int r.1)) r.2) {i0 : Int32} {M : zM} (h : f_J1_canEncode_fc78d_0 i0 M = some r) : V L X yJ1_canEncode_fc78d cJ1_canEncode_fc78d 1 (some FieldType.boolean) 1 M0 N Q M 0 [(0, .int (i0))] [] := by
  unfold f_J1_canEncode_fc78d_0 at h
  refine V_iload_n dJ1_canEncode_fc78d_0 rfl 0 rfl ?_
  refine V_sipush (v := 255) dJ1_canEncode_fc78d_1 (by decide) ?_
  refine V_icmp_gt (tgt := 11) dJ1_canEncode_fc78d_4 (by decide) (fun c1 => ?_) (fun c1 => ?_)
  · replace h := (oi h).1 c1
    refine V_iconst (v := 0) dJ1_canEncode_fc78d_11 (by decide) ?_
    obtain rfl := Option.some.inj h
    exact V_zret (ty := .boolean) rfl rfl hq dJ1_canEncode_fc78d_12
  · replace h := (oi h).2 c1
    refine V_iconst (v := 1) dJ1_canEncode_fc78d_7 (by decide) ?_
    refine V_goto (tgt := 12) dJ1_canEncode_fc78d_8 (by decide) ?_
    obtain rfl := Option.some.inj h
    exact V_zret (ty := .boolean) rfl rfl hq dJ1_canEncode_fc78d_12
def f_J1_canEncode_fc78d (i0 : Int32) (M : zM) : Option (Int32 × zM) := f_J1_canEncode_fc78d_0 i0 M
theorem c_J1_canEncode_fc78d {L : zL} {l : Launch} {i0 : Int32} {M : zM} {r : Int32 × zM} (h : f_J1_canEncode_fc78d i0 M = some r) : CP L l yJ1_canEncode_fc78d cJ1_canEncode_fc78d 1 (some FieldType.boolean) 1 M [.int (i0)] (some (.int r.1)) r.2 :=
  CP.of ⟨by decide +kernel, by decide +kernel⟩ (Nat.le_of_ble_eq_true rfl) fun X Q hq => s_J1_canEncode_fc78d_0 hq h
