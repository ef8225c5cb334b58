/-! ===== METHODS, by program ===== -/
/-! WindsparlourModel.isSafe(II)Z -/
theorem dX7_isSafe_0 : decode cX7_isSafe 0 = .ok (.aload_n 0, 1) := by decide +kernel
theorem dX7_isSafe_1 : decode cX7_isSafe 1 = .ok (.iload_n 1, 1) := by decide +kernel
theorem dX7_isSafe_2 : decode cX7_isSafe 2 = .ok (.invokestatic 174, 3) := by decide +kernel
theorem dX7_isSafe_5 : decode cX7_isSafe 5 = .ok (.iconst 1, 1) := by decide +kernel
theorem dX7_isSafe_6 : decode cX7_isSafe 6 = .ok (.invokevirtual 85, 3) := by decide +kernel
theorem dX7_isSafe_9 : decode cX7_isSafe 9 = .ok (.ifCond .ne 23, 3) := by decide +kernel
theorem dX7_isSafe_12 : decode cX7_isSafe 12 = .ok (.aload_n 0, 1) := by decide +kernel
theorem dX7_isSafe_13 : decode cX7_isSafe 13 = .ok (.iload_n 2, 1) := by decide +kernel
theorem dX7_isSafe_14 : decode cX7_isSafe 14 = .ok (.invokestatic 147, 3) := by decide +kernel
theorem dX7_isSafe_17 : decode cX7_isSafe 17 = .ok (.ifCond .ne 7, 3) := by decide +kernel
theorem dX7_isSafe_20 : decode cX7_isSafe 20 = .ok (.iconst 1, 1) := by decide +kernel
theorem dX7_isSafe_21 : decode cX7_isSafe 21 = .ok (.goto 4, 3) := by decide +kernel
theorem dX7_isSafe_24 : decode cX7_isSafe 24 = .ok (.iconst 0, 1) := by decide +kernel
theorem dX7_isSafe_25 : decode cX7_isSafe 25 = .ok (.iconst 2, 1) := by decide +kernel
theorem dX7_isSafe_26 : decode cX7_isSafe 26 = .ok (.invokevirtual 68, 3) := by decide +kernel
theorem dX7_isSafe_29 : decode cX7_isSafe 29 = .ok (.ifCond .eq 5, 3) := by decide +kernel
theorem dX7_isSafe_32 : decode cX7_isSafe 32 = .ok (.iconst 0, 1) := by decide +kernel
theorem dX7_isSafe_33 : decode cX7_isSafe 33 = .ok (.ireturn, 1) := by decide +kernel
theorem dX7_isSafe_34 : decode cX7_isSafe 34 = .ok (.iconst 0, 1) := by decide +kernel
theorem dX7_isSafe_35 : decode cX7_isSafe 35 = .ok (.istore_n 3, 1) := by decide +kernel
theorem dX7_isSafe_36 : decode cX7_isSafe 36 = .ok (.iload_n 3, 1) := by decide +kernel
theorem dX7_isSafe_37 : decode cX7_isSafe 37 = .ok (.iconst 4, 1) := by decide +kernel
theorem dX7_isSafe_38 : decode cX7_isSafe 38 = .ok (.if_icmp .ge 46, 3) := by decide +kernel
theorem dX7_isSafe_41 : decode cX7_isSafe 41 = .ok (.iload_n 3, 1) := by decide +kernel
theorem dX7_isSafe_42 : decode cX7_isSafe 42 = .ok (.iload_n 1, 1) := by decide +kernel
theorem dX7_isSafe_43 : decode cX7_isSafe 43 = .ok (.if_icmp .eq 35, 3) := by decide +kernel
theorem dX7_isSafe_46 : decode cX7_isSafe 46 = .ok (.aload_n 0, 1) := by decide +kernel
theorem dX7_isSafe_47 : decode cX7_isSafe 47 = .ok (.getfield 38, 3) := by decide +kernel
theorem dX7_isSafe_50 : decode cX7_isSafe 50 = .ok (.iload_n 3, 1) := by decide +kernel
theorem dX7_isSafe_51 : decode cX7_isSafe 51 = .ok (.aaload, 1) := by decide +kernel
theorem dX7_isSafe_52 : decode cX7_isSafe 52 = .ok (.getfield 151, 3) := by decide +kernel
theorem dX7_isSafe_55 : decode cX7_isSafe 55 = .ok (.ifCond .eq 23, 3) := by decide +kernel
theorem dX7_isSafe_58 : decode cX7_isSafe 58 = .ok (.aload_n 0, 1) := by decide +kernel
theorem dX7_isSafe_59 : decode cX7_isSafe 59 = .ok (.getfield 38, 3) := by decide +kernel
theorem dX7_isSafe_62 : decode cX7_isSafe 62 = .ok (.iload_n 3, 1) := by decide +kernel
theorem dX7_isSafe_63 : decode cX7_isSafe 63 = .ok (.aaload, 1) := by decide +kernel
theorem dX7_isSafe_64 : decode cX7_isSafe 64 = .ok (.getfield 140, 3) := by decide +kernel
theorem dX7_isSafe_67 : decode cX7_isSafe 67 = .ok (.iload_n 2, 1) := by decide +kernel
theorem dX7_isSafe_68 : decode cX7_isSafe 68 = .ok (.lshr, 1) := by decide +kernel
theorem dX7_isSafe_69 : decode cX7_isSafe 69 = .ok (.lconst 1, 1) := by decide +kernel
theorem dX7_isSafe_70 : decode cX7_isSafe 70 = .ok (.land, 1) := by decide +kernel
theorem dX7_isSafe_71 : decode cX7_isSafe 71 = .ok (.lconst 0, 1) := by decide +kernel
theorem dX7_isSafe_72 : decode cX7_isSafe 72 = .ok (.lcmp, 1) := by decide +kernel
theorem dX7_isSafe_73 : decode cX7_isSafe 73 = .ok (.ifCond .ne 5, 3) := by decide +kernel
theorem dX7_isSafe_76 : decode cX7_isSafe 76 = .ok (.iconst 0, 1) := by decide +kernel
theorem dX7_isSafe_77 : decode cX7_isSafe 77 = .ok (.ireturn, 1) := by decide +kernel
theorem dX7_isSafe_78 : decode cX7_isSafe 78 = .ok (.iinc 3 1, 3) := by decide +kernel
theorem dX7_isSafe_81 : decode cX7_isSafe 81 = .ok (.goto (-45), 3) := by decide +kernel
theorem dX7_isSafe_84 : decode cX7_isSafe 84 = .ok (.iconst 1, 1) := by decide +kernel
theorem dX7_isSafe_85 : decode cX7_isSafe 85 = .ok (.ireturn, 1) := by decide +kernel
def f_X7_isSafe_36 (n : Nat) (a0 : Nat) (i1 : Int32) (i2 : Int32) (i3 : Int32) (M : zM) : Option (Int32 × zM) := match n with
  | 0 => none
  | n + 1 =>
    if ((4 : Int32)) ≤ i3 then
    some ((1 : Int32), M)
    else
    if i3 = i1 then
    f_X7_isSafe_36 n a0 i1 i2 ((i3 + (1 : Int32))) M
    else
    (gR 13 1 M a0).bind fun v1 =>
    (lQ 2 M v1 i3).bind fun v2 =>
    (gI 12 6 M v2).bind fun v3 =>
    if v3 = 0 then
    f_X7_isSafe_36 n a0 i1 i2 ((i3 + (1 : Int32))) M
    else
    (gR 13 1 M a0).bind fun v4 =>
    (lQ 2 M v4 i3).bind fun v5 =>
    (gJ 12 5 M v5).bind fun v6 =>
    if ((lg_cmp ((((v6 >>> (i2.toInt64 &&& 63))) &&& ((1 : Int64)))) ((0 : Int64)))) = 0 then
    some ((0 : Int32), M)
    else
    f_X7_isSafe_36 n a0 i1 i2 ((i3 + (1 : Int32))) M
set_option maxRecDepth 20000 in
set_option maxHeartbeats 4000000 in
theorem s_X7_isSafe_36 {L : zL} {X : zX} {M0 : zM} {N : Nat × Nat} {Q : State → Prop} {r : Int32 × zM} (hq : vQ L X M0 N Q (some (.int r.1)) r.2) {n : Nat} {a0 : Nat} {i1 : Int32} {i2 : Int32} {i3 : Int32} {M : zM} : f_X7_isSafe_36 n a0 i1 i2 i3 M = some r → V L X yX7_isSafe cX7_isSafe 4 (some FieldType.boolean) 3 M0 N Q M 36 [(0, .ref (zad L (a0))), (1, .int (i1)), (2, .int (i2)), (3, .int (i3))] [] := by
  induction n generalizing a0 i1 i2 i3 M with
  | zero =>
    intro h
    rw [f_X7_isSafe_36] at h
    cases h
  | succ n ih0 =>
    intro h
    have ih : ∀ (a0 : Nat) (i1 : Int32) (i2 : Int32) (i3 : Int32) (M : zM), f_X7_isSafe_36 n a0 i1 i2 i3 M = some r → V L X yX7_isSafe cX7_isSafe 4 (some FieldType.boolean) 3 M0 N Q M 36 [(0, .ref (zad L (a0))), (1, .int (i1)), (2, .int (i2)), (3, .int (i3))] [] := fun a0 i1 i2 i3 M h => ih0 h
    rw [f_X7_isSafe_36] at h
    refine V_iload_n dX7_isSafe_36 rfl 3 rfl ?_
    refine V_iconst (v := 4) dX7_isSafe_37 (by decide) ?_
    refine V_icmp_ge (tgt := 84) dX7_isSafe_38 (by decide) (fun c10 => ?_) (fun c10 => ?_)
    · replace h := (oi h).1 c10
      refine V_iconst (v := 1) dX7_isSafe_84 (by decide) ?_
      cases h
      exact V_zret (ty := .boolean) rfl rfl hq dX7_isSafe_85
    · replace h := (oi h).2 c10
      refine V_iload_n dX7_isSafe_41 rfl 3 rfl ?_
      refine V_iload_n dX7_isSafe_42 rfl 1 rfl ?_
      refine V_icmp_eq (tgt := 78) dX7_isSafe_43 (by decide) (fun c9 => ?_) (fun c9 => ?_)
      · replace h := (oi h).1 c9
        refine V_iinc (v := i3 + (1 : Int32)) (ls' := [(3, .int ((i3 + (1 : Int32)))), (0, .ref (zad L (a0))), (1, .int (i1)), (2, .int (i2))]) dX7_isSafe_78 3 rfl (by rfl) (by decide) rfl ?_
        refine V_goto (tgt := 36) dX7_isSafe_81 (by decide) ?_
        refine V_sub [1, 2, 3, 0] rfl ?_
        exact ih _ _ _ _ _ h
      · replace h := (oi h).2 c9
        refine V_aload_n dX7_isSafe_46 rfl 0 rfl ?_
        replace h := ob h
        obtain ⟨v1, e_v1, h⟩ := h
        refine V_getR zf_13_1 zl_X7_38 e_v1 dX7_isSafe_47 ?_
        refine V_pc (pc' := 50) rfl ?_
        refine V_iload_n dX7_isSafe_50 rfl 3 rfl ?_
        replace h := ob h
        obtain ⟨v2, e_v2, h⟩ := h
        refine V_aald (by decide) e_v2 dX7_isSafe_51 ?_
        refine V_pc (pc' := 52) rfl ?_
        replace h := ob h
        obtain ⟨v3, e_v3, h⟩ := h
        refine V_getI zf_12_6 zl_X7_151 e_v3 dX7_isSafe_52 ?_
        refine V_pc (pc' := 55) rfl ?_
        refine V_if_eq (tgt := 78) dX7_isSafe_55 (by decide) (fun c8 => ?_) (fun c8 => ?_)
        · replace h := (oi h).1 c8
          refine V_iinc (v := i3 + (1 : Int32)) (ls' := [(3, .int ((i3 + (1 : Int32)))), (0, .ref (zad L (a0))), (1, .int (i1)), (2, .int (i2))]) dX7_isSafe_78 3 rfl (by rfl) (by decide) rfl ?_
          refine V_goto (tgt := 36) dX7_isSafe_81 (by decide) ?_
          refine V_sub [1, 2, 3, 0] rfl ?_
          exact ih _ _ _ _ _ h
        · replace h := (oi h).2 c8
          refine V_aload_n dX7_isSafe_58 rfl 0 rfl ?_
          replace h := ob h
          obtain ⟨v4, e_v4, h⟩ := h
          refine V_getR zf_13_1 zl_X7_38 e_v4 dX7_isSafe_59 ?_
          refine V_pc (pc' := 62) rfl ?_
          refine V_iload_n dX7_isSafe_62 rfl 3 rfl ?_
          replace h := ob h
          obtain ⟨v5, e_v5, h⟩ := h
          refine V_aald (by decide) e_v5 dX7_isSafe_63 ?_
          refine V_pc (pc' := 64) rfl ?_
          replace h := ob h
          obtain ⟨v6, e_v6, h⟩ := h
          refine V_getJ zf_12_5 zl_X7_140 e_v6 dX7_isSafe_64 ?_
          refine V_pc (pc' := 67) rfl ?_
          refine V_iload_n dX7_isSafe_67 rfl 2 rfl ?_
          refine V_lshr dX7_isSafe_68 ?_
          refine V_lconst (v := 1) dX7_isSafe_69 (by decide) ?_
          refine V_land dX7_isSafe_70 ?_
          refine V_lconst (v := 0) dX7_isSafe_71 (by decide) ?_
          refine V_lcmp dX7_isSafe_72 ?_
          refine V_if_ne (tgt := 78) dX7_isSafe_73 (by decide) (fun c7 => ?_) (fun c7 => ?_)
          · replace h := (oi h).2 c7
            refine V_iinc (v := i3 + (1 : Int32)) (ls' := [(3, .int ((i3 + (1 : Int32)))), (0, .ref (zad L (a0))), (1, .int (i1)), (2, .int (i2))]) dX7_isSafe_78 3 rfl (by rfl) (by decide) rfl ?_
            refine V_goto (tgt := 36) dX7_isSafe_81 (by decide) ?_
            refine V_sub [1, 2, 3, 0] rfl ?_
            exact ih _ _ _ _ _ h
          · replace h := (oi h).1 c7
            refine V_iconst (v := 0) dX7_isSafe_76 (by decide) ?_
            cases h
            exact V_zret (ty := .boolean) rfl rfl hq dX7_isSafe_77
def f_X7_isSafe_25 (a0 : Nat) (i1 : Int32) (i2 : Int32) (i_0 : Int32) (a_1 : Nat) (M : zM) : Option (Int32 × zM) :=
  if mK M a_1 = 13 then
  (f_X7_refuse a_1 i_0 ((2 : Int32)) M).bind fun r1 =>
  if r1.1 = 0 then
  f_X7_isSafe_36 zN a0 i1 i2 ((0 : Int32)) r1.2
  else
  some ((0 : Int32), r1.2)
  else none
set_option maxRecDepth 20000 in
set_option maxHeartbeats 4000000 in
theorem s_X7_isSafe_25 {L : zL} {X : zX} {M0 : zM} {N : Nat × Nat} {Q : State → Prop} {r : Int32 × zM} (hq : vQ L X M0 N Q (some (.int r.1)) r.2) {a0 : Nat} {i1 : Int32} {i2 : Int32} {i_0 : Int32} {a_1 : Nat} {M : zM} (h : f_X7_isSafe_25 a0 i1 i2 i_0 a_1 M = some r) : V L X yX7_isSafe cX7_isSafe 4 (some FieldType.boolean) 3 M0 N Q M 25 [(0, .ref (zad L (a0))), (1, .int (i1)), (2, .int (i2))] [.int (i_0), .ref (zad L (a_1))] := by
  unfold f_X7_isSafe_25 at h
  refine V_iconst (v := 2) dX7_isSafe_25 (by decide) ?_
  replace h := ox h
  obtain ⟨c2, h⟩ := h
  replace h := ob h
  obtain ⟨r1, e_r1, h⟩ := h
  refine V_callV_I (As := [.int (i_0), .int ((2 : Int32))]) (rest := []) (c_X7_refuse e_r1) zc_X7_refuse rfl (by decide) rfl (by decide) (Or.inl c2) zm_X7_68 (Nat.le_of_ble_eq_true rfl) rfl dX7_isSafe_26 ?_
  refine V_pc (pc' := 29) rfl ?_
  refine V_if_eq (tgt := 34) dX7_isSafe_29 (by decide) (fun c3 => ?_) (fun c3 => ?_)
  · replace h := (oi h).1 c3
    refine V_iconst (v := 0) dX7_isSafe_34 (by decide) ?_
    refine V_istore_n (ls' := [(3, .int ((0 : Int32))), (0, .ref (zad L (a0))), (1, .int (i1)), (2, .int (i2))]) dX7_isSafe_35 rfl (by decide) rfl ?_
    refine V_sub [1, 2, 3, 0] rfl ?_
    exact s_X7_isSafe_36 hq h
  · replace h := (oi h).2 c3
    refine V_iconst (v := 0) dX7_isSafe_32 (by decide) ?_
    cases h
    exact V_zret (ty := .boolean) rfl rfl hq dX7_isSafe_33
def f_X7_isSafe_0 (a0 : Nat) (i1 : Int32) (i2 : Int32) (M : zM) : Option (Int32 × zM) :=
  (f_X7_isNoPlayer i1 M).bind fun r1 =>
  if mK r1.2 a0 = 13 then
  (f_X7_start a0 r1.1 ((1 : Int32)) r1.2).bind fun r2 =>
  if r2.1 = 0 then
  (f_X7_isKind i2 r2.2).bind fun r4 =>
  if r4.1 = 0 then
  f_X7_isSafe_25 a0 i1 i2 ((1 : Int32)) a0 r4.2
  else
  f_X7_isSafe_25 a0 i1 i2 ((0 : Int32)) a0 r4.2
  else
  some ((0 : Int32), r2.2)
  else none
set_option maxRecDepth 20000 in
set_option maxHeartbeats 4000000 in
theorem s_X7_isSafe_0 {L : zL} {X : zX} {M0 : zM} {N : Nat × Nat} {Q : State → Prop} {r : Int32 × zM} (hq : vQ L X M0 N Q (some (.int r.1)) r.2) {a0 : Nat} {i1 : Int32} {i2 : Int32} {M : zM} (h : f_X7_isSafe_0 a0 i1 i2 M = some r) : V L X yX7_isSafe cX7_isSafe 4 (some FieldType.boolean) 3 M0 N Q M 0 [(0, .ref (zad L (a0))), (1, .int (i1)), (2, .int (i2))] [] := by
  unfold f_X7_isSafe_0 at h
  refine V_aload_n dX7_isSafe_0 rfl 0 rfl ?_
  refine V_iload_n dX7_isSafe_1 rfl 1 rfl ?_
  replace h := ob h
  obtain ⟨r1, e_r1, h⟩ := h
  refine V_callS_I (As := [.int (i1)]) (rest := [.ref (zad L (a0))]) (c_X7_isNoPlayer e_r1) zc_X7_isNoPlayer rfl (by decide) zm_X7_174 (Nat.le_of_ble_eq_true rfl) rfl dX7_isSafe_2 ?_
  refine V_pc (pc' := 5) rfl ?_
  refine V_iconst (v := 1) dX7_isSafe_5 (by decide) ?_
  replace h := ox h
  obtain ⟨c3, h⟩ := h
  replace h := ob h
  obtain ⟨r2, e_r2, h⟩ := h
  refine V_callV_I (As := [.int (r1.1), .int ((1 : Int32))]) (rest := []) (c_X7_start e_r2) zc_X7_start rfl (by decide) rfl (by decide) (Or.inl c3) zm_X7_85 (Nat.le_of_ble_eq_true rfl) rfl dX7_isSafe_6 ?_
  refine V_pc (pc' := 9) rfl ?_
  refine V_if_ne (tgt := 32) dX7_isSafe_9 (by decide) (fun c6 => ?_) (fun c6 => ?_)
  · replace h := (oi h).2 c6
    refine V_iconst (v := 0) dX7_isSafe_32 (by decide) ?_
    cases h
    exact V_zret (ty := .boolean) rfl rfl hq dX7_isSafe_33
  · replace h := (oi h).1 c6
    refine V_aload_n dX7_isSafe_12 rfl 0 rfl ?_
    refine V_iload_n dX7_isSafe_13 rfl 2 rfl ?_
    replace h := ob h
    obtain ⟨r4, e_r4, h⟩ := h
    refine V_callS_I (As := [.int (i2)]) (rest := [.ref (zad L (a0))]) (c_X7_isKind e_r4) zc_X7_isKind rfl (by decide) zm_X7_147 (Nat.le_of_ble_eq_true rfl) rfl dX7_isSafe_14 ?_
    refine V_pc (pc' := 17) rfl ?_
    refine V_if_ne (tgt := 24) dX7_isSafe_17 (by decide) (fun c5 => ?_) (fun c5 => ?_)
    · replace h := (oi h).2 c5
      refine V_iconst (v := 0) dX7_isSafe_24 (by decide) ?_
      exact s_X7_isSafe_25 hq h
    · replace h := (oi h).1 c5
      refine V_iconst (v := 1) dX7_isSafe_20 (by decide) ?_
      refine V_goto (tgt := 25) dX7_isSafe_21 (by decide) ?_
      exact s_X7_isSafe_25 hq h
def f_X7_isSafe (a0 : Nat) (i1 : Int32) (i2 : Int32) (M : zM) : Option (Int32 × zM) := f_X7_isSafe_0 a0 i1 i2 M
theorem c_X7_isSafe {L : zL} {l : Launch} {a0 : Nat} {i1 : Int32} {i2 : Int32} {M : zM} {r : Int32 × zM} (h : f_X7_isSafe a0 i1 i2 M = some r) : CP L l yX7_isSafe cX7_isSafe 4 (some FieldType.boolean) 3 M [.ref (zad L (a0)), .int (i1), .int (i2)] (some (.int r.1)) r.2 :=
  CP.of ⟨by decide +kernel, by decide +kernel⟩ (Nat.le_of_ble_eq_true rfl) fun X Q hq => s_X7_isSafe_0 hq h
/-! WindsparlourModel.unseen(II)I -/
theorem dX7_unseen_0 : decode cX7_unseen 0 = .ok (.iconst 4, 1) := by decide +kernel
theorem dX7_unseen_1 : decode cX7_unseen 1 = .ok (.aload_n 0, 1) := by decide +kernel
theorem dX7_unseen_2 : decode cX7_unseen 2 = .ok (.getfield 38, 3) := by decide +kernel
theorem dX7_unseen_5 : decode cX7_unseen 5 = .ok (.iload_n 1, 1) := by decide +kernel
theorem dX7_unseen_6 : decode cX7_unseen 6 = .ok (.aaload, 1) := by decide +kernel
theorem dX7_unseen_7 : decode cX7_unseen 7 = .ok (.getfield 94, 3) := by decide +kernel
theorem dX7_unseen_10 : decode cX7_unseen 10 = .ok (.iload_n 2, 1) := by decide +kernel
theorem dX7_unseen_11 : decode cX7_unseen 11 = .ok (.iaload, 1) := by decide +kernel
theorem dX7_unseen_12 : decode cX7_unseen 12 = .ok (.isub, 1) := by decide +kernel
theorem dX7_unseen_13 : decode cX7_unseen 13 = .ok (.aload_n 0, 1) := by decide +kernel
theorem dX7_unseen_14 : decode cX7_unseen 14 = .ok (.iload_n 2, 1) := by decide +kernel
theorem dX7_unseen_15 : decode cX7_unseen 15 = .ok (.invokevirtual 287, 3) := by decide +kernel
theorem dX7_unseen_18 : decode cX7_unseen 18 = .ok (.isub, 1) := by decide +kernel
theorem dX7_unseen_19 : decode cX7_unseen 19 = .ok (.ireturn, 1) := by decide +kernel
def f_X7_unseen_0 (a0 : Nat) (i1 : Int32) (i2 : Int32) (M : zM) : Option (Int32 × zM) :=
  (gR 13 1 M a0).bind fun v1 =>
  (lQ 2 M v1 i1).bind fun v2 =>
  (gR 12 2 M v2).bind fun v3 =>
  (lA 0 M v3 i2).bind fun v4 =>
  if mK M a0 = 13 then
  (f_X7_seenNow a0 i2 M).bind fun r5 =>
  some ((((((4 : Int32)) - v4)) - r5.1), r5.2)
  else none
set_option maxRecDepth 20000 in
set_option maxHeartbeats 4000000 in
theorem s_X7_unseen_0 {L : zL} {X : zX} {M0 : zM} {N : Nat × Nat} {Q : State → Prop} {r : Int32 × zM} (hq : vQ L X M0 N Q (some (.int r.1)) r.2) {a0 : Nat} {i1 : Int32} {i2 : Int32} {M : zM} (h : f_X7_unseen_0 a0 i1 i2 M = some r) : V L X yX7_unseen cX7_unseen 3 (some FieldType.int) 4 M0 N Q M 0 [(0, .ref (zad L (a0))), (1, .int (i1)), (2, .int (i2))] [] := by
  unfold f_X7_unseen_0 at h
  refine V_iconst (v := 4) dX7_unseen_0 (by decide) ?_
  refine V_aload_n dX7_unseen_1 rfl 0 rfl ?_
  replace h := ob h
  obtain ⟨v1, e_v1, h⟩ := h
  refine V_getR zf_13_1 zl_X7_38 e_v1 dX7_unseen_2 ?_
  refine V_pc (pc' := 5) rfl ?_
  refine V_iload_n dX7_unseen_5 rfl 1 rfl ?_
  replace h := ob h
  obtain ⟨v2, e_v2, h⟩ := h
  refine V_aald (by decide) e_v2 dX7_unseen_6 ?_
  refine V_pc (pc' := 7) rfl ?_
  replace h := ob h
  obtain ⟨v3, e_v3, h⟩ := h
  refine V_getR zf_12_2 zl_X7_94 e_v3 dX7_unseen_7 ?_
  refine V_pc (pc' := 10) rfl ?_
  refine V_iload_n dX7_unseen_10 rfl 2 rfl ?_
  replace h := ob h
  obtain ⟨v4, e_v4, h⟩ := h
  refine V_iald e_v4 dX7_unseen_11 ?_
  refine V_pc (pc' := 12) rfl ?_
  refine V_isub dX7_unseen_12 ?_
  refine V_aload_n dX7_unseen_13 rfl 0 rfl ?_
  refine V_iload_n dX7_unseen_14 rfl 2 rfl ?_
  replace h := ox h
  obtain ⟨c6, h⟩ := h
  replace h := ob h
  obtain ⟨r5, e_r5, h⟩ := h
  refine V_callV_I (As := [.int (i2)]) (rest := [.int ((((4 : Int32)) - v4))]) (c_X7_seenNow e_r5) zc_X7_seenNow rfl (by decide) rfl (by decide) (Or.inl c6) zm_X7_287 (Nat.le_of_ble_eq_true rfl) rfl dX7_unseen_15 ?_
  refine V_pc (pc' := 18) rfl ?_
  refine V_isub dX7_unseen_18 ?_
  cases h
  exact V_iret rfl hq dX7_unseen_19
def f_X7_unseen (a0 : Nat) (i1 : Int32) (i2 : Int32) (M : zM) : Option (Int32 × zM) := f_X7_unseen_0 a0 i1 i2 M
theorem c_X7_unseen {L : zL} {l : Launch} {a0 : Nat} {i1 : Int32} {i2 : Int32} {M : zM} {r : Int32 × zM} (h : f_X7_unseen a0 i1 i2 M = some r) : CP L l yX7_unseen cX7_unseen 3 (some FieldType.int) 4 M [.ref (zad L (a0)), .int (i1), .int (i2)] (some (.int r.1)) r.2 :=
  CP.of ⟨by decide +kernel, by decide +kernel⟩ (Nat.le_of_ble_eq_true rfl) fun X Q hq => s_X7_unseen_0 hq h
/-! WindsparlourModel.outs(I)I -/
theorem dX7_outs_0 : decode cX7_outs 0 = .ok (.aload_n 0, 1) := by decide +kernel
theorem dX7_outs_1 : decode cX7_outs 1 = .ok (.iload_n 1, 1) := by decide +kernel
theorem dX7_outs_2 : decode cX7_outs 2 = .ok (.invokestatic 174, 3) := by decide +kernel
theorem dX7_outs_5 : decode cX7_outs 5 = .ok (.iconst 1, 1) := by decide +kernel
theorem dX7_outs_6 : decode cX7_outs 6 = .ok (.invokevirtual 85, 3) := by decide +kernel
theorem dX7_outs_9 : decode cX7_outs 9 = .ok (.ifCond .ne 15, 3) := by decide +kernel
theorem dX7_outs_12 : decode cX7_outs 12 = .ok (.aload_n 0, 1) := by decide +kernel
theorem dX7_outs_13 : decode cX7_outs 13 = .ok (.getfield 38, 3) := by decide +kernel
theorem dX7_outs_16 : decode cX7_outs 16 = .ok (.iload_n 1, 1) := by decide +kernel
theorem dX7_outs_17 : decode cX7_outs 17 = .ok (.aaload, 1) := by decide +kernel
theorem dX7_outs_18 : decode cX7_outs 18 = .ok (.invokevirtual 330, 3) := by decide +kernel
theorem dX7_outs_21 : decode cX7_outs 21 = .ok (.ifCond .eq 5, 3) := by decide +kernel
theorem dX7_outs_24 : decode cX7_outs 24 = .ok (.iconst 0, 1) := by decide +kernel
theorem dX7_outs_25 : decode cX7_outs 25 = .ok (.ireturn, 1) := by decide +kernel
theorem dX7_outs_26 : decode cX7_outs 26 = .ok (.aload_n 0, 1) := by decide +kernel
theorem dX7_outs_27 : decode cX7_outs 27 = .ok (.getfield 38, 3) := by decide +kernel
theorem dX7_outs_30 : decode cX7_outs 30 = .ok (.iload_n 1, 1) := by decide +kernel
theorem dX7_outs_31 : decode cX7_outs 31 = .ok (.aaload, 1) := by decide +kernel
theorem dX7_outs_32 : decode cX7_outs 32 = .ok (.invokevirtual 272, 3) := by decide +kernel
theorem dX7_outs_35 : decode cX7_outs 35 = .ok (.istore_n 2, 1) := by decide +kernel
theorem dX7_outs_36 : decode cX7_outs 36 = .ok (.iconst 0, 1) := by decide +kernel
theorem dX7_outs_37 : decode cX7_outs 37 = .ok (.istore_n 3, 1) := by decide +kernel
theorem dX7_outs_38 : decode cX7_outs 38 = .ok (.iconst 0, 1) := by decide +kernel
theorem dX7_outs_39 : decode cX7_outs 39 = .ok (.istore 4, 2) := by decide +kernel
theorem dX7_outs_41 : decode cX7_outs 41 = .ok (.iload 4, 2) := by decide +kernel
theorem dX7_outs_43 : decode cX7_outs 43 = .ok (.bipush 25, 2) := by decide +kernel
theorem dX7_outs_45 : decode cX7_outs 45 = .ok (.if_icmp .ge 49, 3) := by decide +kernel
theorem dX7_outs_48 : decode cX7_outs 48 = .ok (.iload_n 3, 1) := by decide +kernel
theorem dX7_outs_49 : decode cX7_outs 49 = .ok (.aload_n 0, 1) := by decide +kernel
theorem dX7_outs_50 : decode cX7_outs 50 = .ok (.iload_n 1, 1) := by decide +kernel
theorem dX7_outs_51 : decode cX7_outs 51 = .ok (.iload 4, 2) := by decide +kernel
theorem dX7_outs_53 : decode cX7_outs 53 = .ok (.invokevirtual 333, 3) := by decide +kernel
theorem dX7_outs_56 : decode cX7_outs 56 = .ok (.ifCond .le 29, 3) := by decide +kernel
theorem dX7_outs_59 : decode cX7_outs 59 = .ok (.aload_n 0, 1) := by decide +kernel
theorem dX7_outs_60 : decode cX7_outs 60 = .ok (.getfield 38, 3) := by decide +kernel
theorem dX7_outs_63 : decode cX7_outs 63 = .ok (.iload_n 1, 1) := by decide +kernel
theorem dX7_outs_64 : decode cX7_outs 64 = .ok (.aaload, 1) := by decide +kernel
theorem dX7_outs_65 : decode cX7_outs 65 = .ok (.iload 4, 2) := by decide +kernel
theorem dX7_outs_67 : decode cX7_outs 67 = .ok (.iconst 1, 1) := by decide +kernel
theorem dX7_outs_68 : decode cX7_outs 68 = .ok (.invokevirtual 324, 3) := by decide +kernel
theorem dX7_outs_71 : decode cX7_outs 71 = .ok (.iload_n 2, 1) := by decide +kernel
theorem dX7_outs_72 : decode cX7_outs 72 = .ok (.if_icmp .ge 13, 3) := by decide +kernel
theorem dX7_outs_75 : decode cX7_outs 75 = .ok (.aload_n 0, 1) := by decide +kernel
theorem dX7_outs_76 : decode cX7_outs 76 = .ok (.iload_n 1, 1) := by decide +kernel
theorem dX7_outs_77 : decode cX7_outs 77 = .ok (.iload 4, 2) := by decide +kernel
theorem dX7_outs_79 : decode cX7_outs 79 = .ok (.invokevirtual 333, 3) := by decide +kernel
theorem dX7_outs_82 : decode cX7_outs 82 = .ok (.goto 4, 3) := by decide +kernel
theorem dX7_outs_85 : decode cX7_outs 85 = .ok (.iconst 0, 1) := by decide +kernel
theorem dX7_outs_86 : decode cX7_outs 86 = .ok (.iadd, 1) := by decide +kernel
theorem dX7_outs_87 : decode cX7_outs 87 = .ok (.istore_n 3, 1) := by decide +kernel
theorem dX7_outs_88 : decode cX7_outs 88 = .ok (.iinc 4 1, 3) := by decide +kernel
theorem dX7_outs_91 : decode cX7_outs 91 = .ok (.goto (-50), 3) := by decide +kernel
theorem dX7_outs_94 : decode cX7_outs 94 = .ok (.iload_n 3, 1) := by decide +kernel
theorem dX7_outs_95 : decode cX7_outs 95 = .ok (.ireturn, 1) := by decide +kernel
def f_X7_outs_41 (n : Nat) (a0 : Nat) (i1 : Int32) (i2 : Int32) (i3 : Int32) (i4 : Int32) (M : zM) : Option (Int32 × zM) := match n with
  | 0 => none
  | n + 1 =>
    if ((25 : Int32)) ≤ i4 then
    some (i3, M)
    else
    if mK M a0 = 13 then
    (f_X7_unseen a0 i1 i4 M).bind fun r1 =>
    if r1.1 ≤ 0 then
    f_X7_outs_41 n a0 i1 i2 ((i3 + ((0 : Int32)))) ((i4 + (1 : Int32))) r1.2
    else
    (gR 13 1 r1.2 a0).bind fun v3 =>
    (lQ 2 r1.2 v3 i1).bind fun v4 =>
    if mK r1.2 v4 = 12 then
    (f_X6_farWith v4 i4 ((1 : Int32)) r1.2).bind fun r5 =>
    if i2 ≤ r5.1 then
    f_X7_outs_41 n a0 i1 i2 ((i3 + ((0 : Int32)))) ((i4 + (1 : Int32))) r5.2
    else
    if mK r5.2 a0 = 13 then
    (f_X7_unseen a0 i1 i4 r5.2).bind fun r7 =>
    f_X7_outs_41 n a0 i1 i2 ((i3 + r7.1)) ((i4 + (1 : Int32))) r7.2
    else none
    else none
    else none
set_option maxRecDepth 20000 in
set_option maxHeartbeats 4000000 in
theorem s_X7_outs_41 {L : zL} {X : zX} {M0 : zM} {N : Nat × Nat} {Q : State → Prop} {r : Int32 × zM} (hq : vQ L X M0 N Q (some (.int r.1)) r.2) {n : Nat} {a0 : Nat} {i1 : Int32} {i2 : Int32} {i3 : Int32} {i4 : Int32} {M : zM} : f_X7_outs_41 n a0 i1 i2 i3 i4 M = some r → V L X yX7_outs cX7_outs 5 (some FieldType.int) 133 M0 N Q M 41 [(0, .ref (zad L (a0))), (1, .int (i1)), (2, .int (i2)), (3, .int (i3)), (4, .int (i4))] [] := by
  induction n generalizing a0 i1 i2 i3 i4 M with
  | zero =>
    intro h
    rw [f_X7_outs_41] at h
    cases h
  | succ n ih0 =>
    intro h
    have ih : ∀ (a0 : Nat) (i1 : Int32) (i2 : Int32) (i3 : Int32) (i4 : Int32) (M : zM), f_X7_outs_41 n a0 i1 i2 i3 i4 M = some r → V L X yX7_outs cX7_outs 5 (some FieldType.int) 133 M0 N Q M 41 [(0, .ref (zad L (a0))), (1, .int (i1)), (2, .int (i2)), (3, .int (i3)), (4, .int (i4))] [] := fun a0 i1 i2 i3 i4 M h => ih0 h
    rw [f_X7_outs_41] at h
    refine V_iload dX7_outs_41 4 rfl ?_
    refine V_bipush (v := 25) dX7_outs_43 (by decide) ?_
    refine V_icmp_ge (tgt := 94) dX7_outs_45 (by decide) (fun c11 => ?_) (fun c11 => ?_)
    · replace h := (oi h).1 c11
      refine V_iload_n dX7_outs_94 rfl 3 rfl ?_
      cases h
      exact V_iret rfl hq dX7_outs_95
    · replace h := (oi h).2 c11
      refine V_iload_n dX7_outs_48 rfl 3 rfl ?_
      refine V_aload_n dX7_outs_49 rfl 0 rfl ?_
      refine V_iload_n dX7_outs_50 rfl 1 rfl ?_
      refine V_iload dX7_outs_51 4 rfl ?_
      replace h := ox h
      obtain ⟨c2, h⟩ := h
      replace h := ob h
      obtain ⟨r1, e_r1, h⟩ := h
      refine V_callV_I (As := [.int (i1), .int (i4)]) (rest := [.int (i3)]) (c_X7_unseen e_r1) zc_X7_unseen rfl (by decide) rfl (by decide) (Or.inl c2) zm_X7_333 (Nat.le_of_ble_eq_true rfl) rfl dX7_outs_53 ?_
      refine V_pc (pc' := 56) rfl ?_
      refine V_if_le (tgt := 85) dX7_outs_56 (by decide) (fun c10 => ?_) (fun c10 => ?_)
      · replace h := (oi h).1 c10
        refine V_iconst (v := 0) dX7_outs_85 (by decide) ?_
        refine V_iadd dX7_outs_86 ?_
        refine V_istore_n (ls' := [(3, .int ((i3 + ((0 : Int32))))), (0, .ref (zad L (a0))), (1, .int (i1)), (2, .int (i2)), (4, .int (i4))]) dX7_outs_87 rfl (by decide) rfl ?_
        refine V_iinc (v := i4 + (1 : Int32)) (ls' := [(4, .int ((i4 + (1 : Int32)))), (3, .int ((i3 + ((0 : Int32))))), (0, .ref (zad L (a0))), (1, .int (i1)), (2, .int (i2))]) dX7_outs_88 4 rfl (by rfl) (by decide) rfl ?_
        refine V_goto (tgt := 41) dX7_outs_91 (by decide) ?_
        refine V_sub [2, 3, 4, 1, 0] rfl ?_
        exact ih _ _ _ _ _ _ h
      · replace h := (oi h).2 c10
        refine V_aload_n dX7_outs_59 rfl 0 rfl ?_
        replace h := ob h
        obtain ⟨v3, e_v3, h⟩ := h
        refine V_getR zf_13_1 zl_X7_38 e_v3 dX7_outs_60 ?_
        refine V_pc (pc' := 63) rfl ?_
        refine V_iload_n dX7_outs_63 rfl 1 rfl ?_
        replace h := ob h
        obtain ⟨v4, e_v4, h⟩ := h
        refine V_aald (by decide) e_v4 dX7_outs_64 ?_
        refine V_pc (pc' := 65) rfl ?_
        refine V_iload dX7_outs_65 4 rfl ?_
        refine V_iconst (v := 1) dX7_outs_67 (by decide) ?_
        replace h := ox h
        obtain ⟨c6, h⟩ := h
        replace h := ob h
        obtain ⟨r5, e_r5, h⟩ := h
        refine V_callV_I (As := [.int (i4), .int ((1 : Int32))]) (rest := [.int (i3)]) (c_X6_farWith e_r5) zc_X6_farWith rfl (by decide) rfl (by decide) (Or.inl c6) zm_X7_324 (Nat.le_of_ble_eq_true rfl) rfl dX7_outs_68 ?_
        refine V_pc (pc' := 71) rfl ?_
        refine V_iload_n dX7_outs_71 rfl 2 rfl ?_
        refine V_icmp_ge (tgt := 85) dX7_outs_72 (by decide) (fun c9 => ?_) (fun c9 => ?_)
        · replace h := (oi h).1 c9
          refine V_iconst (v := 0) dX7_outs_85 (by decide) ?_
          refine V_iadd dX7_outs_86 ?_
          refine V_istore_n (ls' := [(3, .int ((i3 + ((0 : Int32))))), (0, .ref (zad L (a0))), (1, .int (i1)), (2, .int (i2)), (4, .int (i4))]) dX7_outs_87 rfl (by decide) rfl ?_
          refine V_iinc (v := i4 + (1 : Int32)) (ls' := [(4, .int ((i4 + (1 : Int32)))), (3, .int ((i3 + ((0 : Int32))))), (0, .ref (zad L (a0))), (1, .int (i1)), (2, .int (i2))]) dX7_outs_88 4 rfl (by rfl) (by decide) rfl ?_
          refine V_goto (tgt := 41) dX7_outs_91 (by decide) ?_
          refine V_sub [2, 3, 4, 1, 0] rfl ?_
          exact ih _ _ _ _ _ _ h
        · replace h := (oi h).2 c9
          refine V_aload_n dX7_outs_75 rfl 0 rfl ?_
          refine V_iload_n dX7_outs_76 rfl 1 rfl ?_
          refine V_iload dX7_outs_77 4 rfl ?_
          replace h := ox h
          obtain ⟨c8, h⟩ := h
          replace h := ob h
          obtain ⟨r7, e_r7, h⟩ := h
          refine V_callV_I (As := [.int (i1), .int (i4)]) (rest := [.int (i3)]) (c_X7_unseen e_r7) zc_X7_unseen rfl (by decide) rfl (by decide) (Or.inl c8) zm_X7_333 (Nat.le_of_ble_eq_true rfl) rfl dX7_outs_79 ?_
          refine V_pc (pc' := 82) rfl ?_
          refine V_goto (tgt := 86) dX7_outs_82 (by decide) ?_
          refine V_iadd dX7_outs_86 ?_
          refine V_istore_n (ls' := [(3, .int ((i3 + r7.1))), (0, .ref (zad L (a0))), (1, .int (i1)), (2, .int (i2)), (4, .int (i4))]) dX7_outs_87 rfl (by decide) rfl ?_
          refine V_iinc (v := i4 + (1 : Int32)) (ls' := [(4, .int ((i4 + (1 : Int32)))), (3, .int ((i3 + r7.1))), (0, .ref (zad L (a0))), (1, .int (i1)), (2, .int (i2))]) dX7_outs_88 4 rfl (by rfl) (by decide) rfl ?_
          refine V_goto (tgt := 41) dX7_outs_91 (by decide) ?_
          refine V_sub [2, 3, 4, 1, 0] rfl ?_
          exact ih _ _ _ _ _ _ h
def f_X7_outs_0 (a0 : Nat) (i1 : Int32) (M : zM) : Option (Int32 × zM) :=
  (f_X7_isNoPlayer i1 M).bind fun r1 =>
  if mK r1.2 a0 = 13 then
  (f_X7_start a0 r1.1 ((1 : Int32)) r1.2).bind fun r2 =>
  if r2.1 = 0 then
  (gR 13 1 r2.2 a0).bind fun v4 =>
  (lQ 2 r2.2 v4 i1).bind fun v5 =>
  if mK r2.2 v5 = 12 then
  (f_X6_hasTooMany v5 r2.2).bind fun r6 =>
  if r6.1 = 0 then
  (gR 13 1 r6.2 a0).bind fun v8 =>
  (lQ 2 r6.2 v8 i1).bind fun v9 =>
  if mK r6.2 v9 = 12 then
  (f_X6_far v9 r6.2).bind fun r10 =>
  f_X7_outs_41 zN a0 i1 r10.1 ((0 : Int32)) ((0 : Int32)) r10.2
  else none
  else
  some ((0 : Int32), r6.2)
  else none
  else
  some ((0 : Int32), r2.2)
  else none
set_option maxRecDepth 20000 in
set_option maxHeartbeats 4000000 in
theorem s_X7_outs_0 {L : zL} {X : zX} {M0 : zM} {N : Nat × Nat} {Q : State → Prop} {r : Int32 × zM} (hq : vQ L X M0 N Q (some (.int r.1)) r.2) {a0 : Nat} {i1 : Int32} {M : zM} (h : f_X7_outs_0 a0 i1 M = some r) : V L X yX7_outs cX7_outs 5 (some FieldType.int) 133 M0 N Q M 0 [(0, .ref (zad L (a0))), (1, .int (i1))] [] := by
  unfold f_X7_outs_0 at h
  refine V_aload_n dX7_outs_0 rfl 0 rfl ?_
  refine V_iload_n dX7_outs_1 rfl 1 rfl ?_
  replace h := ob h
  obtain ⟨r1, e_r1, h⟩ := h
  refine V_callS_I (As := [.int (i1)]) (rest := [.ref (zad L (a0))]) (c_X7_isNoPlayer e_r1) zc_X7_isNoPlayer rfl (by decide) zm_X7_174 (Nat.le_of_ble_eq_true rfl) rfl dX7_outs_2 ?_
  refine V_pc (pc' := 5) rfl ?_
  refine V_iconst (v := 1) dX7_outs_5 (by decide) ?_
  replace h := ox h
  obtain ⟨c3, h⟩ := h
  replace h := ob h
  obtain ⟨r2, e_r2, h⟩ := h
  refine V_callV_I (As := [.int (r1.1), .int ((1 : Int32))]) (rest := []) (c_X7_start e_r2) zc_X7_start rfl (by decide) rfl (by decide) (Or.inl c3) zm_X7_85 (Nat.le_of_ble_eq_true rfl) rfl dX7_outs_6 ?_
  refine V_pc (pc' := 9) rfl ?_
  refine V_if_ne (tgt := 24) dX7_outs_9 (by decide) (fun c13 => ?_) (fun c13 => ?_)
  · replace h := (oi h).2 c13
    refine V_iconst (v := 0) dX7_outs_24 (by decide) ?_
    cases h
    exact V_iret rfl hq dX7_outs_25
  · replace h := (oi h).1 c13
    refine V_aload_n dX7_outs_12 rfl 0 rfl ?_
    replace h := ob h
    obtain ⟨v4, e_v4, h⟩ := h
    refine V_getR zf_13_1 zl_X7_38 e_v4 dX7_outs_13 ?_
    refine V_pc (pc' := 16) rfl ?_
    refine V_iload_n dX7_outs_16 rfl 1 rfl ?_
    replace h := ob h
    obtain ⟨v5, e_v5, h⟩ := h
    refine V_aald (by decide) e_v5 dX7_outs_17 ?_
    refine V_pc (pc' := 18) rfl ?_
    replace h := ox h
    obtain ⟨c7, h⟩ := h
    replace h := ob h
    obtain ⟨r6, e_r6, h⟩ := h
    refine V_callV_I (As := []) (rest := []) (c_X6_hasTooMany e_r6) zc_X6_hasTooMany rfl (by decide) rfl (by decide) (Or.inl c7) zm_X7_330 (Nat.le_of_ble_eq_true rfl) rfl dX7_outs_18 ?_
    refine V_pc (pc' := 21) rfl ?_
    refine V_if_eq (tgt := 26) dX7_outs_21 (by decide) (fun c12 => ?_) (fun c12 => ?_)
    · replace h := (oi h).1 c12
      refine V_aload_n dX7_outs_26 rfl 0 rfl ?_
      replace h := ob h
      obtain ⟨v8, e_v8, h⟩ := h
      refine V_getR zf_13_1 zl_X7_38 e_v8 dX7_outs_27 ?_
      refine V_pc (pc' := 30) rfl ?_
      refine V_iload_n dX7_outs_30 rfl 1 rfl ?_
      replace h := ob h
      obtain ⟨v9, e_v9, h⟩ := h
      refine V_aald (by decide) e_v9 dX7_outs_31 ?_
      refine V_pc (pc' := 32) rfl ?_
      replace h := ox h
      obtain ⟨c11, h⟩ := h
      replace h := ob h
      obtain ⟨r10, e_r10, h⟩ := h
      refine V_callV_I (As := []) (rest := []) (c_X6_far e_r10) zc_X6_far rfl (by decide) rfl (by decide) (Or.inl c11) zm_X7_272 (Nat.le_of_ble_eq_true rfl) rfl dX7_outs_32 ?_
      refine V_pc (pc' := 35) rfl ?_
      refine V_istore_n (ls' := [(2, .int (r10.1)), (0, .ref (zad L (a0))), (1, .int (i1))]) dX7_outs_35 rfl (by decide) rfl ?_
      refine V_iconst (v := 0) dX7_outs_36 (by decide) ?_
      refine V_istore_n (ls' := [(3, .int ((0 : Int32))), (2, .int (r10.1)), (0, .ref (zad L (a0))), (1, .int (i1))]) dX7_outs_37 rfl (by decide) rfl ?_
      refine V_iconst (v := 0) dX7_outs_38 (by decide) ?_
      refine V_istore (ls' := [(4, .int ((0 : Int32))), (3, .int ((0 : Int32))), (2, .int (r10.1)), (0, .ref (zad L (a0))), (1, .int (i1))]) dX7_outs_39 (by decide) rfl ?_
      refine V_sub [3, 4, 2, 1, 0] rfl ?_
      exact s_X7_outs_41 hq h
    · replace h := (oi h).2 c12
      refine V_iconst (v := 0) dX7_outs_24 (by decide) ?_
      cases h
      exact V_iret rfl hq dX7_outs_25
def f_X7_outs (a0 : Nat) (i1 : Int32) (M : zM) : Option (Int32 × zM) := f_X7_outs_0 a0 i1 M
theorem c_X7_outs {L : zL} {l : Launch} {a0 : Nat} {i1 : Int32} {M : zM} {r : Int32 × zM} (h : f_X7_outs a0 i1 M = some r) : CP L l yX7_outs cX7_outs 5 (some FieldType.int) 133 M [.ref (zad L (a0)), .int (i1)] (some (.int r.1)) r.2 :=
  CP.of ⟨by decide +kernel, by decide +kernel⟩ (Nat.le_of_ble_eq_true rfl) fun X Q hq => s_X7_outs_0 hq h
/-! WindsparlourModel.add(JJ)J -/
theorem dX7_add_0 : decode cX7_add 0 = .ok (.lload_n 0, 1) := by decide +kernel
theorem dX7_add_1 : decode cX7_add 1 = .ok (.ldc2_w 336, 3) := by decide +kernel
theorem dX7_add_4 : decode cX7_add 4 = .ok (.lmul, 1) := by decide +kernel
theorem dX7_add_5 : decode cX7_add 5 = .ok (.lload_n 2, 1) := by decide +kernel
theorem dX7_add_6 : decode cX7_add 6 = .ok (.ladd, 1) := by decide +kernel
theorem dX7_add_7 : decode cX7_add 7 = .ok (.lreturn, 1) := by decide +kernel
def f_X7_add_0 (j0 : Int64) (j2 : Int64) (M : zM) : Option (Int64 × zM) :=
  some ((((j0 * ((31 : Int64)))) + j2), M)
set_option maxRecDepth 20000 in
set_option maxHeartbeats 4000000 in
theorem s_X7_add_0 {L : zL} {X : zX} {M0 : zM} {N : Nat × Nat} {Q : State → Prop} {r : Int64 × zM} (hq : vQ L X M0 N Q (some (.long r.1)) r.2) {j0 : Int64} {j2 : Int64} {M : zM} (h : f_X7_add_0 j0 j2 M = some r) : V L X yX7_add cX7_add 4 (some FieldType.long) 1 M0 N Q M 0 [(0, .long (j0)), (2, .long (j2))] [] := by
  unfold f_X7_add_0 at h
  refine V_lload_n dX7_add_0 rfl 0 rfl ?_
  refine V_ldc2 zcn_X7_336 dX7_add_1 ?_
  refine V_lmul dX7_add_4 ?_
  refine V_lload_n dX7_add_5 rfl 1 rfl ?_
  refine V_ladd dX7_add_6 ?_
  cases h
  exact V_lret rfl hq dX7_add_7
def f_X7_add (j0 : Int64) (j2 : Int64) (M : zM) : Option (Int64 × zM) := f_X7_add_0 j0 j2 M
theorem c_X7_add {L : zL} {l : Launch} {j0 : Int64} {j2 : Int64} {M : zM} {r : Int64 × zM} (h : f_X7_add j0 j2 M = some r) : CP L l yX7_add cX7_add 4 (some FieldType.long) 1 M [.long (j0), .long (j2)] (some (.long r.1)) r.2 :=
  CP.of ⟨by decide +kernel, by decide +kernel⟩ (Nat.le_of_ble_eq_true rfl) fun X Q hq => s_X7_add_0 hq h
/-! WindsparlourModel.digest()J -/
theorem dX7_digest_0 : decode cX7_digest 0 = .ok (.aload_n 0, 1) := by decide +kernel
theorem dX7_digest_1 : decode cX7_digest 1 = .ok (.iconst 0, 1) := by decide +kernel
theorem dX7_digest_2 : decode cX7_digest 2 = .ok (.putfield 65, 3) := by decide +kernel
theorem dX7_digest_5 : decode cX7_digest 5 = .ok (.ldc2_w 338, 3) := by decide +kernel
theorem dX7_digest_8 : decode cX7_digest 8 = .ok (.lstore_n 1, 1) := by decide +kernel
theorem dX7_digest_9 : decode cX7_digest 9 = .ok (.iconst 0, 1) := by decide +kernel
theorem dX7_digest_10 : decode cX7_digest 10 = .ok (.istore_n 3, 1) := by decide +kernel
theorem dX7_digest_11 : decode cX7_digest 11 = .ok (.iload_n 3, 1) := by decide +kernel
theorem dX7_digest_12 : decode cX7_digest 12 = .ok (.bipush 10, 2) := by decide +kernel
theorem dX7_digest_14 : decode cX7_digest 14 = .ok (.if_icmp .ge 20, 3) := by decide +kernel
theorem dX7_digest_17 : decode cX7_digest 17 = .ok (.lload_n 1, 1) := by decide +kernel
theorem dX7_digest_18 : decode cX7_digest 18 = .ok (.aload_n 0, 1) := by decide +kernel
theorem dX7_digest_19 : decode cX7_digest 19 = .ok (.iload_n 3, 1) := by decide +kernel
theorem dX7_digest_20 : decode cX7_digest 20 = .ok (.invokevirtual 315, 3) := by decide +kernel
theorem dX7_digest_23 : decode cX7_digest 23 = .ok (.i2l, 1) := by decide +kernel
theorem dX7_digest_24 : decode cX7_digest 24 = .ok (.invokestatic 340, 3) := by decide +kernel
theorem dX7_digest_27 : decode cX7_digest 27 = .ok (.lstore_n 1, 1) := by decide +kernel
theorem dX7_digest_28 : decode cX7_digest 28 = .ok (.iinc 3 1, 3) := by decide +kernel
theorem dX7_digest_31 : decode cX7_digest 31 = .ok (.goto (-20), 3) := by decide +kernel
theorem dX7_digest_34 : decode cX7_digest 34 = .ok (.iconst 0, 1) := by decide +kernel
theorem dX7_digest_35 : decode cX7_digest 35 = .ok (.istore_n 3, 1) := by decide +kernel
theorem dX7_digest_36 : decode cX7_digest 36 = .ok (.iload_n 3, 1) := by decide +kernel
theorem dX7_digest_37 : decode cX7_digest 37 = .ok (.iconst 4, 1) := by decide +kernel
theorem dX7_digest_38 : decode cX7_digest 38 = .ok (.if_icmp .ge 199, 3) := by decide +kernel
theorem dX7_digest_41 : decode cX7_digest 41 = .ok (.iconst 0, 1) := by decide +kernel
theorem dX7_digest_42 : decode cX7_digest 42 = .ok (.istore 4, 2) := by decide +kernel
theorem dX7_digest_44 : decode cX7_digest 44 = .ok (.iload 4, 2) := by decide +kernel
theorem dX7_digest_46 : decode cX7_digest 46 = .ok (.bipush 10, 2) := by decide +kernel
theorem dX7_digest_48 : decode cX7_digest 48 = .ok (.if_icmp .ge 22, 3) := by decide +kernel
theorem dX7_digest_51 : decode cX7_digest 51 = .ok (.lload_n 1, 1) := by decide +kernel
theorem dX7_digest_52 : decode cX7_digest 52 = .ok (.aload_n 0, 1) := by decide +kernel
theorem dX7_digest_53 : decode cX7_digest 53 = .ok (.iload_n 3, 1) := by decide +kernel
theorem dX7_digest_54 : decode cX7_digest 54 = .ok (.iload 4, 2) := by decide +kernel
theorem dX7_digest_56 : decode cX7_digest 56 = .ok (.invokevirtual 274, 3) := by decide +kernel
theorem dX7_digest_59 : decode cX7_digest 59 = .ok (.i2l, 1) := by decide +kernel
theorem dX7_digest_60 : decode cX7_digest 60 = .ok (.invokestatic 340, 3) := by decide +kernel
theorem dX7_digest_63 : decode cX7_digest 63 = .ok (.lstore_n 1, 1) := by decide +kernel
theorem dX7_digest_64 : decode cX7_digest 64 = .ok (.iinc 4 1, 3) := by decide +kernel
theorem dX7_digest_67 : decode cX7_digest 67 = .ok (.goto (-23), 3) := by decide +kernel
theorem dX7_digest_70 : decode cX7_digest 70 = .ok (.iconst 0, 1) := by decide +kernel
theorem dX7_digest_71 : decode cX7_digest 71 = .ok (.istore 4, 2) := by decide +kernel
theorem dX7_digest_73 : decode cX7_digest 73 = .ok (.iload 4, 2) := by decide +kernel
theorem dX7_digest_75 : decode cX7_digest 75 = .ok (.bipush 25, 2) := by decide +kernel
theorem dX7_digest_77 : decode cX7_digest 77 = .ok (.if_icmp .ge 27, 3) := by decide +kernel
theorem dX7_digest_80 : decode cX7_digest 80 = .ok (.lload_n 1, 1) := by decide +kernel
theorem dX7_digest_81 : decode cX7_digest 81 = .ok (.aload_n 0, 1) := by decide +kernel
theorem dX7_digest_82 : decode cX7_digest 82 = .ok (.getfield 38, 3) := by decide +kernel
theorem dX7_digest_85 : decode cX7_digest 85 = .ok (.iload_n 3, 1) := by decide +kernel
theorem dX7_digest_86 : decode cX7_digest 86 = .ok (.aaload, 1) := by decide +kernel
theorem dX7_digest_87 : decode cX7_digest 87 = .ok (.getfield 94, 3) := by decide +kernel
theorem dX7_digest_90 : decode cX7_digest 90 = .ok (.iload 4, 2) := by decide +kernel
theorem dX7_digest_92 : decode cX7_digest 92 = .ok (.iaload, 1) := by decide +kernel
theorem dX7_digest_93 : decode cX7_digest 93 = .ok (.i2l, 1) := by decide +kernel
theorem dX7_digest_94 : decode cX7_digest 94 = .ok (.invokestatic 340, 3) := by decide +kernel
theorem dX7_digest_97 : decode cX7_digest 97 = .ok (.lstore_n 1, 1) := by decide +kernel
theorem dX7_digest_98 : decode cX7_digest 98 = .ok (.iinc 4 1, 3) := by decide +kernel
theorem dX7_digest_101 : decode cX7_digest 101 = .ok (.goto (-28), 3) := by decide +kernel
theorem dX7_digest_104 : decode cX7_digest 104 = .ok (.aload_n 0, 1) := by decide +kernel
theorem dX7_digest_105 : decode cX7_digest 105 = .ok (.getfield 38, 3) := by decide +kernel
theorem dX7_digest_108 : decode cX7_digest 108 = .ok (.iload_n 3, 1) := by decide +kernel
theorem dX7_digest_109 : decode cX7_digest 109 = .ok (.aaload, 1) := by decide +kernel
theorem dX7_digest_110 : decode cX7_digest 110 = .ok (.getfield 183, 3) := by decide +kernel
theorem dX7_digest_113 : decode cX7_digest 113 = .ok (.invokevirtual 197, 3) := by decide +kernel
theorem dX7_digest_116 : decode cX7_digest 116 = .ok (.astore 4, 2) := by decide +kernel
theorem dX7_digest_118 : decode cX7_digest 118 = .ok (.aload 4, 2) := by decide +kernel
theorem dX7_digest_120 : decode cX7_digest 120 = .ok (.invokeinterface 201 1, 5) := by decide +kernel
theorem dX7_digest_125 : decode cX7_digest 125 = .ok (.ifCond .eq 29, 3) := by decide +kernel
theorem dX7_digest_128 : decode cX7_digest 128 = .ok (.aload 4, 2) := by decide +kernel
theorem dX7_digest_130 : decode cX7_digest 130 = .ok (.invokeinterface 206 1, 5) := by decide +kernel
theorem dX7_digest_135 : decode cX7_digest 135 = .ok (.checkcast 186, 3) := by decide +kernel
theorem dX7_digest_138 : decode cX7_digest 138 = .ok (.astore 5, 2) := by decide +kernel
theorem dX7_digest_140 : decode cX7_digest 140 = .ok (.lload_n 1, 1) := by decide +kernel
theorem dX7_digest_141 : decode cX7_digest 141 = .ok (.aload 5, 2) := by decide +kernel
theorem dX7_digest_143 : decode cX7_digest 143 = .ok (.invokestatic 280, 3) := by decide +kernel
theorem dX7_digest_146 : decode cX7_digest 146 = .ok (.i2l, 1) := by decide +kernel
theorem dX7_digest_147 : decode cX7_digest 147 = .ok (.invokestatic 340, 3) := by decide +kernel
theorem dX7_digest_150 : decode cX7_digest 150 = .ok (.lstore_n 1, 1) := by decide +kernel
theorem dX7_digest_151 : decode cX7_digest 151 = .ok (.goto (-33), 3) := by decide +kernel
theorem dX7_digest_154 : decode cX7_digest 154 = .ok (.aload_n 0, 1) := by decide +kernel
theorem dX7_digest_155 : decode cX7_digest 155 = .ok (.getfield 38, 3) := by decide +kernel
theorem dX7_digest_158 : decode cX7_digest 158 = .ok (.iload_n 3, 1) := by decide +kernel
theorem dX7_digest_159 : decode cX7_digest 159 = .ok (.aaload, 1) := by decide +kernel
theorem dX7_digest_160 : decode cX7_digest 160 = .ok (.getfield 124, 3) := by decide +kernel
theorem dX7_digest_163 : decode cX7_digest 163 = .ok (.invokevirtual 197, 3) := by decide +kernel
theorem dX7_digest_166 : decode cX7_digest 166 = .ok (.astore 4, 2) := by decide +kernel
theorem dX7_digest_168 : decode cX7_digest 168 = .ok (.aload 4, 2) := by decide +kernel
theorem dX7_digest_170 : decode cX7_digest 170 = .ok (.invokeinterface 201 1, 5) := by decide +kernel
theorem dX7_digest_175 : decode cX7_digest 175 = .ok (.ifCond .eq 29, 3) := by decide +kernel
theorem dX7_digest_178 : decode cX7_digest 178 = .ok (.aload 4, 2) := by decide +kernel
theorem dX7_digest_180 : decode cX7_digest 180 = .ok (.invokeinterface 206 1, 5) := by decide +kernel
theorem dX7_digest_185 : decode cX7_digest 185 = .ok (.checkcast 129, 3) := by decide +kernel
theorem dX7_digest_188 : decode cX7_digest 188 = .ok (.invokevirtual 284, 3) := by decide +kernel
theorem dX7_digest_191 : decode cX7_digest 191 = .ok (.istore 5, 2) := by decide +kernel
theorem dX7_digest_193 : decode cX7_digest 193 = .ok (.lload_n 1, 1) := by decide +kernel
theorem dX7_digest_194 : decode cX7_digest 194 = .ok (.iload 5, 2) := by decide +kernel
theorem dX7_digest_196 : decode cX7_digest 196 = .ok (.i2l, 1) := by decide +kernel
theorem dX7_digest_197 : decode cX7_digest 197 = .ok (.invokestatic 340, 3) := by decide +kernel
theorem dX7_digest_200 : decode cX7_digest 200 = .ok (.lstore_n 1, 1) := by decide +kernel
theorem dX7_digest_201 : decode cX7_digest 201 = .ok (.goto (-33), 3) := by decide +kernel
theorem dX7_digest_204 : decode cX7_digest 204 = .ok (.lload_n 1, 1) := by decide +kernel
theorem dX7_digest_205 : decode cX7_digest 205 = .ok (.aload_n 0, 1) := by decide +kernel
theorem dX7_digest_206 : decode cX7_digest 206 = .ok (.getfield 38, 3) := by decide +kernel
theorem dX7_digest_209 : decode cX7_digest 209 = .ok (.iload_n 3, 1) := by decide +kernel
theorem dX7_digest_210 : decode cX7_digest 210 = .ok (.aaload, 1) := by decide +kernel
theorem dX7_digest_211 : decode cX7_digest 211 = .ok (.invokevirtual 248, 3) := by decide +kernel
theorem dX7_digest_214 : decode cX7_digest 214 = .ok (.invokestatic 340, 3) := by decide +kernel
theorem dX7_digest_217 : decode cX7_digest 217 = .ok (.ldc2_w 318, 3) := by decide +kernel
theorem dX7_digest_220 : decode cX7_digest 220 = .ok (.aload_n 0, 1) := by decide +kernel
theorem dX7_digest_221 : decode cX7_digest 221 = .ok (.iload_n 3, 1) := by decide +kernel
theorem dX7_digest_222 : decode cX7_digest 222 = .ok (.invokevirtual 320, 3) := by decide +kernel
theorem dX7_digest_225 : decode cX7_digest 225 = .ok (.dmul, 1) := by decide +kernel
theorem dX7_digest_226 : decode cX7_digest 226 = .ok (.d2l, 1) := by decide +kernel
theorem dX7_digest_227 : decode cX7_digest 227 = .ok (.invokestatic 340, 3) := by decide +kernel
theorem dX7_digest_230 : decode cX7_digest 230 = .ok (.lstore_n 1, 1) := by decide +kernel
theorem dX7_digest_231 : decode cX7_digest 231 = .ok (.iinc 3 1, 3) := by decide +kernel
theorem dX7_digest_234 : decode cX7_digest 234 = .ok (.goto (-198), 3) := by decide +kernel
theorem dX7_digest_237 : decode cX7_digest 237 = .ok (.lload_n 1, 1) := by decide +kernel
theorem dX7_digest_238 : decode cX7_digest 238 = .ok (.aload_n 0, 1) := by decide +kernel
theorem dX7_digest_239 : decode cX7_digest 239 = .ok (.invokevirtual 327, 3) := by decide +kernel
theorem dX7_digest_242 : decode cX7_digest 242 = .ok (.i2l, 1) := by decide +kernel
theorem dX7_digest_243 : decode cX7_digest 243 = .ok (.invokestatic 340, 3) := by decide +kernel
theorem dX7_digest_246 : decode cX7_digest 246 = .ok (.lreturn, 1) := by decide +kernel
def f_X7_digest_73 (K36 : Nat → Int64 → Int32 → zM → Option (Int64 × zM)) (n : Nat) (a0 : Nat) (j1 : Int64) (i3 : Int32) (i4 : Int32) (M : zM) : Option (Int64 × zM) := match n with
  | 0 => none
  | n + 1 =>
    if ((25 : Int32)) ≤ i4 then
    (gR 13 1 M a0).bind fun v1 =>
    (lQ 2 M v1 i3).bind fun v2 =>
    (gR 12 3 M v2).bind fun v3 =>
    none
    else
    (gR 13 1 M a0).bind fun v4 =>
    (lQ 2 M v4 i3).bind fun v5 =>
    (gR 12 2 M v5).bind fun v6 =>
    (lA 0 M v6 i4).bind fun v7 =>
    (f_X7_add j1 ((v7.toInt64)) M).bind fun r8 =>
    f_X7_digest_73 K36 n a0 r8.1 i3 ((i4 + (1 : Int32))) r8.2
set_option maxRecDepth 20000 in
set_option maxHeartbeats 4000000 in
theorem s_X7_digest_73 {L : zL} {X : zX} {M0 : zM} {N : Nat × Nat} {Q : State → Prop} {r : Int64 × zM} {K36 : Nat → Int64 → Int32 → zM → Option (Int64 × zM)} (hK36 : ∀ (a0 : Nat) (j1 : Int64) (i3 : Int32) (M : zM), K36 a0 j1 i3 M = some r → V L X yX7_digest cX7_digest 6 (some FieldType.long) 134 M0 N Q M 36 [(0, .ref (zad L (a0))), (1, .long (j1)), (3, .int (i3))] []) (hq : vQ L X M0 N Q (some (.long r.1)) r.2) {n : Nat} {a0 : Nat} {j1 : Int64} {i3 : Int32} {i4 : Int32} {M : zM} : f_X7_digest_73 K36 n a0 j1 i3 i4 M = some r → V L X yX7_digest cX7_digest 6 (some FieldType.long) 134 M0 N Q M 73 [(0, .ref (zad L (a0))), (1, .long (j1)), (3, .int (i3)), (4, .int (i4))] [] := by
  induction n generalizing a0 j1 i3 i4 M with
  | zero =>
    intro h
    rw [f_X7_digest_73] at h
    cases h
  | succ n ih0 =>
    intro h
    have ih : ∀ (a0 : Nat) (j1 : Int64) (i3 : Int32) (i4 : Int32) (M : zM), f_X7_digest_73 K36 n a0 j1 i3 i4 M = some r → V L X yX7_digest cX7_digest 6 (some FieldType.long) 134 M0 N Q M 73 [(0, .ref (zad L (a0))), (1, .long (j1)), (3, .int (i3)), (4, .int (i4))] [] := fun a0 j1 i3 i4 M h => ih0 h
    rw [f_X7_digest_73] at h
    refine V_iload dX7_digest_73 3 rfl ?_
    refine V_bipush (v := 25) dX7_digest_75 (by decide) ?_
    refine V_icmp_ge (tgt := 104) dX7_digest_77 (by decide) (fun c9 => ?_) (fun c9 => ?_)
    · replace h := (oi h).1 c9
      refine V_aload_n dX7_digest_104 rfl 0 rfl ?_
      replace h := ob h
      obtain ⟨v1, e_v1, h⟩ := h
      refine V_getR zf_13_1 zl_X7_38 e_v1 dX7_digest_105 ?_
      refine V_pc (pc' := 108) rfl ?_
      refine V_iload_n dX7_digest_108 rfl 2 rfl ?_
      replace h := ob h
      obtain ⟨v2, e_v2, h⟩ := h
      refine V_aald (by decide) e_v2 dX7_digest_109 ?_
      refine V_pc (pc' := 110) rfl ?_
      replace h := ob h
      obtain ⟨v3, e_v3, h⟩ := h
      refine V_getR zf_12_3 zl_X7_183 e_v3 dX7_digest_110 ?_
      refine V_pc (pc' := 113) rfl ?_
      cases h
    · replace h := (oi h).2 c9
      refine V_lload_n dX7_digest_80 rfl 1 rfl ?_
      refine V_aload_n dX7_digest_81 rfl 0 rfl ?_
      replace h := ob h
      obtain ⟨v4, e_v4, h⟩ := h
      refine V_getR zf_13_1 zl_X7_38 e_v4 dX7_digest_82 ?_
      refine V_pc (pc' := 85) rfl ?_
      refine V_iload_n dX7_digest_85 rfl 2 rfl ?_
      replace h := ob h
      obtain ⟨v5, e_v5, h⟩ := h
      refine V_aald (by decide) e_v5 dX7_digest_86 ?_
      refine V_pc (pc' := 87) rfl ?_
      replace h := ob h
      obtain ⟨v6, e_v6, h⟩ := h
      refine V_getR zf_12_2 zl_X7_94 e_v6 dX7_digest_87 ?_
      refine V_pc (pc' := 90) rfl ?_
      refine V_iload dX7_digest_90 3 rfl ?_
      replace h := ob h
      obtain ⟨v7, e_v7, h⟩ := h
      refine V_iald e_v7 dX7_digest_92 ?_
      refine V_pc (pc' := 93) rfl ?_
      refine V_i2l dX7_digest_93 ?_
      replace h := ob h
      obtain ⟨r8, e_r8, h⟩ := h
      refine V_callS_J (As := [.long (j1), .long ((v7.toInt64))]) (rest := []) (c_X7_add e_r8) zc_X7_add rfl (by decide) zm_X7_340 (Nat.le_of_ble_eq_true rfl) rfl dX7_digest_94 ?_
      refine V_pc (pc' := 97) rfl ?_
      refine V_lstore_n (ls' := [(1, .long (r8.1)), (0, .ref (zad L (a0))), (3, .int (i3)), (4, .int (i4))]) dX7_digest_97 rfl (by decide) rfl ?_
      refine V_iinc (v := i4 + (1 : Int32)) (ls' := [(4, .int ((i4 + (1 : Int32)))), (1, .long (r8.1)), (0, .ref (zad L (a0))), (3, .int (i3))]) dX7_digest_98 3 rfl (by rfl) (by decide) rfl ?_
      refine V_goto (tgt := 73) dX7_digest_101 (by decide) ?_
      refine V_sub [2, 1, 3, 0] rfl ?_
      exact ih _ _ _ _ _ h
def f_X7_digest_44 (K36 : Nat → Int64 → Int32 → zM → Option (Int64 × zM)) (n : Nat) (a0 : Nat) (j1 : Int64) (i3 : Int32) (i4 : Int32) (M : zM) : Option (Int64 × zM) := match n with
  | 0 => none
  | n + 1 =>
    if ((10 : Int32)) ≤ i4 then
    f_X7_digest_73 K36 zN a0 j1 i3 ((0 : Int32)) M
    else
    if mK M a0 = 13 then
    (f_X7_ofPlayerNow a0 i3 i4 M).bind fun r1 =>
    (f_X7_add j1 ((r1.1.toInt64)) r1.2).bind fun r3 =>
    f_X7_digest_44 K36 n a0 r3.1 i3 ((i4 + (1 : Int32))) r3.2
    else none
set_option maxRecDepth 20000 in
set_option maxHeartbeats 4000000 in
theorem s_X7_digest_44 {L : zL} {X : zX} {M0 : zM} {N : Nat × Nat} {Q : State → Prop} {r : Int64 × zM} {K36 : Nat → Int64 → Int32 → zM → Option (Int64 × zM)} (hK36 : ∀ (a0 : Nat) (j1 : Int64) (i3 : Int32) (M : zM), K36 a0 j1 i3 M = some r → V L X yX7_digest cX7_digest 6 (some FieldType.long) 134 M0 N Q M 36 [(0, .ref (zad L (a0))), (1, .long (j1)), (3, .int (i3))] []) (hq : vQ L X M0 N Q (some (.long r.1)) r.2) {n : Nat} {a0 : Nat} {j1 : Int64} {i3 : Int32} {i4 : Int32} {M : zM} : f_X7_digest_44 K36 n a0 j1 i3 i4 M = some r → V L X yX7_digest cX7_digest 6 (some FieldType.long) 134 M0 N Q M 44 [(0, .ref (zad L (a0))), (1, .long (j1)), (3, .int (i3)), (4, .int (i4))] [] := by
  induction n generalizing a0 j1 i3 i4 M with
  | zero =>
    intro h
    rw [f_X7_digest_44] at h
    cases h
  | succ n ih0 =>
    intro h
    have ih : ∀ (a0 : Nat) (j1 : Int64) (i3 : Int32) (i4 : Int32) (M : zM), f_X7_digest_44 K36 n a0 j1 i3 i4 M = some r → V L X yX7_digest cX7_digest 6 (some FieldType.long) 134 M0 N Q M 44 [(0, .ref (zad L (a0))), (1, .long (j1)), (3, .int (i3)), (4, .int (i4))] [] := fun a0 j1 i3 i4 M h => ih0 h
    rw [f_X7_digest_44] at h
    refine V_iload dX7_digest_44 3 rfl ?_
    refine V_bipush (v := 10) dX7_digest_46 (by decide) ?_
    refine V_icmp_ge (tgt := 70) dX7_digest_48 (by decide) (fun c4 => ?_) (fun c4 => ?_)
    · replace h := (oi h).1 c4
      refine V_iconst (v := 0) dX7_digest_70 (by decide) ?_
      refine V_istore (ls' := [(4, .int ((0 : Int32))), (0, .ref (zad L (a0))), (1, .long (j1)), (3, .int (i3))]) dX7_digest_71 (by decide) rfl ?_
      refine V_sub [1, 2, 3, 0] rfl ?_
      exact s_X7_digest_73 hK36 hq h
    · replace h := (oi h).2 c4
      refine V_lload_n dX7_digest_51 rfl 1 rfl ?_
      refine V_aload_n dX7_digest_52 rfl 0 rfl ?_
      refine V_iload_n dX7_digest_53 rfl 2 rfl ?_
      refine V_iload dX7_digest_54 3 rfl ?_
      replace h := ox h
      obtain ⟨c2, h⟩ := h
      replace h := ob h
      obtain ⟨r1, e_r1, h⟩ := h
      refine V_callV_I (As := [.int (i3), .int (i4)]) (rest := [.long (j1)]) (c_X7_ofPlayerNow e_r1) zc_X7_ofPlayerNow rfl (by decide) rfl (by decide) (Or.inl c2) zm_X7_274 (Nat.le_of_ble_eq_true rfl) rfl dX7_digest_56 ?_
      refine V_pc (pc' := 59) rfl ?_
      refine V_i2l dX7_digest_59 ?_
      replace h := ob h
      obtain ⟨r3, e_r3, h⟩ := h
      refine V_callS_J (As := [.long (j1), .long ((r1.1.toInt64))]) (rest := []) (c_X7_add e_r3) zc_X7_add rfl (by decide) zm_X7_340 (Nat.le_of_ble_eq_true rfl) rfl dX7_digest_60 ?_
      refine V_pc (pc' := 63) rfl ?_
      refine V_lstore_n (ls' := [(1, .long (r3.1)), (0, .ref (zad L (a0))), (3, .int (i3)), (4, .int (i4))]) dX7_digest_63 rfl (by decide) rfl ?_
      refine V_iinc (v := i4 + (1 : Int32)) (ls' := [(4, .int ((i4 + (1 : Int32)))), (1, .long (r3.1)), (0, .ref (zad L (a0))), (3, .int (i3))]) dX7_digest_64 3 rfl (by rfl) (by decide) rfl ?_
      refine V_goto (tgt := 44) dX7_digest_67 (by decide) ?_
      refine V_sub [2, 1, 3, 0] rfl ?_
      exact ih _ _ _ _ _ h
def f_X7_digest_36 (n : Nat) (a0 : Nat) (j1 : Int64) (i3 : Int32) (M : zM) : Option (Int64 × zM) := match n with
  | 0 => none
  | n + 1 =>
    if ((4 : Int32)) ≤ i3 then
    if mK M a0 = 13 then
    (f_X7_bestNow a0 M).bind fun r1 =>
    (f_X7_add j1 ((r1.1.toInt64)) r1.2).bind fun r3 =>
    some (r3.1, r3.2)
    else none
    else
    f_X7_digest_44 (f_X7_digest_36 n) zN a0 j1 i3 ((0 : Int32)) M
set_option maxRecDepth 20000 in
set_option maxHeartbeats 4000000 in
theorem s_X7_digest_36 {L : zL} {X : zX} {M0 : zM} {N : Nat × Nat} {Q : State → Prop} {r : Int64 × zM} (hq : vQ L X M0 N Q (some (.long r.1)) r.2) {n : Nat} {a0 : Nat} {j1 : Int64} {i3 : Int32} {M : zM} : f_X7_digest_36 n a0 j1 i3 M = some r → V L X yX7_digest cX7_digest 6 (some FieldType.long) 134 M0 N Q M 36 [(0, .ref (zad L (a0))), (1, .long (j1)), (3, .int (i3))] [] := by
  induction n generalizing a0 j1 i3 M with
  | zero =>
    intro h
    rw [f_X7_digest_36] at h
    cases h
  | succ n ih0 =>
    intro h
    have ih : ∀ (a0 : Nat) (j1 : Int64) (i3 : Int32) (M : zM), f_X7_digest_36 n a0 j1 i3 M = some r → V L X yX7_digest cX7_digest 6 (some FieldType.long) 134 M0 N Q M 36 [(0, .ref (zad L (a0))), (1, .long (j1)), (3, .int (i3))] [] := fun a0 j1 i3 M h => ih0 h
    rw [f_X7_digest_36] at h
    refine V_iload_n dX7_digest_36 rfl 2 rfl ?_
    refine V_iconst (v := 4) dX7_digest_37 (by decide) ?_
    refine V_icmp_ge (tgt := 237) dX7_digest_38 (by decide) (fun c4 => ?_) (fun c4 => ?_)
    · replace h := (oi h).1 c4
      refine V_lload_n dX7_digest_237 rfl 1 rfl ?_
      refine V_aload_n dX7_digest_238 rfl 0 rfl ?_
      replace h := ox h
      obtain ⟨c2, h⟩ := h
      replace h := ob h
      obtain ⟨r1, e_r1, h⟩ := h
      refine V_callV_I (As := []) (rest := [.long (j1)]) (c_X7_bestNow e_r1) zc_X7_bestNow rfl (by decide) rfl (by decide) (Or.inl c2) zm_X7_327 (Nat.le_of_ble_eq_true rfl) rfl dX7_digest_239 ?_
      refine V_pc (pc' := 242) rfl ?_
      refine V_i2l dX7_digest_242 ?_
      replace h := ob h
      obtain ⟨r3, e_r3, h⟩ := h
      refine V_callS_J (As := [.long (j1), .long ((r1.1.toInt64))]) (rest := []) (c_X7_add e_r3) zc_X7_add rfl (by decide) zm_X7_340 (Nat.le_of_ble_eq_true rfl) rfl dX7_digest_243 ?_
      refine V_pc (pc' := 246) rfl ?_
      cases h
      exact V_lret rfl hq dX7_digest_246
    · replace h := (oi h).2 c4
      refine V_iconst (v := 0) dX7_digest_41 (by decide) ?_
      refine V_istore (ls' := [(4, .int ((0 : Int32))), (0, .ref (zad L (a0))), (1, .long (j1)), (3, .int (i3))]) dX7_digest_42 (by decide) rfl ?_
      refine V_sub [1, 2, 3, 0] rfl ?_
      exact s_X7_digest_44 ih hq h
def f_X7_digest_11 (n : Nat) (a0 : Nat) (j1 : Int64) (i3 : Int32) (M : zM) : Option (Int64 × zM) := match n with
  | 0 => none
  | n + 1 =>
    if ((10 : Int32)) ≤ i3 then
    f_X7_digest_36 zN a0 j1 ((0 : Int32)) M
    else
    if mK M a0 = 13 then
    (f_X7_manyNow a0 i3 M).bind fun r1 =>
    (f_X7_add j1 ((r1.1.toInt64)) r1.2).bind fun r3 =>
    f_X7_digest_11 n a0 r3.1 ((i3 + (1 : Int32))) r3.2
    else none
set_option maxRecDepth 20000 in
set_option maxHeartbeats 4000000 in
theorem s_X7_digest_11 {L : zL} {X : zX} {M0 : zM} {N : Nat × Nat} {Q : State → Prop} {r : Int64 × zM} (hq : vQ L X M0 N Q (some (.long r.1)) r.2) {n : Nat} {a0 : Nat} {j1 : Int64} {i3 : Int32} {M : zM} : f_X7_digest_11 n a0 j1 i3 M = some r → V L X yX7_digest cX7_digest 6 (some FieldType.long) 134 M0 N Q M 11 [(0, .ref (zad L (a0))), (1, .long (j1)), (3, .int (i3))] [] := by
  induction n generalizing a0 j1 i3 M with
  | zero =>
    intro h
    rw [f_X7_digest_11] at h
    cases h
  | succ n ih0 =>
    intro h
    have ih : ∀ (a0 : Nat) (j1 : Int64) (i3 : Int32) (M : zM), f_X7_digest_11 n a0 j1 i3 M = some r → V L X yX7_digest cX7_digest 6 (some FieldType.long) 134 M0 N Q M 11 [(0, .ref (zad L (a0))), (1, .long (j1)), (3, .int (i3))] [] := fun a0 j1 i3 M h => ih0 h
    rw [f_X7_digest_11] at h
    refine V_iload_n dX7_digest_11 rfl 2 rfl ?_
    refine V_bipush (v := 10) dX7_digest_12 (by decide) ?_
    refine V_icmp_ge (tgt := 34) dX7_digest_14 (by decide) (fun c4 => ?_) (fun c4 => ?_)
    · replace h := (oi h).1 c4
      refine V_iconst (v := 0) dX7_digest_34 (by decide) ?_
      refine V_istore_n (ls' := [(3, .int ((0 : Int32))), (0, .ref (zad L (a0))), (1, .long (j1))]) dX7_digest_35 rfl (by decide) rfl ?_
      refine V_sub [1, 2, 0] rfl ?_
      exact s_X7_digest_36 hq h
    · replace h := (oi h).2 c4
      refine V_lload_n dX7_digest_17 rfl 1 rfl ?_
      refine V_aload_n dX7_digest_18 rfl 0 rfl ?_
      refine V_iload_n dX7_digest_19 rfl 2 rfl ?_
      replace h := ox h
      obtain ⟨c2, h⟩ := h
      replace h := ob h
      obtain ⟨r1, e_r1, h⟩ := h
      refine V_callV_I (As := [.int (i3)]) (rest := [.long (j1)]) (c_X7_manyNow e_r1) zc_X7_manyNow rfl (by decide) rfl (by decide) (Or.inl c2) zm_X7_315 (Nat.le_of_ble_eq_true rfl) rfl dX7_digest_20 ?_
      refine V_pc (pc' := 23) rfl ?_
      refine V_i2l dX7_digest_23 ?_
      replace h := ob h
      obtain ⟨r3, e_r3, h⟩ := h
      refine V_callS_J (As := [.long (j1), .long ((r1.1.toInt64))]) (rest := []) (c_X7_add e_r3) zc_X7_add rfl (by decide) zm_X7_340 (Nat.le_of_ble_eq_true rfl) rfl dX7_digest_24 ?_
      refine V_pc (pc' := 27) rfl ?_
      refine V_lstore_n (ls' := [(1, .long (r3.1)), (0, .ref (zad L (a0))), (3, .int (i3))]) dX7_digest_27 rfl (by decide) rfl ?_
      refine V_iinc (v := i3 + (1 : Int32)) (ls' := [(3, .int ((i3 + (1 : Int32)))), (1, .long (r3.1)), (0, .ref (zad L (a0)))]) dX7_digest_28 2 rfl (by rfl) (by decide) rfl ?_
      refine V_goto (tgt := 11) dX7_digest_31 (by decide) ?_
      refine V_sub [2, 1, 0] rfl ?_
      exact ih _ _ _ _ h
def f_X7_digest_0 (a0 : Nat) (M : zM) : Option (Int64 × zM) :=
  (pI 13 0 M a0 ((0 : Int32))).bind fun M1 =>
  f_X7_digest_11 zN a0 ((58317 : Int64)) ((0 : Int32)) M1
set_option maxRecDepth 20000 in
set_option maxHeartbeats 4000000 in
theorem s_X7_digest_0 {L : zL} {X : zX} {M0 : zM} {N : Nat × Nat} {Q : State → Prop} {r : Int64 × zM} (hq : vQ L X M0 N Q (some (.long r.1)) r.2) {a0 : Nat} {M : zM} (h : f_X7_digest_0 a0 M = some r) : V L X yX7_digest cX7_digest 6 (some FieldType.long) 134 M0 N Q M 0 [(0, .ref (zad L (a0)))] [] := by
  unfold f_X7_digest_0 at h
  refine V_aload_n dX7_digest_0 rfl 0 rfl ?_
  refine V_iconst (v := 0) dX7_digest_1 (by decide) ?_
  replace h := ob h
  obtain ⟨M1, e_M1, h⟩ := h
  refine V_putI zf_13_0 zl_X7_65 (Or.inl rfl) rfl e_M1 dX7_digest_2 ?_
  refine V_pc (pc' := 5) rfl ?_
  refine V_ldc2 zcn_X7_338 dX7_digest_5 ?_
  refine V_lstore_n (ls' := [(1, .long ((58317 : Int64))), (0, .ref (zad L (a0)))]) dX7_digest_8 rfl (by decide) rfl ?_
  refine V_iconst (v := 0) dX7_digest_9 (by decide) ?_
  refine V_istore_n (ls' := [(3, .int ((0 : Int32))), (1, .long ((58317 : Int64))), (0, .ref (zad L (a0)))]) dX7_digest_10 rfl (by decide) rfl ?_
  refine V_sub [2, 1, 0] rfl ?_
  exact s_X7_digest_11 hq h
def f_X7_digest (a0 : Nat) (M : zM) : Option (Int64 × zM) := f_X7_digest_0 a0 M
theorem c_X7_digest {L : zL} {l : Launch} {a0 : Nat} {M : zM} {r : Int64 × zM} (h : f_X7_digest a0 M = some r) : CP L l yX7_digest cX7_digest 6 (some FieldType.long) 134 M [.ref (zad L (a0))] (some (.long r.1)) r.2 :=
  CP.of ⟨by decide +kernel, by decide +kernel⟩ (Nat.le_of_ble_eq_true rfl) fun X Q hq => s_X7_digest_0 hq h
/-! WindsparlourLaw$Out.<init>()V -/
theorem dX4_init_0 : decode cX4_init 0 = .ok (.aload_n 0, 1) := by decide +kernel
theorem dX4_init_1 : decode cX4_init 1 = .ok (.invokespecial 1, 3) := by decide +kernel
theorem dX4_init_4 : decode cX4_init 4 = .ok (.return_, 1) := by decide +kernel
def f_X4_init_0 (a0 : Nat) (M : zM) : Option (Unit × zM) :=
  some ((), M)
set_option maxRecDepth 20000 in
set_option maxHeartbeats 4000000 in
theorem s_X4_init_0 {L : zL} {X : zX} {M0 : zM} {N : Nat × Nat} {Q : State → Prop} {r : Unit × zM} (hq : vQ L X M0 N Q none r.2) {a0 : Nat} {M : zM} (h : f_X4_init_0 a0 M = some r) : V L X yX4_init cX4_init 1 (none : Option FieldType) 1 M0 N Q M 0 [(0, .ref (zad L (a0)))] [] := by
  unfold f_X4_init_0 at h
  refine V_aload_n dX4_init_0 rfl 0 rfl ?_
  refine V_objInit zo_X4_1 (by decide) (Nat.le_of_ble_eq_true rfl) dX4_init_1 ?_
  cases h
  exact V_vret rfl hq dX4_init_4
def f_X4_init (a0 : Nat) (M : zM) : Option (Unit × zM) := f_X4_init_0 a0 M
theorem c_X4_init {L : zL} {l : Launch} {a0 : Nat} {M : zM} {r : Unit × zM} (h : f_X4_init a0 M = some r) : CP L l yX4_init cX4_init 1 (none : Option FieldType) 1 M [.ref (zad L (a0))] none r.2 :=
  CP.of ⟨by decide +kernel, by decide +kernel⟩ (Nat.le_of_ble_eq_true rfl) fun X Q hq => s_X4_init_0 hq h
