/-! ===== METHODS, by program ===== -/
/-! WindsparlourModel.hand(I)Ljava/lang/String; -/
theorem dX7_hand_0 : decode cX7_hand 0 = .ok (.aload_n 0, 1) := by decide +kernel
theorem dX7_hand_1 : decode cX7_hand 1 = .ok (.iload_n 1, 1) := by decide +kernel
theorem dX7_hand_2 : decode cX7_hand 2 = .ok (.invokestatic 174, 3) := by decide +kernel
theorem dX7_hand_5 : decode cX7_hand 5 = .ok (.iconst 1, 1) := by decide +kernel
theorem dX7_hand_6 : decode cX7_hand 6 = .ok (.invokevirtual 85, 3) := by decide +kernel
theorem dX7_hand_9 : decode cX7_hand 9 = .ok (.ifCond .eq 7, 3) := by decide +kernel
theorem dX7_hand_12 : decode cX7_hand 12 = .ok (.ldc_w 290, 3) := by decide +kernel
theorem dX7_hand_15 : decode cX7_hand 15 = .ok (.areturn, 1) := by decide +kernel
theorem dX7_hand_16 : decode cX7_hand 16 = .ok (.new 292, 3) := by decide +kernel
theorem dX7_hand_19 : decode cX7_hand 19 = .ok (.dup, 1) := by decide +kernel
theorem dX7_hand_20 : decode cX7_hand 20 = .ok (.invokespecial 294, 3) := by decide +kernel
theorem dX7_hand_23 : decode cX7_hand 23 = .ok (.astore_n 2, 1) := by decide +kernel
theorem dX7_hand_24 : decode cX7_hand 24 = .ok (.aload_n 0, 1) := by decide +kernel
theorem dX7_hand_25 : decode cX7_hand 25 = .ok (.getfield 38, 3) := by decide +kernel
theorem dX7_hand_28 : decode cX7_hand 28 = .ok (.iload_n 1, 1) := by decide +kernel
theorem dX7_hand_29 : decode cX7_hand 29 = .ok (.aaload, 1) := by decide +kernel
theorem dX7_hand_30 : decode cX7_hand 30 = .ok (.getfield 94, 3) := by decide +kernel
theorem dX7_hand_33 : decode cX7_hand 33 = .ok (.astore_n 3, 1) := by decide +kernel
theorem dX7_hand_34 : decode cX7_hand 34 = .ok (.iconst 0, 1) := by decide +kernel
theorem dX7_hand_35 : decode cX7_hand 35 = .ok (.istore 4, 2) := by decide +kernel
theorem dX7_hand_37 : decode cX7_hand 37 = .ok (.iload 4, 2) := by decide +kernel
theorem dX7_hand_39 : decode cX7_hand 39 = .ok (.bipush 25, 2) := by decide +kernel
theorem dX7_hand_41 : decode cX7_hand 41 = .ok (.if_icmp .ge 119, 3) := by decide +kernel
theorem dX7_hand_44 : decode cX7_hand 44 = .ok (.iconst 0, 1) := by decide +kernel
theorem dX7_hand_45 : decode cX7_hand 45 = .ok (.istore 5, 2) := by decide +kernel
theorem dX7_hand_47 : decode cX7_hand 47 = .ok (.iload 5, 2) := by decide +kernel
theorem dX7_hand_49 : decode cX7_hand 49 = .ok (.aload_n 3, 1) := by decide +kernel
theorem dX7_hand_50 : decode cX7_hand 50 = .ok (.iload 4, 2) := by decide +kernel
theorem dX7_hand_52 : decode cX7_hand 52 = .ok (.iaload, 1) := by decide +kernel
theorem dX7_hand_53 : decode cX7_hand 53 = .ok (.if_icmp .ge 44, 3) := by decide +kernel
theorem dX7_hand_56 : decode cX7_hand 56 = .ok (.aload_n 2, 1) := by decide +kernel
theorem dX7_hand_57 : decode cX7_hand 57 = .ok (.iload 4, 2) := by decide +kernel
theorem dX7_hand_59 : decode cX7_hand 59 = .ok (.bipush 18, 2) := by decide +kernel
theorem dX7_hand_61 : decode cX7_hand 61 = .ok (.if_icmp .ge 15, 3) := by decide +kernel
theorem dX7_hand_64 : decode cX7_hand 64 = .ok (.bipush 49, 2) := by decide +kernel
theorem dX7_hand_66 : decode cX7_hand 66 = .ok (.iload 4, 2) := by decide +kernel
theorem dX7_hand_68 : decode cX7_hand 68 = .ok (.bipush 9, 2) := by decide +kernel
theorem dX7_hand_70 : decode cX7_hand 70 = .ok (.irem, 1) := by decide +kernel
theorem dX7_hand_71 : decode cX7_hand 71 = .ok (.iadd, 1) := by decide +kernel
theorem dX7_hand_72 : decode cX7_hand 72 = .ok (.i2c, 1) := by decide +kernel
theorem dX7_hand_73 : decode cX7_hand 73 = .ok (.goto 14, 3) := by decide +kernel
theorem dX7_hand_76 : decode cX7_hand 76 = .ok (.ldc_w 295, 3) := by decide +kernel
theorem dX7_hand_79 : decode cX7_hand 79 = .ok (.iload 4, 2) := by decide +kernel
theorem dX7_hand_81 : decode cX7_hand 81 = .ok (.bipush 18, 2) := by decide +kernel
theorem dX7_hand_83 : decode cX7_hand 83 = .ok (.isub, 1) := by decide +kernel
theorem dX7_hand_84 : decode cX7_hand 84 = .ok (.invokevirtual 297, 3) := by decide +kernel
theorem dX7_hand_87 : decode cX7_hand 87 = .ok (.invokevirtual 303, 3) := by decide +kernel
theorem dX7_hand_90 : decode cX7_hand 90 = .ok (.pop, 1) := by decide +kernel
theorem dX7_hand_91 : decode cX7_hand 91 = .ok (.iinc 5 1, 3) := by decide +kernel
theorem dX7_hand_94 : decode cX7_hand 94 = .ok (.goto (-47), 3) := by decide +kernel
theorem dX7_hand_97 : decode cX7_hand 97 = .ok (.iload 4, 2) := by decide +kernel
theorem dX7_hand_99 : decode cX7_hand 99 = .ok (.bipush 8, 2) := by decide +kernel
theorem dX7_hand_101 : decode cX7_hand 101 = .ok (.if_icmp .ne 17, 3) := by decide +kernel
theorem dX7_hand_104 : decode cX7_hand 104 = .ok (.aload_n 2, 1) := by decide +kernel
theorem dX7_hand_105 : decode cX7_hand 105 = .ok (.invokevirtual 307, 3) := by decide +kernel
theorem dX7_hand_108 : decode cX7_hand 108 = .ok (.ifCond .le 10, 3) := by decide +kernel
theorem dX7_hand_111 : decode cX7_hand 111 = .ok (.aload_n 2, 1) := by decide +kernel
theorem dX7_hand_112 : decode cX7_hand 112 = .ok (.bipush 100, 2) := by decide +kernel
theorem dX7_hand_114 : decode cX7_hand 114 = .ok (.invokevirtual 303, 3) := by decide +kernel
theorem dX7_hand_117 : decode cX7_hand 117 = .ok (.pop, 1) := by decide +kernel
theorem dX7_hand_118 : decode cX7_hand 118 = .ok (.iload 4, 2) := by decide +kernel
theorem dX7_hand_120 : decode cX7_hand 120 = .ok (.bipush 17, 2) := by decide +kernel
theorem dX7_hand_122 : decode cX7_hand 122 = .ok (.if_icmp .ne 32, 3) := by decide +kernel
theorem dX7_hand_125 : decode cX7_hand 125 = .ok (.aload_n 2, 1) := by decide +kernel
theorem dX7_hand_126 : decode cX7_hand 126 = .ok (.invokevirtual 307, 3) := by decide +kernel
theorem dX7_hand_129 : decode cX7_hand 129 = .ok (.ifCond .le 25, 3) := by decide +kernel
theorem dX7_hand_132 : decode cX7_hand 132 = .ok (.aload_n 2, 1) := by decide +kernel
theorem dX7_hand_133 : decode cX7_hand 133 = .ok (.aload_n 2, 1) := by decide +kernel
theorem dX7_hand_134 : decode cX7_hand 134 = .ok (.invokevirtual 307, 3) := by decide +kernel
theorem dX7_hand_137 : decode cX7_hand 137 = .ok (.iconst 1, 1) := by decide +kernel
theorem dX7_hand_138 : decode cX7_hand 138 = .ok (.isub, 1) := by decide +kernel
theorem dX7_hand_139 : decode cX7_hand 139 = .ok (.invokevirtual 310, 3) := by decide +kernel
theorem dX7_hand_142 : decode cX7_hand 142 = .ok (.bipush 100, 2) := by decide +kernel
theorem dX7_hand_144 : decode cX7_hand 144 = .ok (.if_icmp .eq 10, 3) := by decide +kernel
theorem dX7_hand_147 : decode cX7_hand 147 = .ok (.aload_n 2, 1) := by decide +kernel
theorem dX7_hand_148 : decode cX7_hand 148 = .ok (.bipush 98, 2) := by decide +kernel
theorem dX7_hand_150 : decode cX7_hand 150 = .ok (.invokevirtual 303, 3) := by decide +kernel
theorem dX7_hand_153 : decode cX7_hand 153 = .ok (.pop, 1) := by decide +kernel
theorem dX7_hand_154 : decode cX7_hand 154 = .ok (.iinc 4 1, 3) := by decide +kernel
theorem dX7_hand_157 : decode cX7_hand 157 = .ok (.goto (-120), 3) := by decide +kernel
theorem dX7_hand_160 : decode cX7_hand 160 = .ok (.aload_n 2, 1) := by decide +kernel
theorem dX7_hand_161 : decode cX7_hand 161 = .ok (.invokevirtual 311, 3) := by decide +kernel
theorem dX7_hand_164 : decode cX7_hand 164 = .ok (.areturn, 1) := by decide +kernel
def f_X7_hand_118 (K37 : Nat → Nat → Int32 → zM → Option (Nat × zM)) (a2 : Nat) (a3 : Nat) (i4 : Int32) (M : zM) : Option (Nat × zM) :=
  if i4 = ((17 : Int32)) then
  if mK M a2 = 2 then
  (f_J4_length_8abf5 a2 M).bind fun r1 =>
  if r1.1 ≤ 0 then
  K37 a2 a3 ((i4 + (1 : Int32))) r1.2
  else
  if mK r1.2 a2 = 2 then
  (f_J4_length_8abf5 a2 r1.2).bind fun r3 =>
  if mK r3.2 a2 = 2 then
  (f_J4_charAt_5068e a2 ((r3.1 - ((1 : Int32)))) r3.2).bind fun r5 =>
  if r5.1 = ((100 : Int32)) then
  K37 a2 a3 ((i4 + (1 : Int32))) r5.2
  else
  if mK r5.2 a2 = 2 then
  (f_J4_append_cf468 a2 ((98 : Int32)) r5.2).bind fun r7 =>
  K37 a2 a3 ((i4 + (1 : Int32))) r7.2
  else none
  else none
  else none
  else none
  else
  K37 a2 a3 ((i4 + (1 : Int32))) M
set_option maxRecDepth 20000 in
set_option maxHeartbeats 4000000 in
theorem s_X7_hand_118 {L : zL} {X : zX} {M0 : zM} {N : Nat × Nat} {Q : State → Prop} {r : Nat × zM} {K37 : Nat → Nat → Int32 → zM → Option (Nat × zM)} (hK37 : ∀ (a2 : Nat) (a3 : Nat) (i4 : Int32) (M : zM), K37 a2 a3 i4 M = some r → V L X yX7_hand cX7_hand 6 (Option.some (FieldType.object "java/lang/String")) 13 M0 N Q M 37 [(2, .ref (zad L (a2))), (3, .ref (zad L (a3))), (4, .int (i4))] []) (hq : vQ L X M0 N Q (some (.ref (zad L r.1))) r.2) {a2 : Nat} {a3 : Nat} {i4 : Int32} {M : zM} (h : f_X7_hand_118 K37 a2 a3 i4 M = some r) : V L X yX7_hand cX7_hand 6 (Option.some (FieldType.object "java/lang/String")) 13 M0 N Q M 118 [(2, .ref (zad L (a2))), (3, .ref (zad L (a3))), (4, .int (i4))] [] := by
  unfold f_X7_hand_118 at h
  refine V_iload dX7_hand_118 2 rfl ?_
  refine V_bipush (v := 17) dX7_hand_120 (by decide) ?_
  refine V_icmp_ne (tgt := 154) dX7_hand_122 (by decide) (fun c11 => ?_) (fun c11 => ?_)
  · replace h := (oi h).2 c11
    refine V_iinc (v := i4 + (1 : Int32)) (ls' := [(4, .int ((i4 + (1 : Int32)))), (2, .ref (zad L (a2))), (3, .ref (zad L (a3)))]) dX7_hand_154 2 rfl (by rfl) (by decide) rfl ?_
    refine V_goto (tgt := 37) dX7_hand_157 (by decide) ?_
    refine V_sub [1, 2, 0] rfl ?_
    exact hK37 _ _ _ _ h
  · replace h := (oi h).1 c11
    refine V_aload_n dX7_hand_125 rfl 0 rfl ?_
    replace h := ox h
    obtain ⟨c2, h⟩ := h
    replace h := ob h
    obtain ⟨r1, e_r1, h⟩ := h
    refine V_callV_I (As := []) (rest := []) (c_J4_length_8abf5 e_r1) zc_J4_length_8abf5 rfl (by decide) rfl (by decide) (Or.inl c2) zm_X7_307 (Nat.le_of_ble_eq_true rfl) rfl dX7_hand_126 ?_
    refine V_pc (pc' := 129) rfl ?_
    refine V_if_le (tgt := 154) dX7_hand_129 (by decide) (fun c10 => ?_) (fun c10 => ?_)
    · replace h := (oi h).1 c10
      refine V_iinc (v := i4 + (1 : Int32)) (ls' := [(4, .int ((i4 + (1 : Int32)))), (2, .ref (zad L (a2))), (3, .ref (zad L (a3)))]) dX7_hand_154 2 rfl (by rfl) (by decide) rfl ?_
      refine V_goto (tgt := 37) dX7_hand_157 (by decide) ?_
      refine V_sub [1, 2, 0] rfl ?_
      exact hK37 _ _ _ _ h
    · replace h := (oi h).2 c10
      refine V_aload_n dX7_hand_132 rfl 0 rfl ?_
      refine V_aload_n dX7_hand_133 rfl 0 rfl ?_
      replace h := ox h
      obtain ⟨c4, h⟩ := h
      replace h := ob h
      obtain ⟨r3, e_r3, h⟩ := h
      refine V_callV_I (As := []) (rest := [.ref (zad L (a2))]) (c_J4_length_8abf5 e_r3) zc_J4_length_8abf5 rfl (by decide) rfl (by decide) (Or.inl c4) zm_X7_307 (Nat.le_of_ble_eq_true rfl) rfl dX7_hand_134 ?_
      refine V_pc (pc' := 137) rfl ?_
      refine V_iconst (v := 1) dX7_hand_137 (by decide) ?_
      refine V_isub dX7_hand_138 ?_
      replace h := ox h
      obtain ⟨c6, h⟩ := h
      replace h := ob h
      obtain ⟨r5, e_r5, h⟩ := h
      refine V_callV_I (As := [.int ((r3.1 - ((1 : Int32))))]) (rest := []) (c_J4_charAt_5068e e_r5) zc_J4_charAt_5068e rfl (by decide) rfl (by decide) (Or.inl c6) zm_X7_310 (Nat.le_of_ble_eq_true rfl) rfl dX7_hand_139 ?_
      refine V_pc (pc' := 142) rfl ?_
      refine V_bipush (v := 100) dX7_hand_142 (by decide) ?_
      refine V_icmp_eq (tgt := 154) dX7_hand_144 (by decide) (fun c9 => ?_) (fun c9 => ?_)
      · replace h := (oi h).1 c9
        refine V_iinc (v := i4 + (1 : Int32)) (ls' := [(4, .int ((i4 + (1 : Int32)))), (2, .ref (zad L (a2))), (3, .ref (zad L (a3)))]) dX7_hand_154 2 rfl (by rfl) (by decide) rfl ?_
        refine V_goto (tgt := 37) dX7_hand_157 (by decide) ?_
        refine V_sub [1, 2, 0] rfl ?_
        exact hK37 _ _ _ _ h
      · replace h := (oi h).2 c9
        refine V_aload_n dX7_hand_147 rfl 0 rfl ?_
        refine V_bipush (v := 98) dX7_hand_148 (by decide) ?_
        replace h := ox h
        obtain ⟨c8, h⟩ := h
        replace h := ob h
        obtain ⟨r7, e_r7, h⟩ := h
        refine V_callV_A (As := [.int ((98 : Int32))]) (rest := []) (c_J4_append_cf468 e_r7) zc_J4_append_cf468 rfl (by decide) rfl (by decide) (Or.inl c8) zm_X7_303 (Nat.le_of_ble_eq_true rfl) rfl dX7_hand_150 ?_
        refine V_pc (pc' := 153) rfl ?_
        refine V_pop dX7_hand_153 rfl ?_
        refine V_iinc (v := i4 + (1 : Int32)) (ls' := [(4, .int ((i4 + (1 : Int32)))), (2, .ref (zad L (a2))), (3, .ref (zad L (a3)))]) dX7_hand_154 2 rfl (by rfl) (by decide) rfl ?_
        refine V_goto (tgt := 37) dX7_hand_157 (by decide) ?_
        refine V_sub [1, 2, 0] rfl ?_
        exact hK37 _ _ _ _ h
def f_X7_hand_87 (K37 : Nat → Nat → Int32 → zM → Option (Nat × zM)) (K47 : Nat → Nat → Int32 → Int32 → zM → Option (Nat × zM)) (a2 : Nat) (a3 : Nat) (i4 : Int32) (i5 : Int32) (i_0 : Int32) (a_1 : Nat) (M : zM) : Option (Nat × zM) :=
  if mK M a_1 = 2 then
  (f_J4_append_cf468 a_1 i_0 M).bind fun r1 =>
  K47 a2 a3 i4 ((i5 + (1 : Int32))) r1.2
  else none
set_option maxRecDepth 20000 in
set_option maxHeartbeats 4000000 in
theorem s_X7_hand_87 {L : zL} {X : zX} {M0 : zM} {N : Nat × Nat} {Q : State → Prop} {r : Nat × zM} {K37 : Nat → Nat → Int32 → zM → Option (Nat × zM)} (hK37 : ∀ (a2 : Nat) (a3 : Nat) (i4 : Int32) (M : zM), K37 a2 a3 i4 M = some r → V L X yX7_hand cX7_hand 6 (Option.some (FieldType.object "java/lang/String")) 13 M0 N Q M 37 [(2, .ref (zad L (a2))), (3, .ref (zad L (a3))), (4, .int (i4))] []) {K47 : Nat → Nat → Int32 → Int32 → zM → Option (Nat × zM)} (hK47 : ∀ (a2 : Nat) (a3 : Nat) (i4 : Int32) (i5 : Int32) (M : zM), K47 a2 a3 i4 i5 M = some r → V L X yX7_hand cX7_hand 6 (Option.some (FieldType.object "java/lang/String")) 13 M0 N Q M 47 [(2, .ref (zad L (a2))), (3, .ref (zad L (a3))), (4, .int (i4)), (5, .int (i5))] []) (hq : vQ L X M0 N Q (some (.ref (zad L r.1))) r.2) {a2 : Nat} {a3 : Nat} {i4 : Int32} {i5 : Int32} {i_0 : Int32} {a_1 : Nat} {M : zM} (h : f_X7_hand_87 K37 K47 a2 a3 i4 i5 i_0 a_1 M = some r) : V L X yX7_hand cX7_hand 6 (Option.some (FieldType.object "java/lang/String")) 13 M0 N Q M 87 [(2, .ref (zad L (a2))), (3, .ref (zad L (a3))), (4, .int (i4)), (5, .int (i5))] [.int (i_0), .ref (zad L (a_1))] := by
  unfold f_X7_hand_87 at h
  replace h := ox h
  obtain ⟨c2, h⟩ := h
  replace h := ob h
  obtain ⟨r1, e_r1, h⟩ := h
  refine V_callV_A (As := [.int (i_0)]) (rest := []) (c_J4_append_cf468 e_r1) zc_J4_append_cf468 rfl (by decide) rfl (by decide) (Or.inl c2) zm_X7_303 (Nat.le_of_ble_eq_true rfl) rfl dX7_hand_87 ?_
  refine V_pc (pc' := 90) rfl ?_
  refine V_pop dX7_hand_90 rfl ?_
  refine V_iinc (v := i5 + (1 : Int32)) (ls' := [(5, .int ((i5 + (1 : Int32)))), (2, .ref (zad L (a2))), (3, .ref (zad L (a3))), (4, .int (i4))]) dX7_hand_91 3 rfl (by rfl) (by decide) rfl ?_
  refine V_goto (tgt := 47) dX7_hand_94 (by decide) ?_
  refine V_sub [1, 2, 3, 0] rfl ?_
  exact hK47 _ _ _ _ _ h
def f_X7_hand_47 (K37 : Nat → Nat → Int32 → zM → Option (Nat × zM)) (n : Nat) (a2 : Nat) (a3 : Nat) (i4 : Int32) (i5 : Int32) (M : zM) : Option (Nat × zM) := match n with
  | 0 => none
  | n + 1 =>
    (lA 0 M a3 i4).bind fun v1 =>
    if v1 ≤ i5 then
    if i4 = ((8 : Int32)) then
    if mK M a2 = 2 then
    (f_J4_length_8abf5 a2 M).bind fun r2 =>
    if r2.1 ≤ 0 then
    f_X7_hand_118 K37 a2 a3 i4 r2.2
    else
    if mK r2.2 a2 = 2 then
    (f_J4_append_cf468 a2 ((100 : Int32)) r2.2).bind fun r4 =>
    f_X7_hand_118 K37 a2 a3 i4 r4.2
    else none
    else none
    else
    f_X7_hand_118 K37 a2 a3 i4 M
    else
    if ((18 : Int32)) ≤ i4 then
    if mK M 21 = 1 ∨ mK M 21 = 301 then
    (f_J0_charAt_5068e 21 ((i4 - ((18 : Int32)))) M).bind fun r8 =>
    f_X7_hand_87 K37 (f_X7_hand_47 K37 n) a2 a3 i4 i5 r8.1 a2 r8.2
    else none
    else
    f_X7_hand_87 K37 (f_X7_hand_47 K37 n) a2 a3 i4 i5 (((((((49 : Int32)) + ((zmd i4 ((9 : Int32)))))).toUInt32 % 65536).toInt32)) a2 M
set_option maxRecDepth 20000 in
set_option maxHeartbeats 4000000 in
theorem s_X7_hand_47 {L : zL} {X : zX} {M0 : zM} {N : Nat × Nat} {Q : State → Prop} {r : Nat × zM} {K37 : Nat → Nat → Int32 → zM → Option (Nat × zM)} (hK37 : ∀ (a2 : Nat) (a3 : Nat) (i4 : Int32) (M : zM), K37 a2 a3 i4 M = some r → V L X yX7_hand cX7_hand 6 (Option.some (FieldType.object "java/lang/String")) 13 M0 N Q M 37 [(2, .ref (zad L (a2))), (3, .ref (zad L (a3))), (4, .int (i4))] []) (hq : vQ L X M0 N Q (some (.ref (zad L r.1))) r.2) {n : Nat} {a2 : Nat} {a3 : Nat} {i4 : Int32} {i5 : Int32} {M : zM} : f_X7_hand_47 K37 n a2 a3 i4 i5 M = some r → V L X yX7_hand cX7_hand 6 (Option.some (FieldType.object "java/lang/String")) 13 M0 N Q M 47 [(2, .ref (zad L (a2))), (3, .ref (zad L (a3))), (4, .int (i4)), (5, .int (i5))] [] := by
  induction n generalizing a2 a3 i4 i5 M with
  | zero =>
    intro h
    rw [f_X7_hand_47] at h
    cases h
  | succ n ih0 =>
    intro h
    have ih : ∀ (a2 : Nat) (a3 : Nat) (i4 : Int32) (i5 : Int32) (M : zM), f_X7_hand_47 K37 n a2 a3 i4 i5 M = some r → V L X yX7_hand cX7_hand 6 (Option.some (FieldType.object "java/lang/String")) 13 M0 N Q M 47 [(2, .ref (zad L (a2))), (3, .ref (zad L (a3))), (4, .int (i4)), (5, .int (i5))] [] := fun a2 a3 i4 i5 M h => ih0 h
    rw [f_X7_hand_47] at h
    refine V_iload dX7_hand_47 3 rfl ?_
    refine V_aload_n dX7_hand_49 rfl 1 rfl ?_
    refine V_iload dX7_hand_50 2 rfl ?_
    replace h := ob h
    obtain ⟨v1, e_v1, h⟩ := h
    refine V_iald e_v1 dX7_hand_52 ?_
    refine V_pc (pc' := 53) rfl ?_
    refine V_icmp_ge (tgt := 97) dX7_hand_53 (by decide) (fun c11 => ?_) (fun c11 => ?_)
    · replace h := (oi h).1 c11
      refine V_iload dX7_hand_97 2 rfl ?_
      refine V_bipush (v := 8) dX7_hand_99 (by decide) ?_
      refine V_icmp_ne (tgt := 118) dX7_hand_101 (by decide) (fun c7 => ?_) (fun c7 => ?_)
      · replace h := (oi h).2 c7
        refine V_sub [0, 1, 2] rfl ?_
        exact s_X7_hand_118 hK37 hq h
      · replace h := (oi h).1 c7
        refine V_aload_n dX7_hand_104 rfl 0 rfl ?_
        replace h := ox h
        obtain ⟨c3, h⟩ := h
        replace h := ob h
        obtain ⟨r2, e_r2, h⟩ := h
        refine V_callV_I (As := []) (rest := []) (c_J4_length_8abf5 e_r2) zc_J4_length_8abf5 rfl (by decide) rfl (by decide) (Or.inl c3) zm_X7_307 (Nat.le_of_ble_eq_true rfl) rfl dX7_hand_105 ?_
        refine V_pc (pc' := 108) rfl ?_
        refine V_if_le (tgt := 118) dX7_hand_108 (by decide) (fun c6 => ?_) (fun c6 => ?_)
        · replace h := (oi h).1 c6
          refine V_sub [0, 1, 2] rfl ?_
          exact s_X7_hand_118 hK37 hq h
        · replace h := (oi h).2 c6
          refine V_aload_n dX7_hand_111 rfl 0 rfl ?_
          refine V_bipush (v := 100) dX7_hand_112 (by decide) ?_
          replace h := ox h
          obtain ⟨c5, h⟩ := h
          replace h := ob h
          obtain ⟨r4, e_r4, h⟩ := h
          refine V_callV_A (As := [.int ((100 : Int32))]) (rest := []) (c_J4_append_cf468 e_r4) zc_J4_append_cf468 rfl (by decide) rfl (by decide) (Or.inl c5) zm_X7_303 (Nat.le_of_ble_eq_true rfl) rfl dX7_hand_114 ?_
          refine V_pc (pc' := 117) rfl ?_
          refine V_pop dX7_hand_117 rfl ?_
          refine V_sub [0, 1, 2] rfl ?_
          exact s_X7_hand_118 hK37 hq h
    · replace h := (oi h).2 c11
      refine V_aload_n dX7_hand_56 rfl 0 rfl ?_
      refine V_iload dX7_hand_57 2 rfl ?_
      refine V_bipush (v := 18) dX7_hand_59 (by decide) ?_
      refine V_icmp_ge (tgt := 76) dX7_hand_61 (by decide) (fun c10 => ?_) (fun c10 => ?_)
      · replace h := (oi h).1 c10
        refine V_ldcSw (zqs_21 L) dX7_hand_76 ?_
        refine V_iload dX7_hand_79 2 rfl ?_
        refine V_bipush (v := 18) dX7_hand_81 (by decide) ?_
        refine V_isub dX7_hand_83 ?_
        replace h := ox h
        obtain ⟨c9, h⟩ := h
        replace h := ob h
        obtain ⟨r8, e_r8, h⟩ := h
        refine V_callV_I (As := [.int ((i4 - ((18 : Int32))))]) (rest := [.ref (zad L (a2))]) (c_J0_charAt_5068e e_r8) zc_J0_charAt_5068e rfl (by decide) rfl (by decide) (c9) zm_X7_297 (Nat.le_of_ble_eq_true rfl) rfl dX7_hand_84 ?_
        refine V_pc (pc' := 87) rfl ?_
        exact s_X7_hand_87 hK37 ih hq h
      · replace h := (oi h).2 c10
        refine V_bipush (v := 49) dX7_hand_64 (by decide) ?_
        refine V_iload dX7_hand_66 2 rfl ?_
        refine V_bipush (v := 9) dX7_hand_68 (by decide) ?_
        refine V_irem dX7_hand_70 (by decide) ?_
        refine V_iadd dX7_hand_71 ?_
        refine V_i2c dX7_hand_72 ?_
        refine V_goto (tgt := 87) dX7_hand_73 (by decide) ?_
        exact s_X7_hand_87 hK37 ih hq h
def f_X7_hand_37 (n : Nat) (a2 : Nat) (a3 : Nat) (i4 : Int32) (M : zM) : Option (Nat × zM) := match n with
  | 0 => none
  | n + 1 =>
    if ((25 : Int32)) ≤ i4 then
    if mK M a2 = 2 then
    (f_J4_toString_0e30d a2 M).bind fun r1 =>
    some (r1.1, r1.2)
    else none
    else
    f_X7_hand_47 (f_X7_hand_37 n) zN a2 a3 i4 ((0 : Int32)) M
set_option maxRecDepth 20000 in
set_option maxHeartbeats 4000000 in
theorem s_X7_hand_37 {L : zL} {X : zX} {M0 : zM} {N : Nat × Nat} {Q : State → Prop} {r : Nat × zM} (hq : vQ L X M0 N Q (some (.ref (zad L r.1))) r.2) {n : Nat} {a2 : Nat} {a3 : Nat} {i4 : Int32} {M : zM} : f_X7_hand_37 n a2 a3 i4 M = some r → V L X yX7_hand cX7_hand 6 (Option.some (FieldType.object "java/lang/String")) 13 M0 N Q M 37 [(2, .ref (zad L (a2))), (3, .ref (zad L (a3))), (4, .int (i4))] [] := by
  induction n generalizing a2 a3 i4 M with
  | zero =>
    intro h
    rw [f_X7_hand_37] at h
    cases h
  | succ n ih0 =>
    intro h
    have ih : ∀ (a2 : Nat) (a3 : Nat) (i4 : Int32) (M : zM), f_X7_hand_37 n a2 a3 i4 M = some r → V L X yX7_hand cX7_hand 6 (Option.some (FieldType.object "java/lang/String")) 13 M0 N Q M 37 [(2, .ref (zad L (a2))), (3, .ref (zad L (a3))), (4, .int (i4))] [] := fun a2 a3 i4 M h => ih0 h
    rw [f_X7_hand_37] at h
    refine V_iload dX7_hand_37 2 rfl ?_
    refine V_bipush (v := 25) dX7_hand_39 (by decide) ?_
    refine V_icmp_ge (tgt := 160) dX7_hand_41 (by decide) (fun c3 => ?_) (fun c3 => ?_)
    · replace h := (oi h).1 c3
      refine V_aload_n dX7_hand_160 rfl 0 rfl ?_
      replace h := ox h
      obtain ⟨c2, h⟩ := h
      replace h := ob h
      obtain ⟨r1, e_r1, h⟩ := h
      refine V_callV_A (As := []) (rest := []) (c_J4_toString_0e30d e_r1) zc_J4_toString_0e30d rfl (by decide) rfl (by decide) (Or.inl c2) zm_X7_311 (Nat.le_of_ble_eq_true rfl) rfl dX7_hand_161 ?_
      refine V_pc (pc' := 164) rfl ?_
      obtain rfl := Option.some.inj h
      exact V_aret rfl (by first | exact Or.inl ⟨_, rfl⟩ | exact Or.inr ⟨_, rfl⟩) hq dX7_hand_164
    · replace h := (oi h).2 c3
      refine V_iconst (v := 0) dX7_hand_44 (by decide) ?_
      refine V_istore (ls' := [(5, .int ((0 : Int32))), (2, .ref (zad L (a2))), (3, .ref (zad L (a3))), (4, .int (i4))]) dX7_hand_45 (by decide) rfl ?_
      refine V_sub [1, 2, 3, 0] rfl ?_
      exact s_X7_hand_47 ih hq h
def f_X7_hand_0 (a0 : Nat) (i1 : Int32) (M : zM) : Option (Nat × zM) :=
  (f_X7_isNoPlayer i1 M).bind fun r1 =>
  if mK r1.2 a0 = 13 then
  (f_X7_start a0 r1.1 ((1 : Int32)) r1.2).bind fun r2 =>
  if r2.1 = 0 then
  (f_J4_init_da8c8 (mX r2.2) (nO r2.2 2 4)).bind fun r4 =>
  (gR 13 1 r4.2 a0).bind fun v5 =>
  (lQ 2 r4.2 v5 i1).bind fun v6 =>
  (gR 12 2 r4.2 v6).bind fun v7 =>
  f_X7_hand_37 zN (mX r2.2) v7 ((0 : Int32)) r4.2
  else
  some (22, r2.2)
  else none
set_option maxRecDepth 20000 in
set_option maxHeartbeats 4000000 in
theorem s_X7_hand_0 {L : zL} {X : zX} {M0 : zM} {N : Nat × Nat} {Q : State → Prop} {r : Nat × zM} (hq : vQ L X M0 N Q (some (.ref (zad L r.1))) r.2) {a0 : Nat} {i1 : Int32} {M : zM} (h : f_X7_hand_0 a0 i1 M = some r) : V L X yX7_hand cX7_hand 6 (Option.some (FieldType.object "java/lang/String")) 13 M0 N Q M 0 [(0, .ref (zad L (a0))), (1, .int (i1))] [] := by
  unfold f_X7_hand_0 at h
  refine V_aload_n dX7_hand_0 rfl 0 rfl ?_
  refine V_iload_n dX7_hand_1 rfl 1 rfl ?_
  replace h := ob h
  obtain ⟨r1, e_r1, h⟩ := h
  refine V_callS_I (As := [.int (i1)]) (rest := [.ref (zad L (a0))]) (c_X7_isNoPlayer e_r1) zc_X7_isNoPlayer rfl (by decide) zm_X7_174 (Nat.le_of_ble_eq_true rfl) rfl dX7_hand_2 ?_
  refine V_pc (pc' := 5) rfl ?_
  refine V_iconst (v := 1) dX7_hand_5 (by decide) ?_
  replace h := ox h
  obtain ⟨c3, h⟩ := h
  replace h := ob h
  obtain ⟨r2, e_r2, h⟩ := h
  refine V_callV_I (As := [.int (r1.1), .int ((1 : Int32))]) (rest := []) (c_X7_start e_r2) zc_X7_start rfl (by decide) rfl (by decide) (Or.inl c3) zm_X7_85 (Nat.le_of_ble_eq_true rfl) rfl dX7_hand_6 ?_
  refine V_pc (pc' := 9) rfl ?_
  refine V_if_eq (tgt := 16) dX7_hand_9 (by decide) (fun c8 => ?_) (fun c8 => ?_)
  · replace h := (oi h).1 c8
    refine V_new (by decide) rfl zin2 zty2 zdf2 zn_X7_292 dX7_hand_16 ?_
    refine V_dup dX7_hand_19 rfl ?_
    replace h := ob h
    obtain ⟨r4, e_r4, h⟩ := h
    refine V_callI_V (As := []) (rest := [.ref (zad L (mX r2.2))]) (c_J4_init_da8c8 e_r4) zc_J4_init_da8c8 rfl (by decide) zm_X7_294 rfl (Nat.le_of_ble_eq_true rfl) rfl dX7_hand_20 ?_
    refine V_pc (pc' := 23) rfl ?_
    refine V_astore_n (ls' := [(2, .ref (zad L (mX r2.2))), (0, .ref (zad L (a0))), (1, .int (i1))]) dX7_hand_23 rfl (by decide) rfl ?_
    refine V_aload_n dX7_hand_24 rfl 1 rfl ?_
    replace h := ob h
    obtain ⟨v5, e_v5, h⟩ := h
    refine V_getR zf_13_1 zl_X7_38 e_v5 dX7_hand_25 ?_
    refine V_pc (pc' := 28) rfl ?_
    refine V_iload_n dX7_hand_28 rfl 2 rfl ?_
    replace h := ob h
    obtain ⟨v6, e_v6, h⟩ := h
    refine V_aald (by decide) e_v6 dX7_hand_29 ?_
    refine V_pc (pc' := 30) rfl ?_
    replace h := ob h
    obtain ⟨v7, e_v7, h⟩ := h
    refine V_getR zf_12_2 zl_X7_94 e_v7 dX7_hand_30 ?_
    refine V_pc (pc' := 33) rfl ?_
    refine V_astore_n (ls' := [(3, .ref (zad L (v7))), (2, .ref (zad L (mX r2.2))), (0, .ref (zad L (a0))), (1, .int (i1))]) dX7_hand_33 rfl (by decide) rfl ?_
    refine V_iconst (v := 0) dX7_hand_34 (by decide) ?_
    refine V_istore (ls' := [(4, .int ((0 : Int32))), (3, .ref (zad L (v7))), (2, .ref (zad L (mX r2.2))), (0, .ref (zad L (a0))), (1, .int (i1))]) dX7_hand_35 (by decide) rfl ?_
    refine V_sub [2, 1, 0] rfl ?_
    exact s_X7_hand_37 hq h
  · replace h := (oi h).2 c8
    refine V_ldcSw (zqs_22 L) dX7_hand_12 ?_
    obtain rfl := Option.some.inj h
    exact V_aret rfl (by first | exact Or.inl ⟨_, rfl⟩ | exact Or.inr ⟨_, rfl⟩) hq dX7_hand_15
def f_X7_hand (a0 : Nat) (i1 : Int32) (M : zM) : Option (Nat × zM) := f_X7_hand_0 a0 i1 M
theorem c_X7_hand {L : zL} {l : Launch} {a0 : Nat} {i1 : Int32} {M : zM} {r : Nat × zM} (h : f_X7_hand a0 i1 M = some r) : CP L l yX7_hand cX7_hand 6 (Option.some (FieldType.object "java/lang/String")) 13 M [.ref (zad L (a0)), .int (i1)] (some (.ref (zad L r.1))) r.2 :=
  CP.of ⟨by decide +kernel, by decide +kernel⟩ (Nat.le_of_ble_eq_true rfl) fun X Q hq => s_X7_hand_0 hq h
/-! WindsparlourModel.manyNow(I)I -/
theorem dX7_manyNow_0 : decode cX7_manyNow 0 = .ok (.bipush 10, 2) := by decide +kernel
theorem dX7_manyNow_2 : decode cX7_manyNow 2 = .ok (.newarray .int, 2) := by decide +kernel
theorem dX7_manyNow_4 : decode cX7_manyNow 4 = .ok (.dup, 1) := by decide +kernel
theorem dX7_manyNow_5 : decode cX7_manyNow 5 = .ok (.iconst 0, 1) := by decide +kernel
theorem dX7_manyNow_6 : decode cX7_manyNow 6 = .ok (.aload_n 0, 1) := by decide +kernel
theorem dX7_manyNow_7 : decode cX7_manyNow 7 = .ok (.getfield 50, 3) := by decide +kernel
theorem dX7_manyNow_10 : decode cX7_manyNow 10 = .ok (.iastore, 1) := by decide +kernel
theorem dX7_manyNow_11 : decode cX7_manyNow 11 = .ok (.dup, 1) := by decide +kernel
theorem dX7_manyNow_12 : decode cX7_manyNow 12 = .ok (.iconst 1, 1) := by decide +kernel
theorem dX7_manyNow_13 : decode cX7_manyNow 13 = .ok (.aload_n 0, 1) := by decide +kernel
theorem dX7_manyNow_14 : decode cX7_manyNow 14 = .ok (.getfield 50, 3) := by decide +kernel
theorem dX7_manyNow_17 : decode cX7_manyNow 17 = .ok (.iconst 3, 1) := by decide +kernel
theorem dX7_manyNow_18 : decode cX7_manyNow 18 = .ok (.if_icmp .ne 7, 3) := by decide +kernel
theorem dX7_manyNow_21 : decode cX7_manyNow 21 = .ok (.iconst (-1), 1) := by decide +kernel
theorem dX7_manyNow_22 : decode cX7_manyNow 22 = .ok (.goto 7, 3) := by decide +kernel
theorem dX7_manyNow_25 : decode cX7_manyNow 25 = .ok (.aload_n 0, 1) := by decide +kernel
theorem dX7_manyNow_26 : decode cX7_manyNow 26 = .ok (.getfield 82, 3) := by decide +kernel
theorem dX7_manyNow_29 : decode cX7_manyNow 29 = .ok (.iastore, 1) := by decide +kernel
theorem dX7_manyNow_30 : decode cX7_manyNow 30 = .ok (.dup, 1) := by decide +kernel
theorem dX7_manyNow_31 : decode cX7_manyNow 31 = .ok (.iconst 2, 1) := by decide +kernel
theorem dX7_manyNow_32 : decode cX7_manyNow 32 = .ok (.aload_n 0, 1) := by decide +kernel
theorem dX7_manyNow_33 : decode cX7_manyNow 33 = .ok (.invokevirtual 78, 3) := by decide +kernel
theorem dX7_manyNow_36 : decode cX7_manyNow 36 = .ok (.iastore, 1) := by decide +kernel
theorem dX7_manyNow_37 : decode cX7_manyNow 37 = .ok (.dup, 1) := by decide +kernel
theorem dX7_manyNow_38 : decode cX7_manyNow 38 = .ok (.iconst 3, 1) := by decide +kernel
theorem dX7_manyNow_39 : decode cX7_manyNow 39 = .ok (.aload_n 0, 1) := by decide +kernel
theorem dX7_manyNow_40 : decode cX7_manyNow 40 = .ok (.getfield 46, 3) := by decide +kernel
theorem dX7_manyNow_43 : decode cX7_manyNow 43 = .ok (.iastore, 1) := by decide +kernel
theorem dX7_manyNow_44 : decode cX7_manyNow 44 = .ok (.dup, 1) := by decide +kernel
theorem dX7_manyNow_45 : decode cX7_manyNow 45 = .ok (.iconst 4, 1) := by decide +kernel
theorem dX7_manyNow_46 : decode cX7_manyNow 46 = .ok (.aload_n 0, 1) := by decide +kernel
theorem dX7_manyNow_47 : decode cX7_manyNow 47 = .ok (.getfield 50, 3) := by decide +kernel
theorem dX7_manyNow_50 : decode cX7_manyNow 50 = .ok (.iconst 2, 1) := by decide +kernel
theorem dX7_manyNow_51 : decode cX7_manyNow 51 = .ok (.if_icmp .ne 10, 3) := by decide +kernel
theorem dX7_manyNow_54 : decode cX7_manyNow 54 = .ok (.aload_n 0, 1) := by decide +kernel
theorem dX7_manyNow_55 : decode cX7_manyNow 55 = .ok (.getfield 62, 3) := by decide +kernel
theorem dX7_manyNow_58 : decode cX7_manyNow 58 = .ok (.goto 4, 3) := by decide +kernel
theorem dX7_manyNow_61 : decode cX7_manyNow 61 = .ok (.iconst (-1), 1) := by decide +kernel
theorem dX7_manyNow_62 : decode cX7_manyNow 62 = .ok (.iastore, 1) := by decide +kernel
theorem dX7_manyNow_63 : decode cX7_manyNow 63 = .ok (.dup, 1) := by decide +kernel
theorem dX7_manyNow_64 : decode cX7_manyNow 64 = .ok (.iconst 5, 1) := by decide +kernel
theorem dX7_manyNow_65 : decode cX7_manyNow 65 = .ok (.aload_n 0, 1) := by decide +kernel
theorem dX7_manyNow_66 : decode cX7_manyNow 66 = .ok (.getfield 101, 3) := by decide +kernel
theorem dX7_manyNow_69 : decode cX7_manyNow 69 = .ok (.iastore, 1) := by decide +kernel
theorem dX7_manyNow_70 : decode cX7_manyNow 70 = .ok (.dup, 1) := by decide +kernel
theorem dX7_manyNow_71 : decode cX7_manyNow 71 = .ok (.bipush 6, 2) := by decide +kernel
theorem dX7_manyNow_73 : decode cX7_manyNow 73 = .ok (.aload_n 0, 1) := by decide +kernel
theorem dX7_manyNow_74 : decode cX7_manyNow 74 = .ok (.getfield 164, 3) := by decide +kernel
theorem dX7_manyNow_77 : decode cX7_manyNow 77 = .ok (.iastore, 1) := by decide +kernel
theorem dX7_manyNow_78 : decode cX7_manyNow 78 = .ok (.dup, 1) := by decide +kernel
theorem dX7_manyNow_79 : decode cX7_manyNow 79 = .ok (.bipush 7, 2) := by decide +kernel
theorem dX7_manyNow_81 : decode cX7_manyNow 81 = .ok (.aload_n 0, 1) := by decide +kernel
theorem dX7_manyNow_82 : decode cX7_manyNow 82 = .ok (.getfield 88, 3) := by decide +kernel
theorem dX7_manyNow_85 : decode cX7_manyNow 85 = .ok (.iastore, 1) := by decide +kernel
theorem dX7_manyNow_86 : decode cX7_manyNow 86 = .ok (.dup, 1) := by decide +kernel
theorem dX7_manyNow_87 : decode cX7_manyNow 87 = .ok (.bipush 8, 2) := by decide +kernel
theorem dX7_manyNow_89 : decode cX7_manyNow 89 = .ok (.aload_n 0, 1) := by decide +kernel
theorem dX7_manyNow_90 : decode cX7_manyNow 90 = .ok (.getfield 53, 3) := by decide +kernel
theorem dX7_manyNow_93 : decode cX7_manyNow 93 = .ok (.iastore, 1) := by decide +kernel
theorem dX7_manyNow_94 : decode cX7_manyNow 94 = .ok (.dup, 1) := by decide +kernel
theorem dX7_manyNow_95 : decode cX7_manyNow 95 = .ok (.bipush 9, 2) := by decide +kernel
theorem dX7_manyNow_97 : decode cX7_manyNow 97 = .ok (.aload_n 0, 1) := by decide +kernel
theorem dX7_manyNow_98 : decode cX7_manyNow 98 = .ok (.getfield 56, 3) := by decide +kernel
theorem dX7_manyNow_101 : decode cX7_manyNow 101 = .ok (.iastore, 1) := by decide +kernel
theorem dX7_manyNow_102 : decode cX7_manyNow 102 = .ok (.astore_n 2, 1) := by decide +kernel
theorem dX7_manyNow_103 : decode cX7_manyNow 103 = .ok (.aload_n 2, 1) := by decide +kernel
theorem dX7_manyNow_104 : decode cX7_manyNow 104 = .ok (.iload_n 1, 1) := by decide +kernel
theorem dX7_manyNow_105 : decode cX7_manyNow 105 = .ok (.iaload, 1) := by decide +kernel
theorem dX7_manyNow_106 : decode cX7_manyNow 106 = .ok (.ireturn, 1) := by decide +kernel
def f_X7_manyNow_62 (a0 : Nat) (i1 : Int32) (i_0 : Int32) (i_1 : Int32) (a_2 : Nat) (a_3 : Nat) (M : zM) : Option (Int32 × zM) :=
  (tA M a_2 i_1 i_0).bind fun M1 =>
  (gI 13 10 M1 a0).bind fun v2 =>
  (tA M1 a_3 ((5 : Int32)) v2).bind fun M3 =>
  (gI 13 11 M3 a0).bind fun v4 =>
  (tA M3 a_3 ((6 : Int32)) v4).bind fun M5 =>
  (gI 13 9 M5 a0).bind fun v6 =>
  (tA M5 a_3 ((7 : Int32)) v6).bind fun M7 =>
  (gI 13 8 M7 a0).bind fun v8 =>
  (tA M7 a_3 ((8 : Int32)) v8).bind fun M9 =>
  (gI 13 12 M9 a0).bind fun v10 =>
  (tA M9 a_3 ((9 : Int32)) v10).bind fun M11 =>
  (lA 0 M11 a_3 i1).bind fun v12 =>
  some (v12, M11)
set_option maxRecDepth 20000 in
set_option maxHeartbeats 4000000 in
theorem s_X7_manyNow_62 {L : zL} {X : zX} {M0 : zM} {N : Nat × Nat} {Q : State → Prop} {r : Int32 × zM} (hq : vQ L X M0 N Q (some (.int r.1)) r.2) {a0 : Nat} {i1 : Int32} {i_0 : Int32} {i_1 : Int32} {a_2 : Nat} {a_3 : Nat} {M : zM} (h : f_X7_manyNow_62 a0 i1 i_0 i_1 a_2 a_3 M = some r) : V L X yX7_manyNow cX7_manyNow 3 (some FieldType.int) 2 M0 N Q M 62 [(0, .ref (zad L (a0))), (1, .int (i1))] [.int (i_0), .int (i_1), .ref (zad L (a_2)), .ref (zad L (a_3))] := by
  unfold f_X7_manyNow_62 at h
  replace h := ob h
  obtain ⟨M1, e_M1, h⟩ := h
  refine V_iast e_M1 dX7_manyNow_62 ?_
  refine V_dup dX7_manyNow_63 rfl ?_
  refine V_iconst (v := 5) dX7_manyNow_64 (by decide) ?_
  refine V_aload_n dX7_manyNow_65 rfl 0 rfl ?_
  replace h := ob h
  obtain ⟨v2, e_v2, h⟩ := h
  refine V_getI zf_13_10 zl_X7_101 e_v2 dX7_manyNow_66 ?_
  refine V_pc (pc' := 69) rfl ?_
  replace h := ob h
  obtain ⟨M3, e_M3, h⟩ := h
  refine V_iast e_M3 dX7_manyNow_69 ?_
  refine V_dup dX7_manyNow_70 rfl ?_
  refine V_bipush (v := 6) dX7_manyNow_71 (by decide) ?_
  refine V_aload_n dX7_manyNow_73 rfl 0 rfl ?_
  replace h := ob h
  obtain ⟨v4, e_v4, h⟩ := h
  refine V_getI zf_13_11 zl_X7_164 e_v4 dX7_manyNow_74 ?_
  refine V_pc (pc' := 77) rfl ?_
  replace h := ob h
  obtain ⟨M5, e_M5, h⟩ := h
  refine V_iast e_M5 dX7_manyNow_77 ?_
  refine V_dup dX7_manyNow_78 rfl ?_
  refine V_bipush (v := 7) dX7_manyNow_79 (by decide) ?_
  refine V_aload_n dX7_manyNow_81 rfl 0 rfl ?_
  replace h := ob h
  obtain ⟨v6, e_v6, h⟩ := h
  refine V_getI zf_13_9 zl_X7_88 e_v6 dX7_manyNow_82 ?_
  refine V_pc (pc' := 85) rfl ?_
  replace h := ob h
  obtain ⟨M7, e_M7, h⟩ := h
  refine V_iast e_M7 dX7_manyNow_85 ?_
  refine V_dup dX7_manyNow_86 rfl ?_
  refine V_bipush (v := 8) dX7_manyNow_87 (by decide) ?_
  refine V_aload_n dX7_manyNow_89 rfl 0 rfl ?_
  replace h := ob h
  obtain ⟨v8, e_v8, h⟩ := h
  refine V_getI zf_13_8 zl_X7_53 e_v8 dX7_manyNow_90 ?_
  refine V_pc (pc' := 93) rfl ?_
  replace h := ob h
  obtain ⟨M9, e_M9, h⟩ := h
  refine V_iast e_M9 dX7_manyNow_93 ?_
  refine V_dup dX7_manyNow_94 rfl ?_
  refine V_bipush (v := 9) dX7_manyNow_95 (by decide) ?_
  refine V_aload_n dX7_manyNow_97 rfl 0 rfl ?_
  replace h := ob h
  obtain ⟨v10, e_v10, h⟩ := h
  refine V_getI zf_13_12 zl_X7_56 e_v10 dX7_manyNow_98 ?_
  refine V_pc (pc' := 101) rfl ?_
  replace h := ob h
  obtain ⟨M11, e_M11, h⟩ := h
  refine V_iast e_M11 dX7_manyNow_101 ?_
  refine V_astore_n (ls' := [(2, .ref (zad L (a_3))), (0, .ref (zad L (a0))), (1, .int (i1))]) dX7_manyNow_102 rfl (by decide) rfl ?_
  refine V_aload_n dX7_manyNow_103 rfl 0 rfl ?_
  refine V_iload_n dX7_manyNow_104 rfl 2 rfl ?_
  replace h := ob h
  obtain ⟨v12, e_v12, h⟩ := h
  refine V_iald e_v12 dX7_manyNow_105 ?_
  refine V_pc (pc' := 106) rfl ?_
  obtain rfl := Option.some.inj h
  exact V_iret rfl hq dX7_manyNow_106
def f_X7_manyNow_29 (a0 : Nat) (i1 : Int32) (i_0 : Int32) (i_1 : Int32) (a_2 : Nat) (a_3 : Nat) (M : zM) : Option (Int32 × zM) :=
  (tA M a_2 i_1 i_0).bind fun M1 =>
  if mK M1 a0 = 13 then
  (f_X7_left a0 M1).bind fun r2 =>
  (tA r2.2 a_3 ((2 : Int32)) r2.1).bind fun M4 =>
  (gI 13 5 M4 a0).bind fun v5 =>
  (tA M4 a_3 ((3 : Int32)) v5).bind fun M6 =>
  (gI 13 6 M6 a0).bind fun v7 =>
  if v7 = ((2 : Int32)) then
  (gI 13 14 M6 a0).bind fun v8 =>
  f_X7_manyNow_62 a0 i1 v8 ((4 : Int32)) a_3 a_3 M6
  else
  f_X7_manyNow_62 a0 i1 ((-1 : Int32)) ((4 : Int32)) a_3 a_3 M6
  else none
set_option maxRecDepth 20000 in
set_option maxHeartbeats 4000000 in
theorem s_X7_manyNow_29 {L : zL} {X : zX} {M0 : zM} {N : Nat × Nat} {Q : State → Prop} {r : Int32 × zM} (hq : vQ L X M0 N Q (some (.int r.1)) r.2) {a0 : Nat} {i1 : Int32} {i_0 : Int32} {i_1 : Int32} {a_2 : Nat} {a_3 : Nat} {M : zM} (h : f_X7_manyNow_29 a0 i1 i_0 i_1 a_2 a_3 M = some r) : V L X yX7_manyNow cX7_manyNow 3 (some FieldType.int) 2 M0 N Q M 29 [(0, .ref (zad L (a0))), (1, .int (i1))] [.int (i_0), .int (i_1), .ref (zad L (a_2)), .ref (zad L (a_3))] := by
  unfold f_X7_manyNow_29 at h
  replace h := ob h
  obtain ⟨M1, e_M1, h⟩ := h
  refine V_iast e_M1 dX7_manyNow_29 ?_
  refine V_dup dX7_manyNow_30 rfl ?_
  refine V_iconst (v := 2) dX7_manyNow_31 (by decide) ?_
  refine V_aload_n dX7_manyNow_32 rfl 0 rfl ?_
  replace h := ox h
  obtain ⟨c3, h⟩ := h
  replace h := ob h
  obtain ⟨r2, e_r2, h⟩ := h
  refine V_callV_I (As := []) (rest := [.int ((2 : Int32)), .ref (zad L (a_3)), .ref (zad L (a_3))]) (c_X7_left e_r2) zc_X7_left rfl (by decide) rfl (by decide) (Or.inl c3) zm_X7_78 (Nat.le_of_ble_eq_true rfl) rfl dX7_manyNow_33 ?_
  refine V_pc (pc' := 36) rfl ?_
  replace h := ob h
  obtain ⟨M4, e_M4, h⟩ := h
  refine V_iast e_M4 dX7_manyNow_36 ?_
  refine V_dup dX7_manyNow_37 rfl ?_
  refine V_iconst (v := 3) dX7_manyNow_38 (by decide) ?_
  refine V_aload_n dX7_manyNow_39 rfl 0 rfl ?_
  replace h := ob h
  obtain ⟨v5, e_v5, h⟩ := h
  refine V_getI zf_13_5 zl_X7_46 e_v5 dX7_manyNow_40 ?_
  refine V_pc (pc' := 43) rfl ?_
  replace h := ob h
  obtain ⟨M6, e_M6, h⟩ := h
  refine V_iast e_M6 dX7_manyNow_43 ?_
  refine V_dup dX7_manyNow_44 rfl ?_
  refine V_iconst (v := 4) dX7_manyNow_45 (by decide) ?_
  refine V_aload_n dX7_manyNow_46 rfl 0 rfl ?_
  replace h := ob h
  obtain ⟨v7, e_v7, h⟩ := h
  refine V_getI zf_13_6 zl_X7_50 e_v7 dX7_manyNow_47 ?_
  refine V_pc (pc' := 50) rfl ?_
  refine V_iconst (v := 2) dX7_manyNow_50 (by decide) ?_
  refine V_icmp_ne (tgt := 61) dX7_manyNow_51 (by decide) (fun c9 => ?_) (fun c9 => ?_)
  · replace h := (oi h).2 c9
    refine V_iconst (v := -1) dX7_manyNow_61 (by decide) ?_
    exact s_X7_manyNow_62 hq h
  · replace h := (oi h).1 c9
    refine V_aload_n dX7_manyNow_54 rfl 0 rfl ?_
    replace h := ob h
    obtain ⟨v8, e_v8, h⟩ := h
    refine V_getI zf_13_14 zl_X7_62 e_v8 dX7_manyNow_55 ?_
    refine V_pc (pc' := 58) rfl ?_
    refine V_goto (tgt := 62) dX7_manyNow_58 (by decide) ?_
    exact s_X7_manyNow_62 hq h
def f_X7_manyNow_0 (a0 : Nat) (i1 : Int32) (M : zM) : Option (Int32 × zM) :=
  (aA 0 M ((10 : Int32))).bind fun r1 =>
  (gI 13 6 r1.2 a0).bind fun v2 =>
  (tA r1.2 r1.1 ((0 : Int32)) v2).bind fun M3 =>
  (gI 13 6 M3 a0).bind fun v4 =>
  if v4 = ((3 : Int32)) then
  f_X7_manyNow_29 a0 i1 ((-1 : Int32)) ((1 : Int32)) r1.1 r1.1 M3
  else
  (gI 13 7 M3 a0).bind fun v5 =>
  f_X7_manyNow_29 a0 i1 v5 ((1 : Int32)) r1.1 r1.1 M3
set_option maxRecDepth 20000 in
set_option maxHeartbeats 4000000 in
theorem s_X7_manyNow_0 {L : zL} {X : zX} {M0 : zM} {N : Nat × Nat} {Q : State → Prop} {r : Int32 × zM} (hq : vQ L X M0 N Q (some (.int r.1)) r.2) {a0 : Nat} {i1 : Int32} {M : zM} (h : f_X7_manyNow_0 a0 i1 M = some r) : V L X yX7_manyNow cX7_manyNow 3 (some FieldType.int) 2 M0 N Q M 0 [(0, .ref (zad L (a0))), (1, .int (i1))] [] := by
  unfold f_X7_manyNow_0 at h
  refine V_bipush (v := 10) dX7_manyNow_0 (by decide) ?_
  replace h := ob h
  obtain ⟨r1, e_r1, h⟩ := h
  refine V_newa (t := 0) (by decide) rfl zna_0 e_r1 dX7_manyNow_2 ?_
  refine V_pc (pc' := 4) rfl ?_
  refine V_dup dX7_manyNow_4 rfl ?_
  refine V_iconst (v := 0) dX7_manyNow_5 (by decide) ?_
  refine V_aload_n dX7_manyNow_6 rfl 0 rfl ?_
  replace h := ob h
  obtain ⟨v2, e_v2, h⟩ := h
  refine V_getI zf_13_6 zl_X7_50 e_v2 dX7_manyNow_7 ?_
  refine V_pc (pc' := 10) rfl ?_
  replace h := ob h
  obtain ⟨M3, e_M3, h⟩ := h
  refine V_iast e_M3 dX7_manyNow_10 ?_
  refine V_dup dX7_manyNow_11 rfl ?_
  refine V_iconst (v := 1) dX7_manyNow_12 (by decide) ?_
  refine V_aload_n dX7_manyNow_13 rfl 0 rfl ?_
  replace h := ob h
  obtain ⟨v4, e_v4, h⟩ := h
  refine V_getI zf_13_6 zl_X7_50 e_v4 dX7_manyNow_14 ?_
  refine V_pc (pc' := 17) rfl ?_
  refine V_iconst (v := 3) dX7_manyNow_17 (by decide) ?_
  refine V_icmp_ne (tgt := 25) dX7_manyNow_18 (by decide) (fun c6 => ?_) (fun c6 => ?_)
  · replace h := (oi h).2 c6
    refine V_aload_n dX7_manyNow_25 rfl 0 rfl ?_
    replace h := ob h
    obtain ⟨v5, e_v5, h⟩ := h
    refine V_getI zf_13_7 zl_X7_82 e_v5 dX7_manyNow_26 ?_
    refine V_pc (pc' := 29) rfl ?_
    exact s_X7_manyNow_29 hq h
  · replace h := (oi h).1 c6
    refine V_iconst (v := -1) dX7_manyNow_21 (by decide) ?_
    refine V_goto (tgt := 29) dX7_manyNow_22 (by decide) ?_
    exact s_X7_manyNow_29 hq h
def f_X7_manyNow (a0 : Nat) (i1 : Int32) (M : zM) : Option (Int32 × zM) := f_X7_manyNow_0 a0 i1 M
theorem c_X7_manyNow {L : zL} {l : Launch} {a0 : Nat} {i1 : Int32} {M : zM} {r : Int32 × zM} (h : f_X7_manyNow a0 i1 M = some r) : CP L l yX7_manyNow cX7_manyNow 3 (some FieldType.int) 2 M [.ref (zad L (a0)), .int (i1)] (some (.int r.1)) r.2 :=
  CP.of ⟨by decide +kernel, by decide +kernel⟩ (Nat.le_of_ble_eq_true rfl) fun X Q hq => s_X7_manyNow_0 hq h
/-! WindsparlourModel.many(I)I -/
theorem dX7_many_0 : decode cX7_many 0 = .ok (.aload_n 0, 1) := by decide +kernel
theorem dX7_many_1 : decode cX7_many 1 = .ok (.iload_n 1, 1) := by decide +kernel
theorem dX7_many_2 : decode cX7_many 2 = .ok (.iconst 0, 1) := by decide +kernel
theorem dX7_many_3 : decode cX7_many 3 = .ok (.bipush 9, 2) := by decide +kernel
theorem dX7_many_5 : decode cX7_many 5 = .ok (.invokestatic 3, 3) := by decide +kernel
theorem dX7_many_8 : decode cX7_many 8 = .ok (.ifCond .ne 7, 3) := by decide +kernel
theorem dX7_many_11 : decode cX7_many 11 = .ok (.iconst 1, 1) := by decide +kernel
theorem dX7_many_12 : decode cX7_many 12 = .ok (.goto 4, 3) := by decide +kernel
theorem dX7_many_15 : decode cX7_many 15 = .ok (.iconst 0, 1) := by decide +kernel
theorem dX7_many_16 : decode cX7_many 16 = .ok (.iconst 1, 1) := by decide +kernel
theorem dX7_many_17 : decode cX7_many 17 = .ok (.invokevirtual 85, 3) := by decide +kernel
theorem dX7_many_20 : decode cX7_many 20 = .ok (.ifCond .eq 7, 3) := by decide +kernel
theorem dX7_many_23 : decode cX7_many 23 = .ok (.iconst 0, 1) := by decide +kernel
theorem dX7_many_24 : decode cX7_many 24 = .ok (.goto 8, 3) := by decide +kernel
theorem dX7_many_27 : decode cX7_many 27 = .ok (.aload_n 0, 1) := by decide +kernel
theorem dX7_many_28 : decode cX7_many 28 = .ok (.iload_n 1, 1) := by decide +kernel
theorem dX7_many_29 : decode cX7_many 29 = .ok (.invokevirtual 315, 3) := by decide +kernel
theorem dX7_many_32 : decode cX7_many 32 = .ok (.ireturn, 1) := by decide +kernel
def f_X7_many_16 (a0 : Nat) (i1 : Int32) (i_0 : Int32) (a_1 : Nat) (M : zM) : Option (Int32 × zM) :=
  if mK M a_1 = 13 then
  (f_X7_start a_1 i_0 ((1 : Int32)) M).bind fun r1 =>
  if r1.1 = 0 then
  if mK r1.2 a0 = 13 then
  (f_X7_manyNow a0 i1 r1.2).bind fun r3 =>
  some (r3.1, r3.2)
  else none
  else
  some ((0 : Int32), r1.2)
  else none
set_option maxRecDepth 20000 in
set_option maxHeartbeats 4000000 in
theorem s_X7_many_16 {L : zL} {X : zX} {M0 : zM} {N : Nat × Nat} {Q : State → Prop} {r : Int32 × zM} (hq : vQ L X M0 N Q (some (.int r.1)) r.2) {a0 : Nat} {i1 : Int32} {i_0 : Int32} {a_1 : Nat} {M : zM} (h : f_X7_many_16 a0 i1 i_0 a_1 M = some r) : V L X yX7_many cX7_many 2 (some FieldType.int) 3 M0 N Q M 16 [(0, .ref (zad L (a0))), (1, .int (i1))] [.int (i_0), .ref (zad L (a_1))] := by
  unfold f_X7_many_16 at h
  refine V_iconst (v := 1) dX7_many_16 (by decide) ?_
  replace h := ox h
  obtain ⟨c2, h⟩ := h
  replace h := ob h
  obtain ⟨r1, e_r1, h⟩ := h
  refine V_callV_I (As := [.int (i_0), .int ((1 : Int32))]) (rest := []) (c_X7_start e_r1) zc_X7_start rfl (by decide) rfl (by decide) (Or.inl c2) zm_X7_85 (Nat.le_of_ble_eq_true rfl) rfl dX7_many_17 ?_
  refine V_pc (pc' := 20) rfl ?_
  refine V_if_eq (tgt := 27) dX7_many_20 (by decide) (fun c5 => ?_) (fun c5 => ?_)
  · replace h := (oi h).1 c5
    refine V_aload_n dX7_many_27 rfl 0 rfl ?_
    refine V_iload_n dX7_many_28 rfl 1 rfl ?_
    replace h := ox h
    obtain ⟨c4, h⟩ := h
    replace h := ob h
    obtain ⟨r3, e_r3, h⟩ := h
    refine V_callV_I (As := [.int (i1)]) (rest := []) (c_X7_manyNow e_r3) zc_X7_manyNow rfl (by decide) rfl (by decide) (Or.inl c4) zm_X7_315 (Nat.le_of_ble_eq_true rfl) rfl dX7_many_29 ?_
    refine V_pc (pc' := 32) rfl ?_
    obtain rfl := Option.some.inj h
    exact V_iret rfl hq dX7_many_32
  · replace h := (oi h).2 c5
    refine V_iconst (v := 0) dX7_many_23 (by decide) ?_
    refine V_goto (tgt := 32) dX7_many_24 (by decide) ?_
    obtain rfl := Option.some.inj h
    exact V_iret rfl hq dX7_many_32
def f_X7_many_0 (a0 : Nat) (i1 : Int32) (M : zM) : Option (Int32 × zM) :=
  (f_X7_isIn i1 ((0 : Int32)) ((9 : Int32)) M).bind fun r1 =>
  if r1.1 = 0 then
  f_X7_many_16 a0 i1 ((1 : Int32)) a0 r1.2
  else
  f_X7_many_16 a0 i1 ((0 : Int32)) a0 r1.2
set_option maxRecDepth 20000 in
set_option maxHeartbeats 4000000 in
theorem s_X7_many_0 {L : zL} {X : zX} {M0 : zM} {N : Nat × Nat} {Q : State → Prop} {r : Int32 × zM} (hq : vQ L X M0 N Q (some (.int r.1)) r.2) {a0 : Nat} {i1 : Int32} {M : zM} (h : f_X7_many_0 a0 i1 M = some r) : V L X yX7_many cX7_many 2 (some FieldType.int) 3 M0 N Q M 0 [(0, .ref (zad L (a0))), (1, .int (i1))] [] := by
  unfold f_X7_many_0 at h
  refine V_aload_n dX7_many_0 rfl 0 rfl ?_
  refine V_iload_n dX7_many_1 rfl 1 rfl ?_
  refine V_iconst (v := 0) dX7_many_2 (by decide) ?_
  refine V_bipush (v := 9) dX7_many_3 (by decide) ?_
  replace h := ob h
  obtain ⟨r1, e_r1, h⟩ := h
  refine V_callS_I (As := [.int (i1), .int ((0 : Int32)), .int ((9 : Int32))]) (rest := [.ref (zad L (a0))]) (c_X7_isIn e_r1) zc_X7_isIn rfl (by decide) zm_X7_3 (Nat.le_of_ble_eq_true rfl) rfl dX7_many_5 ?_
  refine V_pc (pc' := 8) rfl ?_
  refine V_if_ne (tgt := 15) dX7_many_8 (by decide) (fun c2 => ?_) (fun c2 => ?_)
  · replace h := (oi h).2 c2
    refine V_iconst (v := 0) dX7_many_15 (by decide) ?_
    exact s_X7_many_16 hq h
  · replace h := (oi h).1 c2
    refine V_iconst (v := 1) dX7_many_11 (by decide) ?_
    refine V_goto (tgt := 16) dX7_many_12 (by decide) ?_
    exact s_X7_many_16 hq h
def f_X7_many (a0 : Nat) (i1 : Int32) (M : zM) : Option (Int32 × zM) := f_X7_many_0 a0 i1 M
theorem c_X7_many {L : zL} {l : Launch} {a0 : Nat} {i1 : Int32} {M : zM} {r : Int32 × zM} (h : f_X7_many a0 i1 M = some r) : CP L l yX7_many cX7_many 2 (some FieldType.int) 3 M [.ref (zad L (a0)), .int (i1)] (some (.int r.1)) r.2 :=
  CP.of ⟨by decide +kernel, by decide +kernel⟩ (Nat.le_of_ble_eq_true rfl) fun X Q hq => s_X7_many_0 hq h
/-! WindsparlourModel.leadNow(I)D -/
theorem dX7_leadNow_0 : decode cX7_leadNow 0 = .ok (.iconst 0, 1) := by decide +kernel
theorem dX7_leadNow_1 : decode cX7_leadNow 1 = .ok (.istore_n 2, 1) := by decide +kernel
theorem dX7_leadNow_2 : decode cX7_leadNow 2 = .ok (.aload_n 0, 1) := by decide +kernel
theorem dX7_leadNow_3 : decode cX7_leadNow 3 = .ok (.getfield 38, 3) := by decide +kernel
theorem dX7_leadNow_6 : decode cX7_leadNow 6 = .ok (.astore_n 3, 1) := by decide +kernel
theorem dX7_leadNow_7 : decode cX7_leadNow 7 = .ok (.aload_n 3, 1) := by decide +kernel
theorem dX7_leadNow_8 : decode cX7_leadNow 8 = .ok (.arraylength, 1) := by decide +kernel
theorem dX7_leadNow_9 : decode cX7_leadNow 9 = .ok (.istore 4, 2) := by decide +kernel
theorem dX7_leadNow_11 : decode cX7_leadNow 11 = .ok (.iconst 0, 1) := by decide +kernel
theorem dX7_leadNow_12 : decode cX7_leadNow 12 = .ok (.istore 5, 2) := by decide +kernel
theorem dX7_leadNow_14 : decode cX7_leadNow 14 = .ok (.iload 5, 2) := by decide +kernel
theorem dX7_leadNow_16 : decode cX7_leadNow 16 = .ok (.iload 4, 2) := by decide +kernel
theorem dX7_leadNow_18 : decode cX7_leadNow 18 = .ok (.if_icmp .ge 23, 3) := by decide +kernel
theorem dX7_leadNow_21 : decode cX7_leadNow 21 = .ok (.aload_n 3, 1) := by decide +kernel
theorem dX7_leadNow_22 : decode cX7_leadNow 22 = .ok (.iload 5, 2) := by decide +kernel
theorem dX7_leadNow_24 : decode cX7_leadNow 24 = .ok (.aaload, 1) := by decide +kernel
theorem dX7_leadNow_25 : decode cX7_leadNow 25 = .ok (.astore 6, 2) := by decide +kernel
theorem dX7_leadNow_27 : decode cX7_leadNow 27 = .ok (.iload_n 2, 1) := by decide +kernel
theorem dX7_leadNow_28 : decode cX7_leadNow 28 = .ok (.aload 6, 2) := by decide +kernel
theorem dX7_leadNow_30 : decode cX7_leadNow 30 = .ok (.getfield 112, 3) := by decide +kernel
theorem dX7_leadNow_33 : decode cX7_leadNow 33 = .ok (.iadd, 1) := by decide +kernel
theorem dX7_leadNow_34 : decode cX7_leadNow 34 = .ok (.istore_n 2, 1) := by decide +kernel
theorem dX7_leadNow_35 : decode cX7_leadNow 35 = .ok (.iinc 5 1, 3) := by decide +kernel
theorem dX7_leadNow_38 : decode cX7_leadNow 38 = .ok (.goto (-24), 3) := by decide +kernel
theorem dX7_leadNow_41 : decode cX7_leadNow 41 = .ok (.aload_n 0, 1) := by decide +kernel
theorem dX7_leadNow_42 : decode cX7_leadNow 42 = .ok (.getfield 38, 3) := by decide +kernel
theorem dX7_leadNow_45 : decode cX7_leadNow 45 = .ok (.iload_n 1, 1) := by decide +kernel
theorem dX7_leadNow_46 : decode cX7_leadNow 46 = .ok (.aaload, 1) := by decide +kernel
theorem dX7_leadNow_47 : decode cX7_leadNow 47 = .ok (.getfield 112, 3) := by decide +kernel
theorem dX7_leadNow_50 : decode cX7_leadNow 50 = .ok (.i2d, 1) := by decide +kernel
theorem dX7_leadNow_51 : decode cX7_leadNow 51 = .ok (.iload_n 2, 1) := by decide +kernel
theorem dX7_leadNow_52 : decode cX7_leadNow 52 = .ok (.i2d, 1) := by decide +kernel
theorem dX7_leadNow_53 : decode cX7_leadNow 53 = .ok (.ldc2_w 318, 3) := by decide +kernel
theorem dX7_leadNow_56 : decode cX7_leadNow 56 = .ok (.ddiv, 1) := by decide +kernel
theorem dX7_leadNow_57 : decode cX7_leadNow 57 = .ok (.dsub, 1) := by decide +kernel
theorem dX7_leadNow_58 : decode cX7_leadNow 58 = .ok (.dreturn, 1) := by decide +kernel
def f_X7_leadNow_14 (n : Nat) (a0 : Nat) (i1 : Int32) (i2 : Int32) (a3 : Nat) (i4 : Int32) (i5 : Int32) (M : zM) : Option (UInt64 × zM) := match n with
  | 0 => none
  | n + 1 =>
    if i4 ≤ i5 then
    (gR 13 1 M a0).bind fun v1 =>
    (lQ 2 M v1 i1).bind fun v2 =>
    (gI 12 0 M v2).bind fun v3 =>
    if (FP.ddiv ((FP.i2d i2)) ((4616189618054758400 : UInt64))) &&& 0x7fffffffffffffff ≤ 0x7ff0000000000000 then
    if (FP.dsub ((FP.i2d v3)) ((FP.ddiv ((FP.i2d i2)) ((4616189618054758400 : UInt64))))) &&& 0x7fffffffffffffff ≤ 0x7ff0000000000000 then
    some ((FP.dsub ((FP.i2d v3)) ((FP.ddiv ((FP.i2d i2)) ((4616189618054758400 : UInt64))))), M)
    else none
    else none
    else
    (lQ 2 M a3 i5).bind fun v6 =>
    (gI 12 0 M v6).bind fun v7 =>
    f_X7_leadNow_14 n a0 i1 ((i2 + v7)) a3 i4 ((i5 + (1 : Int32))) M
set_option maxRecDepth 20000 in
set_option maxHeartbeats 4000000 in
theorem s_X7_leadNow_14 {L : zL} {X : zX} {M0 : zM} {N : Nat × Nat} {Q : State → Prop} {r : UInt64 × zM} (hq : vQ L X M0 N Q (some (.double r.1)) r.2) {n : Nat} {a0 : Nat} {i1 : Int32} {i2 : Int32} {a3 : Nat} {i4 : Int32} {i5 : Int32} {M : zM} : f_X7_leadNow_14 n a0 i1 i2 a3 i4 i5 M = some r → V L X yX7_leadNow cX7_leadNow 7 (some FieldType.double) 1 M0 N Q M 14 [(0, .ref (zad L (a0))), (1, .int (i1)), (2, .int (i2)), (3, .ref (zad L (a3))), (4, .int (i4)), (5, .int (i5))] [] := by
  induction n generalizing a0 i1 i2 a3 i4 i5 M with
  | zero =>
    intro h
    rw [f_X7_leadNow_14] at h
    cases h
  | succ n ih0 =>
    intro h
    have ih : ∀ (a0 : Nat) (i1 : Int32) (i2 : Int32) (a3 : Nat) (i4 : Int32) (i5 : Int32) (M : zM), f_X7_leadNow_14 n a0 i1 i2 a3 i4 i5 M = some r → V L X yX7_leadNow cX7_leadNow 7 (some FieldType.double) 1 M0 N Q M 14 [(0, .ref (zad L (a0))), (1, .int (i1)), (2, .int (i2)), (3, .ref (zad L (a3))), (4, .int (i4)), (5, .int (i5))] [] := fun a0 i1 i2 a3 i4 i5 M h => ih0 h
    rw [f_X7_leadNow_14] at h
    refine V_iload dX7_leadNow_14 5 rfl ?_
    refine V_iload dX7_leadNow_16 4 rfl ?_
    refine V_icmp_ge (tgt := 41) dX7_leadNow_18 (by decide) (fun c8 => ?_) (fun c8 => ?_)
    · replace h := (oi h).1 c8
      refine V_aload_n dX7_leadNow_41 rfl 0 rfl ?_
      replace h := ob h
      obtain ⟨v1, e_v1, h⟩ := h
      refine V_getR zf_13_1 zl_X7_38 e_v1 dX7_leadNow_42 ?_
      refine V_pc (pc' := 45) rfl ?_
      refine V_iload_n dX7_leadNow_45 rfl 1 rfl ?_
      replace h := ob h
      obtain ⟨v2, e_v2, h⟩ := h
      refine V_aald (by decide) e_v2 dX7_leadNow_46 ?_
      refine V_pc (pc' := 47) rfl ?_
      replace h := ob h
      obtain ⟨v3, e_v3, h⟩ := h
      refine V_getI zf_12_0 zl_X7_112 e_v3 dX7_leadNow_47 ?_
      refine V_pc (pc' := 50) rfl ?_
      refine V_i2d dX7_leadNow_50 ?_
      refine V_iload_n dX7_leadNow_51 rfl 2 rfl ?_
      refine V_i2d dX7_leadNow_52 ?_
      refine V_ldc2d zcn_X7_318 dX7_leadNow_53 ?_
      replace h := ox h
      obtain ⟨c5, h⟩ := h
      refine V_ddiv dX7_leadNow_56 c5 ?_
      replace h := ox h
      obtain ⟨c4, h⟩ := h
      refine V_dsub dX7_leadNow_57 c4 ?_
      obtain rfl := Option.some.inj h
      exact V_dret rfl hq dX7_leadNow_58
    · replace h := (oi h).2 c8
      refine V_aload_n dX7_leadNow_21 rfl 3 rfl ?_
      refine V_iload dX7_leadNow_22 5 rfl ?_
      replace h := ob h
      obtain ⟨v6, e_v6, h⟩ := h
      refine V_aald (by decide) e_v6 dX7_leadNow_24 ?_
      refine V_pc (pc' := 25) rfl ?_
      refine V_astore (ls' := [(6, .ref (zad L (v6))), (0, .ref (zad L (a0))), (1, .int (i1)), (2, .int (i2)), (3, .ref (zad L (a3))), (4, .int (i4)), (5, .int (i5))]) dX7_leadNow_25 (by decide) rfl ?_
      refine V_iload_n dX7_leadNow_27 rfl 3 rfl ?_
      refine V_aload dX7_leadNow_28 0 rfl ?_
      replace h := ob h
      obtain ⟨v7, e_v7, h⟩ := h
      refine V_getI zf_12_0 zl_X7_112 e_v7 dX7_leadNow_30 ?_
      refine V_pc (pc' := 33) rfl ?_
      refine V_iadd dX7_leadNow_33 ?_
      refine V_istore_n (ls' := [(2, .int ((i2 + v7))), (6, .ref (zad L (v6))), (0, .ref (zad L (a0))), (1, .int (i1)), (3, .ref (zad L (a3))), (4, .int (i4)), (5, .int (i5))]) dX7_leadNow_34 rfl (by decide) rfl ?_
      refine V_iinc (v := i5 + (1 : Int32)) (ls' := [(5, .int ((i5 + (1 : Int32)))), (2, .int ((i2 + v7))), (6, .ref (zad L (v6))), (0, .ref (zad L (a0))), (1, .int (i1)), (3, .ref (zad L (a3))), (4, .int (i4))]) dX7_leadNow_35 6 rfl (by rfl) (by decide) rfl ?_
      refine V_goto (tgt := 14) dX7_leadNow_38 (by decide) ?_
      refine V_sub [3, 4, 1, 5, 6, 0] rfl ?_
      exact ih _ _ _ _ _ _ _ h
def f_X7_leadNow_0 (a0 : Nat) (i1 : Int32) (M : zM) : Option (UInt64 × zM) :=
  (gR 13 1 M a0).bind fun v1 =>
  (gL M v1).bind fun v2 =>
  f_X7_leadNow_14 zN a0 i1 ((0 : Int32)) v1 v2 ((0 : Int32)) M
set_option maxRecDepth 20000 in
set_option maxHeartbeats 4000000 in
theorem s_X7_leadNow_0 {L : zL} {X : zX} {M0 : zM} {N : Nat × Nat} {Q : State → Prop} {r : UInt64 × zM} (hq : vQ L X M0 N Q (some (.double r.1)) r.2) {a0 : Nat} {i1 : Int32} {M : zM} (h : f_X7_leadNow_0 a0 i1 M = some r) : V L X yX7_leadNow cX7_leadNow 7 (some FieldType.double) 1 M0 N Q M 0 [(0, .ref (zad L (a0))), (1, .int (i1))] [] := by
  unfold f_X7_leadNow_0 at h
  refine V_iconst (v := 0) dX7_leadNow_0 (by decide) ?_
  refine V_istore_n (ls' := [(2, .int ((0 : Int32))), (0, .ref (zad L (a0))), (1, .int (i1))]) dX7_leadNow_1 rfl (by decide) rfl ?_
  refine V_aload_n dX7_leadNow_2 rfl 1 rfl ?_
  replace h := ob h
  obtain ⟨v1, e_v1, h⟩ := h
  refine V_getR zf_13_1 zl_X7_38 e_v1 dX7_leadNow_3 ?_
  refine V_pc (pc' := 6) rfl ?_
  refine V_astore_n (ls' := [(3, .ref (zad L (v1))), (2, .int ((0 : Int32))), (0, .ref (zad L (a0))), (1, .int (i1))]) dX7_leadNow_6 rfl (by decide) rfl ?_
  refine V_aload_n dX7_leadNow_7 rfl 0 rfl ?_
  replace h := ob h
  obtain ⟨v2, e_v2, h⟩ := h
  refine V_alen e_v2 dX7_leadNow_8 ?_
  refine V_pc (pc' := 9) rfl ?_
  refine V_istore (ls' := [(4, .int (v2)), (3, .ref (zad L (v1))), (2, .int ((0 : Int32))), (0, .ref (zad L (a0))), (1, .int (i1))]) dX7_leadNow_9 (by decide) rfl ?_
  refine V_iconst (v := 0) dX7_leadNow_11 (by decide) ?_
  refine V_istore (ls' := [(5, .int ((0 : Int32))), (4, .int (v2)), (3, .ref (zad L (v1))), (2, .int ((0 : Int32))), (0, .ref (zad L (a0))), (1, .int (i1))]) dX7_leadNow_12 (by decide) rfl ?_
  refine V_sub [4, 5, 3, 2, 1, 0] rfl ?_
  exact s_X7_leadNow_14 hq h
def f_X7_leadNow (a0 : Nat) (i1 : Int32) (M : zM) : Option (UInt64 × zM) := f_X7_leadNow_0 a0 i1 M
theorem c_X7_leadNow {L : zL} {l : Launch} {a0 : Nat} {i1 : Int32} {M : zM} {r : UInt64 × zM} (h : f_X7_leadNow a0 i1 M = some r) : CP L l yX7_leadNow cX7_leadNow 7 (some FieldType.double) 1 M [.ref (zad L (a0)), .int (i1)] (some (.double r.1)) r.2 :=
  CP.of ⟨by decide +kernel, by decide +kernel⟩ (Nat.le_of_ble_eq_true rfl) fun X Q hq => s_X7_leadNow_0 hq h
/-! WindsparlourModel.lead(I)D -/
theorem dX7_lead_0 : decode cX7_lead 0 = .ok (.aload_n 0, 1) := by decide +kernel
theorem dX7_lead_1 : decode cX7_lead 1 = .ok (.iload_n 1, 1) := by decide +kernel
theorem dX7_lead_2 : decode cX7_lead 2 = .ok (.invokestatic 174, 3) := by decide +kernel
theorem dX7_lead_5 : decode cX7_lead 5 = .ok (.iconst 1, 1) := by decide +kernel
theorem dX7_lead_6 : decode cX7_lead 6 = .ok (.invokevirtual 85, 3) := by decide +kernel
theorem dX7_lead_9 : decode cX7_lead 9 = .ok (.ifCond .eq 7, 3) := by decide +kernel
theorem dX7_lead_12 : decode cX7_lead 12 = .ok (.dconst 0, 1) := by decide +kernel
theorem dX7_lead_13 : decode cX7_lead 13 = .ok (.goto 8, 3) := by decide +kernel
theorem dX7_lead_16 : decode cX7_lead 16 = .ok (.aload_n 0, 1) := by decide +kernel
theorem dX7_lead_17 : decode cX7_lead 17 = .ok (.iload_n 1, 1) := by decide +kernel
theorem dX7_lead_18 : decode cX7_lead 18 = .ok (.invokevirtual 320, 3) := by decide +kernel
theorem dX7_lead_21 : decode cX7_lead 21 = .ok (.dreturn, 1) := by decide +kernel
def f_X7_lead_0 (a0 : Nat) (i1 : Int32) (M : zM) : Option (UInt64 × zM) :=
  (f_X7_isNoPlayer i1 M).bind fun r1 =>
  if mK r1.2 a0 = 13 then
  (f_X7_start a0 r1.1 ((1 : Int32)) r1.2).bind fun r2 =>
  if r2.1 = 0 then
  if mK r2.2 a0 = 13 then
  (f_X7_leadNow a0 i1 r2.2).bind fun r4 =>
  some (r4.1, r4.2)
  else none
  else
  some (FP.dconst0, r2.2)
  else none
set_option maxRecDepth 20000 in
set_option maxHeartbeats 4000000 in
theorem s_X7_lead_0 {L : zL} {X : zX} {M0 : zM} {N : Nat × Nat} {Q : State → Prop} {r : UInt64 × zM} (hq : vQ L X M0 N Q (some (.double r.1)) r.2) {a0 : Nat} {i1 : Int32} {M : zM} (h : f_X7_lead_0 a0 i1 M = some r) : V L X yX7_lead cX7_lead 2 (some FieldType.double) 3 M0 N Q M 0 [(0, .ref (zad L (a0))), (1, .int (i1))] [] := by
  unfold f_X7_lead_0 at h
  refine V_aload_n dX7_lead_0 rfl 0 rfl ?_
  refine V_iload_n dX7_lead_1 rfl 1 rfl ?_
  replace h := ob h
  obtain ⟨r1, e_r1, h⟩ := h
  refine V_callS_I (As := [.int (i1)]) (rest := [.ref (zad L (a0))]) (c_X7_isNoPlayer e_r1) zc_X7_isNoPlayer rfl (by decide) zm_X7_174 (Nat.le_of_ble_eq_true rfl) rfl dX7_lead_2 ?_
  refine V_pc (pc' := 5) rfl ?_
  refine V_iconst (v := 1) dX7_lead_5 (by decide) ?_
  replace h := ox h
  obtain ⟨c3, h⟩ := h
  replace h := ob h
  obtain ⟨r2, e_r2, h⟩ := h
  refine V_callV_I (As := [.int (r1.1), .int ((1 : Int32))]) (rest := []) (c_X7_start e_r2) zc_X7_start rfl (by decide) rfl (by decide) (Or.inl c3) zm_X7_85 (Nat.le_of_ble_eq_true rfl) rfl dX7_lead_6 ?_
  refine V_pc (pc' := 9) rfl ?_
  refine V_if_eq (tgt := 16) dX7_lead_9 (by decide) (fun c6 => ?_) (fun c6 => ?_)
  · replace h := (oi h).1 c6
    refine V_aload_n dX7_lead_16 rfl 0 rfl ?_
    refine V_iload_n dX7_lead_17 rfl 1 rfl ?_
    replace h := ox h
    obtain ⟨c5, h⟩ := h
    replace h := ob h
    obtain ⟨r4, e_r4, h⟩ := h
    refine V_callV_D (As := [.int (i1)]) (rest := []) (c_X7_leadNow e_r4) zc_X7_leadNow rfl (by decide) rfl (by decide) (Or.inl c5) zm_X7_320 (Nat.le_of_ble_eq_true rfl) rfl dX7_lead_18 ?_
    refine V_pc (pc' := 21) rfl ?_
    obtain rfl := Option.some.inj h
    exact V_dret rfl hq dX7_lead_21
  · replace h := (oi h).2 c6
    refine V_dconst0 dX7_lead_12 ?_
    refine V_goto (tgt := 21) dX7_lead_13 (by decide) ?_
    obtain rfl := Option.some.inj h
    exact V_dret rfl hq dX7_lead_21
def f_X7_lead (a0 : Nat) (i1 : Int32) (M : zM) : Option (UInt64 × zM) := f_X7_lead_0 a0 i1 M
theorem c_X7_lead {L : zL} {l : Launch} {a0 : Nat} {i1 : Int32} {M : zM} {r : UInt64 × zM} (h : f_X7_lead a0 i1 M = some r) : CP L l yX7_lead cX7_lead 2 (some FieldType.double) 3 M [.ref (zad L (a0)), .int (i1)] (some (.double r.1)) r.2 :=
  CP.of ⟨by decide +kernel, by decide +kernel⟩ (Nat.le_of_ble_eq_true rfl) fun X Q hq => s_X7_lead_0 hq h
/-! WindsparlourModel.worth(II)I -/
theorem dX7_worth_0 : decode cX7_worth 0 = .ok (.aload_n 0, 1) := by decide +kernel
theorem dX7_worth_1 : decode cX7_worth 1 = .ok (.iload_n 1, 1) := by decide +kernel
theorem dX7_worth_2 : decode cX7_worth 2 = .ok (.invokestatic 174, 3) := by decide +kernel
theorem dX7_worth_5 : decode cX7_worth 5 = .ok (.iconst 1, 1) := by decide +kernel
theorem dX7_worth_6 : decode cX7_worth 6 = .ok (.invokevirtual 85, 3) := by decide +kernel
theorem dX7_worth_9 : decode cX7_worth 9 = .ok (.ifCond .ne 23, 3) := by decide +kernel
theorem dX7_worth_12 : decode cX7_worth 12 = .ok (.aload_n 0, 1) := by decide +kernel
theorem dX7_worth_13 : decode cX7_worth 13 = .ok (.iload_n 2, 1) := by decide +kernel
theorem dX7_worth_14 : decode cX7_worth 14 = .ok (.invokestatic 147, 3) := by decide +kernel
theorem dX7_worth_17 : decode cX7_worth 17 = .ok (.ifCond .ne 7, 3) := by decide +kernel
theorem dX7_worth_20 : decode cX7_worth 20 = .ok (.iconst 1, 1) := by decide +kernel
theorem dX7_worth_21 : decode cX7_worth 21 = .ok (.goto 4, 3) := by decide +kernel
theorem dX7_worth_24 : decode cX7_worth 24 = .ok (.iconst 0, 1) := by decide +kernel
theorem dX7_worth_25 : decode cX7_worth 25 = .ok (.iconst 2, 1) := by decide +kernel
theorem dX7_worth_26 : decode cX7_worth 26 = .ok (.invokevirtual 68, 3) := by decide +kernel
theorem dX7_worth_29 : decode cX7_worth 29 = .ok (.ifCond .eq 5, 3) := by decide +kernel
theorem dX7_worth_32 : decode cX7_worth 32 = .ok (.iconst 0, 1) := by decide +kernel
theorem dX7_worth_33 : decode cX7_worth 33 = .ok (.ireturn, 1) := by decide +kernel
theorem dX7_worth_34 : decode cX7_worth 34 = .ok (.aload_n 0, 1) := by decide +kernel
theorem dX7_worth_35 : decode cX7_worth 35 = .ok (.getfield 38, 3) := by decide +kernel
theorem dX7_worth_38 : decode cX7_worth 38 = .ok (.iload_n 1, 1) := by decide +kernel
theorem dX7_worth_39 : decode cX7_worth 39 = .ok (.aaload, 1) := by decide +kernel
theorem dX7_worth_40 : decode cX7_worth 40 = .ok (.astore_n 3, 1) := by decide +kernel
theorem dX7_worth_41 : decode cX7_worth 41 = .ok (.aload_n 3, 1) := by decide +kernel
theorem dX7_worth_42 : decode cX7_worth 42 = .ok (.invokevirtual 248, 3) := by decide +kernel
theorem dX7_worth_45 : decode cX7_worth 45 = .ok (.iload_n 2, 1) := by decide +kernel
theorem dX7_worth_46 : decode cX7_worth 46 = .ok (.lshr, 1) := by decide +kernel
theorem dX7_worth_47 : decode cX7_worth 47 = .ok (.lconst 1, 1) := by decide +kernel
theorem dX7_worth_48 : decode cX7_worth 48 = .ok (.land, 1) := by decide +kernel
theorem dX7_worth_49 : decode cX7_worth 49 = .ok (.lconst 0, 1) := by decide +kernel
theorem dX7_worth_50 : decode cX7_worth 50 = .ok (.lcmp, 1) := by decide +kernel
theorem dX7_worth_51 : decode cX7_worth 51 = .ok (.ifCond .ne 5, 3) := by decide +kernel
theorem dX7_worth_54 : decode cX7_worth 54 = .ok (.iconst (-1), 1) := by decide +kernel
theorem dX7_worth_55 : decode cX7_worth 55 = .ok (.ireturn, 1) := by decide +kernel
theorem dX7_worth_56 : decode cX7_worth 56 = .ok (.aload_n 3, 1) := by decide +kernel
theorem dX7_worth_57 : decode cX7_worth 57 = .ok (.getfield 94, 3) := by decide +kernel
theorem dX7_worth_60 : decode cX7_worth 60 = .ok (.iload_n 2, 1) := by decide +kernel
theorem dX7_worth_61 : decode cX7_worth 61 = .ok (.dup2, 1) := by decide +kernel
theorem dX7_worth_62 : decode cX7_worth 62 = .ok (.iaload, 1) := by decide +kernel
theorem dX7_worth_63 : decode cX7_worth 63 = .ok (.iconst 1, 1) := by decide +kernel
theorem dX7_worth_64 : decode cX7_worth 64 = .ok (.iadd, 1) := by decide +kernel
theorem dX7_worth_65 : decode cX7_worth 65 = .ok (.iastore, 1) := by decide +kernel
theorem dX7_worth_66 : decode cX7_worth 66 = .ok (.aload_n 0, 1) := by decide +kernel
theorem dX7_worth_67 : decode cX7_worth 67 = .ok (.iload_n 1, 1) := by decide +kernel
theorem dX7_worth_68 : decode cX7_worth 68 = .ok (.iconst 0, 1) := by decide +kernel
theorem dX7_worth_69 : decode cX7_worth 69 = .ok (.invokevirtual 262, 3) := by decide +kernel
theorem dX7_worth_72 : decode cX7_worth 72 = .ok (.istore 4, 2) := by decide +kernel
theorem dX7_worth_74 : decode cX7_worth 74 = .ok (.aload_n 3, 1) := by decide +kernel
theorem dX7_worth_75 : decode cX7_worth 75 = .ok (.getfield 94, 3) := by decide +kernel
theorem dX7_worth_78 : decode cX7_worth 78 = .ok (.iload_n 2, 1) := by decide +kernel
theorem dX7_worth_79 : decode cX7_worth 79 = .ok (.dup2, 1) := by decide +kernel
theorem dX7_worth_80 : decode cX7_worth 80 = .ok (.iaload, 1) := by decide +kernel
theorem dX7_worth_81 : decode cX7_worth 81 = .ok (.iconst 1, 1) := by decide +kernel
theorem dX7_worth_82 : decode cX7_worth 82 = .ok (.isub, 1) := by decide +kernel
theorem dX7_worth_83 : decode cX7_worth 83 = .ok (.iastore, 1) := by decide +kernel
theorem dX7_worth_84 : decode cX7_worth 84 = .ok (.iload 4, 2) := by decide +kernel
theorem dX7_worth_86 : decode cX7_worth 86 = .ok (.ireturn, 1) := by decide +kernel
def f_X7_worth_25 (a0 : Nat) (i1 : Int32) (i2 : Int32) (i_0 : Int32) (a_1 : Nat) (M : zM) : Option (Int32 × zM) :=
  if mK M a_1 = 13 then
  (f_X7_refuse a_1 i_0 ((2 : Int32)) M).bind fun r1 =>
  if r1.1 = 0 then
  (gR 13 1 r1.2 a0).bind fun v3 =>
  (lQ 2 r1.2 v3 i1).bind fun v4 =>
  if mK r1.2 v4 = 12 then
  (f_X6_waits v4 r1.2).bind fun r5 =>
  if ((lg_cmp ((((r5.1 >>> (i2.toInt64 &&& 63))) &&& ((1 : Int64)))) ((0 : Int64)))) = 0 then
  some ((-1 : Int32), r5.2)
  else
  (gR 12 2 r5.2 v4).bind fun v7 =>
  (lA 0 r5.2 v7 i2).bind fun v8 =>
  (tA r5.2 v7 i2 ((v8 + ((1 : Int32))))).bind fun M9 =>
  if mK M9 a0 = 13 then
  (f_X7_value a0 i1 ((0 : Int32)) M9).bind fun r10 =>
  (gR 12 2 r10.2 v4).bind fun v12 =>
  (lA 0 r10.2 v12 i2).bind fun v13 =>
  (tA r10.2 v12 i2 ((v13 - ((1 : Int32))))).bind fun M14 =>
  some (r10.1, M14)
  else none
  else none
  else
  some ((0 : Int32), r1.2)
  else none
set_option maxRecDepth 20000 in
set_option maxHeartbeats 4000000 in
theorem s_X7_worth_25 {L : zL} {X : zX} {M0 : zM} {N : Nat × Nat} {Q : State → Prop} {r : Int32 × zM} (hq : vQ L X M0 N Q (some (.int r.1)) r.2) {a0 : Nat} {i1 : Int32} {i2 : Int32} {i_0 : Int32} {a_1 : Nat} {M : zM} (h : f_X7_worth_25 a0 i1 i2 i_0 a_1 M = some r) : V L X yX7_worth cX7_worth 5 (some FieldType.int) 70 M0 N Q M 25 [(0, .ref (zad L (a0))), (1, .int (i1)), (2, .int (i2))] [.int (i_0), .ref (zad L (a_1))] := by
  unfold f_X7_worth_25 at h
  refine V_iconst (v := 2) dX7_worth_25 (by decide) ?_
  replace h := ox h
  obtain ⟨c2, h⟩ := h
  replace h := ob h
  obtain ⟨r1, e_r1, h⟩ := h
  refine V_callV_I (As := [.int (i_0), .int ((2 : Int32))]) (rest := []) (c_X7_refuse e_r1) zc_X7_refuse rfl (by decide) rfl (by decide) (Or.inl c2) zm_X7_68 (Nat.le_of_ble_eq_true rfl) rfl dX7_worth_26 ?_
  refine V_pc (pc' := 29) rfl ?_
  refine V_if_eq (tgt := 34) dX7_worth_29 (by decide) (fun c16 => ?_) (fun c16 => ?_)
  · replace h := (oi h).1 c16
    refine V_aload_n dX7_worth_34 rfl 0 rfl ?_
    replace h := ob h
    obtain ⟨v3, e_v3, h⟩ := h
    refine V_getR zf_13_1 zl_X7_38 e_v3 dX7_worth_35 ?_
    refine V_pc (pc' := 38) rfl ?_
    refine V_iload_n dX7_worth_38 rfl 1 rfl ?_
    replace h := ob h
    obtain ⟨v4, e_v4, h⟩ := h
    refine V_aald (by decide) e_v4 dX7_worth_39 ?_
    refine V_pc (pc' := 40) rfl ?_
    refine V_astore_n (ls' := [(3, .ref (zad L (v4))), (0, .ref (zad L (a0))), (1, .int (i1)), (2, .int (i2))]) dX7_worth_40 rfl (by decide) rfl ?_
    refine V_aload_n dX7_worth_41 rfl 0 rfl ?_
    replace h := ox h
    obtain ⟨c6, h⟩ := h
    replace h := ob h
    obtain ⟨r5, e_r5, h⟩ := h
    refine V_callV_J (As := []) (rest := []) (c_X6_waits e_r5) zc_X6_waits rfl (by decide) rfl (by decide) (Or.inl c6) zm_X7_248 (Nat.le_of_ble_eq_true rfl) rfl dX7_worth_42 ?_
    refine V_pc (pc' := 45) rfl ?_
    refine V_iload_n dX7_worth_45 rfl 3 rfl ?_
    refine V_lshr dX7_worth_46 ?_
    refine V_lconst (v := 1) dX7_worth_47 (by decide) ?_
    refine V_land dX7_worth_48 ?_
    refine V_lconst (v := 0) dX7_worth_49 (by decide) ?_
    refine V_lcmp dX7_worth_50 ?_
    refine V_if_ne (tgt := 56) dX7_worth_51 (by decide) (fun c15 => ?_) (fun c15 => ?_)
    · replace h := (oi h).2 c15
      refine V_aload_n dX7_worth_56 rfl 0 rfl ?_
      replace h := ob h
      obtain ⟨v7, e_v7, h⟩ := h
      refine V_getR zf_12_2 zl_X7_94 e_v7 dX7_worth_57 ?_
      refine V_pc (pc' := 60) rfl ?_
      refine V_iload_n dX7_worth_60 rfl 3 rfl ?_
      refine V_dup2 dX7_worth_61 rfl rfl ?_
      replace h := ob h
      obtain ⟨v8, e_v8, h⟩ := h
      refine V_iald e_v8 dX7_worth_62 ?_
      refine V_pc (pc' := 63) rfl ?_
      refine V_iconst (v := 1) dX7_worth_63 (by decide) ?_
      refine V_iadd dX7_worth_64 ?_
      replace h := ob h
      obtain ⟨M9, e_M9, h⟩ := h
      refine V_iast e_M9 dX7_worth_65 ?_
      refine V_aload_n dX7_worth_66 rfl 1 rfl ?_
      refine V_iload_n dX7_worth_67 rfl 2 rfl ?_
      refine V_iconst (v := 0) dX7_worth_68 (by decide) ?_
      replace h := ox h
      obtain ⟨c11, h⟩ := h
      replace h := ob h
      obtain ⟨r10, e_r10, h⟩ := h
      refine V_callV_I (As := [.int (i1), .int ((0 : Int32))]) (rest := []) (c_X7_value e_r10) zc_X7_value rfl (by decide) rfl (by decide) (Or.inl c11) zm_X7_262 (Nat.le_of_ble_eq_true rfl) rfl dX7_worth_69 ?_
      refine V_pc (pc' := 72) rfl ?_
      refine V_istore (ls' := [(4, .int (r10.1)), (3, .ref (zad L (v4))), (0, .ref (zad L (a0))), (1, .int (i1)), (2, .int (i2))]) dX7_worth_72 (by decide) rfl ?_
      refine V_aload_n dX7_worth_74 rfl 1 rfl ?_
      replace h := ob h
      obtain ⟨v12, e_v12, h⟩ := h
      refine V_getR zf_12_2 zl_X7_94 e_v12 dX7_worth_75 ?_
      refine V_pc (pc' := 78) rfl ?_
      refine V_iload_n dX7_worth_78 rfl 4 rfl ?_
      refine V_dup2 dX7_worth_79 rfl rfl ?_
      replace h := ob h
      obtain ⟨v13, e_v13, h⟩ := h
      refine V_iald e_v13 dX7_worth_80 ?_
      refine V_pc (pc' := 81) rfl ?_
      refine V_iconst (v := 1) dX7_worth_81 (by decide) ?_
      refine V_isub dX7_worth_82 ?_
      replace h := ob h
      obtain ⟨M14, e_M14, h⟩ := h
      refine V_iast e_M14 dX7_worth_83 ?_
      refine V_iload dX7_worth_84 0 rfl ?_
      obtain rfl := Option.some.inj h
      exact V_iret rfl hq dX7_worth_86
    · replace h := (oi h).1 c15
      refine V_iconst (v := -1) dX7_worth_54 (by decide) ?_
      obtain rfl := Option.some.inj h
      exact V_iret rfl hq dX7_worth_55
  · replace h := (oi h).2 c16
    refine V_iconst (v := 0) dX7_worth_32 (by decide) ?_
    obtain rfl := Option.some.inj h
    exact V_iret rfl hq dX7_worth_33
def f_X7_worth_0 (a0 : Nat) (i1 : Int32) (i2 : Int32) (M : zM) : Option (Int32 × zM) :=
  (f_X7_isNoPlayer i1 M).bind fun r1 =>
  if mK r1.2 a0 = 13 then
  (f_X7_start a0 r1.1 ((1 : Int32)) r1.2).bind fun r2 =>
  if r2.1 = 0 then
  (f_X7_isKind i2 r2.2).bind fun r4 =>
  if r4.1 = 0 then
  f_X7_worth_25 a0 i1 i2 ((1 : Int32)) a0 r4.2
  else
  f_X7_worth_25 a0 i1 i2 ((0 : Int32)) a0 r4.2
  else
  some ((0 : Int32), r2.2)
  else none
set_option maxRecDepth 20000 in
set_option maxHeartbeats 4000000 in
theorem s_X7_worth_0 {L : zL} {X : zX} {M0 : zM} {N : Nat × Nat} {Q : State → Prop} {r : Int32 × zM} (hq : vQ L X M0 N Q (some (.int r.1)) r.2) {a0 : Nat} {i1 : Int32} {i2 : Int32} {M : zM} (h : f_X7_worth_0 a0 i1 i2 M = some r) : V L X yX7_worth cX7_worth 5 (some FieldType.int) 70 M0 N Q M 0 [(0, .ref (zad L (a0))), (1, .int (i1)), (2, .int (i2))] [] := by
  unfold f_X7_worth_0 at h
  refine V_aload_n dX7_worth_0 rfl 0 rfl ?_
  refine V_iload_n dX7_worth_1 rfl 1 rfl ?_
  replace h := ob h
  obtain ⟨r1, e_r1, h⟩ := h
  refine V_callS_I (As := [.int (i1)]) (rest := [.ref (zad L (a0))]) (c_X7_isNoPlayer e_r1) zc_X7_isNoPlayer rfl (by decide) zm_X7_174 (Nat.le_of_ble_eq_true rfl) rfl dX7_worth_2 ?_
  refine V_pc (pc' := 5) rfl ?_
  refine V_iconst (v := 1) dX7_worth_5 (by decide) ?_
  replace h := ox h
  obtain ⟨c3, h⟩ := h
  replace h := ob h
  obtain ⟨r2, e_r2, h⟩ := h
  refine V_callV_I (As := [.int (r1.1), .int ((1 : Int32))]) (rest := []) (c_X7_start e_r2) zc_X7_start rfl (by decide) rfl (by decide) (Or.inl c3) zm_X7_85 (Nat.le_of_ble_eq_true rfl) rfl dX7_worth_6 ?_
  refine V_pc (pc' := 9) rfl ?_
  refine V_if_ne (tgt := 32) dX7_worth_9 (by decide) (fun c6 => ?_) (fun c6 => ?_)
  · replace h := (oi h).2 c6
    refine V_iconst (v := 0) dX7_worth_32 (by decide) ?_
    obtain rfl := Option.some.inj h
    exact V_iret rfl hq dX7_worth_33
  · replace h := (oi h).1 c6
    refine V_aload_n dX7_worth_12 rfl 0 rfl ?_
    refine V_iload_n dX7_worth_13 rfl 2 rfl ?_
    replace h := ob h
    obtain ⟨r4, e_r4, h⟩ := h
    refine V_callS_I (As := [.int (i2)]) (rest := [.ref (zad L (a0))]) (c_X7_isKind e_r4) zc_X7_isKind rfl (by decide) zm_X7_147 (Nat.le_of_ble_eq_true rfl) rfl dX7_worth_14 ?_
    refine V_pc (pc' := 17) rfl ?_
    refine V_if_ne (tgt := 24) dX7_worth_17 (by decide) (fun c5 => ?_) (fun c5 => ?_)
    · replace h := (oi h).2 c5
      refine V_iconst (v := 0) dX7_worth_24 (by decide) ?_
      exact s_X7_worth_25 hq h
    · replace h := (oi h).1 c5
      refine V_iconst (v := 1) dX7_worth_20 (by decide) ?_
      refine V_goto (tgt := 25) dX7_worth_21 (by decide) ?_
      exact s_X7_worth_25 hq h
def f_X7_worth (a0 : Nat) (i1 : Int32) (i2 : Int32) (M : zM) : Option (Int32 × zM) := f_X7_worth_0 a0 i1 i2 M
theorem c_X7_worth {L : zL} {l : Launch} {a0 : Nat} {i1 : Int32} {i2 : Int32} {M : zM} {r : Int32 × zM} (h : f_X7_worth a0 i1 i2 M = some r) : CP L l yX7_worth cX7_worth 5 (some FieldType.int) 70 M [.ref (zad L (a0)), .int (i1), .int (i2)] (some (.int r.1)) r.2 :=
  CP.of ⟨by decide +kernel, by decide +kernel⟩ (Nat.le_of_ble_eq_true rfl) fun X Q hq => s_X7_worth_0 hq h
/-! WindsparlourModel.bestNow()I -/
theorem dX7_bestNow_0 : decode cX7_bestNow 0 = .ok (.aload_n 0, 1) := by decide +kernel
theorem dX7_bestNow_1 : decode cX7_bestNow 1 = .ok (.getfield 50, 3) := by decide +kernel
theorem dX7_bestNow_4 : decode cX7_bestNow 4 = .ok (.iconst 1, 1) := by decide +kernel
theorem dX7_bestNow_5 : decode cX7_bestNow 5 = .ok (.if_icmp .eq 5, 3) := by decide +kernel
theorem dX7_bestNow_8 : decode cX7_bestNow 8 = .ok (.iconst (-1), 1) := by decide +kernel
theorem dX7_bestNow_9 : decode cX7_bestNow 9 = .ok (.ireturn, 1) := by decide +kernel
theorem dX7_bestNow_10 : decode cX7_bestNow 10 = .ok (.iconst (-1), 1) := by decide +kernel
theorem dX7_bestNow_11 : decode cX7_bestNow 11 = .ok (.istore_n 1, 1) := by decide +kernel
theorem dX7_bestNow_12 : decode cX7_bestNow 12 = .ok (.iconst 0, 1) := by decide +kernel
theorem dX7_bestNow_13 : decode cX7_bestNow 13 = .ok (.istore_n 2, 1) := by decide +kernel
theorem dX7_bestNow_14 : decode cX7_bestNow 14 = .ok (.aload_n 0, 1) := by decide +kernel
theorem dX7_bestNow_15 : decode cX7_bestNow 15 = .ok (.invokevirtual 104, 3) := by decide +kernel
theorem dX7_bestNow_18 : decode cX7_bestNow 18 = .ok (.getfield 94, 3) := by decide +kernel
theorem dX7_bestNow_21 : decode cX7_bestNow 21 = .ok (.astore_n 3, 1) := by decide +kernel
theorem dX7_bestNow_22 : decode cX7_bestNow 22 = .ok (.iconst 0, 1) := by decide +kernel
theorem dX7_bestNow_23 : decode cX7_bestNow 23 = .ok (.istore 4, 2) := by decide +kernel
theorem dX7_bestNow_25 : decode cX7_bestNow 25 = .ok (.iload 4, 2) := by decide +kernel
theorem dX7_bestNow_27 : decode cX7_bestNow 27 = .ok (.bipush 25, 2) := by decide +kernel
theorem dX7_bestNow_29 : decode cX7_bestNow 29 = .ok (.if_icmp .ge 67, 3) := by decide +kernel
theorem dX7_bestNow_32 : decode cX7_bestNow 32 = .ok (.aload_n 3, 1) := by decide +kernel
theorem dX7_bestNow_33 : decode cX7_bestNow 33 = .ok (.iload 4, 2) := by decide +kernel
theorem dX7_bestNow_35 : decode cX7_bestNow 35 = .ok (.iaload, 1) := by decide +kernel
theorem dX7_bestNow_36 : decode cX7_bestNow 36 = .ok (.ifCond .ne 6, 3) := by decide +kernel
theorem dX7_bestNow_39 : decode cX7_bestNow 39 = .ok (.goto 51, 3) := by decide +kernel
theorem dX7_bestNow_42 : decode cX7_bestNow 42 = .ok (.aload_n 0, 1) := by decide +kernel
theorem dX7_bestNow_43 : decode cX7_bestNow 43 = .ok (.invokevirtual 104, 3) := by decide +kernel
theorem dX7_bestNow_46 : decode cX7_bestNow 46 = .ok (.iload 4, 2) := by decide +kernel
theorem dX7_bestNow_48 : decode cX7_bestNow 48 = .ok (.iconst (-1), 1) := by decide +kernel
theorem dX7_bestNow_49 : decode cX7_bestNow 49 = .ok (.invokevirtual 324, 3) := by decide +kernel
theorem dX7_bestNow_52 : decode cX7_bestNow 52 = .ok (.istore 5, 2) := by decide +kernel
theorem dX7_bestNow_54 : decode cX7_bestNow 54 = .ok (.iload_n 1, 1) := by decide +kernel
theorem dX7_bestNow_55 : decode cX7_bestNow 55 = .ok (.iconst (-1), 1) := by decide +kernel
theorem dX7_bestNow_56 : decode cX7_bestNow 56 = .ok (.if_icmp .eq 28, 3) := by decide +kernel
theorem dX7_bestNow_59 : decode cX7_bestNow 59 = .ok (.iload 5, 2) := by decide +kernel
theorem dX7_bestNow_61 : decode cX7_bestNow 61 = .ok (.iload_n 2, 1) := by decide +kernel
theorem dX7_bestNow_62 : decode cX7_bestNow 62 = .ok (.if_icmp .gt 28, 3) := by decide +kernel
theorem dX7_bestNow_65 : decode cX7_bestNow 65 = .ok (.iload 5, 2) := by decide +kernel
theorem dX7_bestNow_67 : decode cX7_bestNow 67 = .ok (.iload_n 2, 1) := by decide +kernel
theorem dX7_bestNow_68 : decode cX7_bestNow 68 = .ok (.if_icmp .ne 16, 3) := by decide +kernel
theorem dX7_bestNow_71 : decode cX7_bestNow 71 = .ok (.aload_n 3, 1) := by decide +kernel
theorem dX7_bestNow_72 : decode cX7_bestNow 72 = .ok (.iload 4, 2) := by decide +kernel
theorem dX7_bestNow_74 : decode cX7_bestNow 74 = .ok (.iaload, 1) := by decide +kernel
theorem dX7_bestNow_75 : decode cX7_bestNow 75 = .ok (.aload_n 3, 1) := by decide +kernel
theorem dX7_bestNow_76 : decode cX7_bestNow 76 = .ok (.iload_n 1, 1) := by decide +kernel
theorem dX7_bestNow_77 : decode cX7_bestNow 77 = .ok (.iaload, 1) := by decide +kernel
theorem dX7_bestNow_78 : decode cX7_bestNow 78 = .ok (.if_icmp .lt 6, 3) := by decide +kernel
theorem dX7_bestNow_81 : decode cX7_bestNow 81 = .ok (.goto 9, 3) := by decide +kernel
theorem dX7_bestNow_84 : decode cX7_bestNow 84 = .ok (.iload 4, 2) := by decide +kernel
theorem dX7_bestNow_86 : decode cX7_bestNow 86 = .ok (.istore_n 1, 1) := by decide +kernel
theorem dX7_bestNow_87 : decode cX7_bestNow 87 = .ok (.iload 5, 2) := by decide +kernel
theorem dX7_bestNow_89 : decode cX7_bestNow 89 = .ok (.istore_n 2, 1) := by decide +kernel
theorem dX7_bestNow_90 : decode cX7_bestNow 90 = .ok (.iinc 4 1, 3) := by decide +kernel
theorem dX7_bestNow_93 : decode cX7_bestNow 93 = .ok (.goto (-68), 3) := by decide +kernel
theorem dX7_bestNow_96 : decode cX7_bestNow 96 = .ok (.iload_n 1, 1) := by decide +kernel
theorem dX7_bestNow_97 : decode cX7_bestNow 97 = .ok (.ireturn, 1) := by decide +kernel
def f_X7_bestNow_84 (K25 : Nat → Int32 → Int32 → Nat → Int32 → zM → Option (Int32 × zM)) (a0 : Nat) (a3 : Nat) (i4 : Int32) (i5 : Int32) (M : zM) : Option (Int32 × zM) :=
  K25 a0 i4 i5 a3 ((i4 + (1 : Int32))) M
set_option maxRecDepth 20000 in
set_option maxHeartbeats 4000000 in
theorem s_X7_bestNow_84 {L : zL} {X : zX} {M0 : zM} {N : Nat × Nat} {Q : State → Prop} {r : Int32 × zM} {K25 : Nat → Int32 → Int32 → Nat → Int32 → zM → Option (Int32 × zM)} (hK25 : ∀ (a0 : Nat) (i1 : Int32) (i2 : Int32) (a3 : Nat) (i4 : Int32) (M : zM), K25 a0 i1 i2 a3 i4 M = some r → V L X yX7_bestNow cX7_bestNow 6 (some FieldType.int) 133 M0 N Q M 25 [(0, .ref (zad L (a0))), (1, .int (i1)), (2, .int (i2)), (3, .ref (zad L (a3))), (4, .int (i4))] []) (hq : vQ L X M0 N Q (some (.int r.1)) r.2) {a0 : Nat} {a3 : Nat} {i4 : Int32} {i5 : Int32} {M : zM} (h : f_X7_bestNow_84 K25 a0 a3 i4 i5 M = some r) : V L X yX7_bestNow cX7_bestNow 6 (some FieldType.int) 133 M0 N Q M 84 [(0, .ref (zad L (a0))), (3, .ref (zad L (a3))), (4, .int (i4)), (5, .int (i5))] [] := by
  unfold f_X7_bestNow_84 at h
  refine V_iload dX7_bestNow_84 2 rfl ?_
  refine V_istore_n (ls' := [(1, .int (i4)), (0, .ref (zad L (a0))), (3, .ref (zad L (a3))), (4, .int (i4)), (5, .int (i5))]) dX7_bestNow_86 rfl (by decide) rfl ?_
  refine V_iload dX7_bestNow_87 4 rfl ?_
  refine V_istore_n (ls' := [(2, .int (i5)), (1, .int (i4)), (0, .ref (zad L (a0))), (3, .ref (zad L (a3))), (4, .int (i4)), (5, .int (i5))]) dX7_bestNow_89 rfl (by decide) rfl ?_
  refine V_iinc (v := i4 + (1 : Int32)) (ls' := [(4, .int ((i4 + (1 : Int32)))), (2, .int (i5)), (1, .int (i4)), (0, .ref (zad L (a0))), (3, .ref (zad L (a3))), (5, .int (i5))]) dX7_bestNow_90 4 rfl (by rfl) (by decide) rfl ?_
  refine V_goto (tgt := 25) dX7_bestNow_93 (by decide) ?_
  refine V_sub [3, 2, 1, 4, 0] rfl ?_
  exact hK25 _ _ _ _ _ _ h
def f_X7_bestNow_25 (n : Nat) (a0 : Nat) (i1 : Int32) (i2 : Int32) (a3 : Nat) (i4 : Int32) (M : zM) : Option (Int32 × zM) := match n with
  | 0 => none
  | n + 1 =>
    if ((25 : Int32)) ≤ i4 then
    some (i1, M)
    else
    (lA 0 M a3 i4).bind fun v1 =>
    if v1 = 0 then
    f_X7_bestNow_25 n a0 i1 i2 a3 ((i4 + (1 : Int32))) M
    else
    if mK M a0 = 13 then
    (f_X7_its a0 M).bind fun r2 =>
    if mK r2.2 r2.1 = 12 then
    (f_X6_farWith r2.1 i4 ((-1 : Int32)) r2.2).bind fun r4 =>
    if i1 = ((-1 : Int32)) then
    f_X7_bestNow_84 (f_X7_bestNow_25 n) a0 a3 i4 r4.1 r4.2
    else
    if i2 < r4.1 then
    f_X7_bestNow_25 n a0 i1 i2 a3 ((i4 + (1 : Int32))) r4.2
    else
    if r4.1 = i2 then
    (lA 0 r4.2 a3 i4).bind fun v6 =>
    (lA 0 r4.2 a3 i1).bind fun v7 =>
    if v6 < v7 then
    f_X7_bestNow_84 (f_X7_bestNow_25 n) a0 a3 i4 r4.1 r4.2
    else
    f_X7_bestNow_25 n a0 i1 i2 a3 ((i4 + (1 : Int32))) r4.2
    else
    f_X7_bestNow_84 (f_X7_bestNow_25 n) a0 a3 i4 r4.1 r4.2
    else none
    else none
set_option maxRecDepth 20000 in
set_option maxHeartbeats 4000000 in
theorem s_X7_bestNow_25 {L : zL} {X : zX} {M0 : zM} {N : Nat × Nat} {Q : State → Prop} {r : Int32 × zM} (hq : vQ L X M0 N Q (some (.int r.1)) r.2) {n : Nat} {a0 : Nat} {i1 : Int32} {i2 : Int32} {a3 : Nat} {i4 : Int32} {M : zM} : f_X7_bestNow_25 n a0 i1 i2 a3 i4 M = some r → V L X yX7_bestNow cX7_bestNow 6 (some FieldType.int) 133 M0 N Q M 25 [(0, .ref (zad L (a0))), (1, .int (i1)), (2, .int (i2)), (3, .ref (zad L (a3))), (4, .int (i4))] [] := by
  induction n generalizing a0 i1 i2 a3 i4 M with
  | zero =>
    intro h
    rw [f_X7_bestNow_25] at h
    cases h
  | succ n ih0 =>
    intro h
    have ih : ∀ (a0 : Nat) (i1 : Int32) (i2 : Int32) (a3 : Nat) (i4 : Int32) (M : zM), f_X7_bestNow_25 n a0 i1 i2 a3 i4 M = some r → V L X yX7_bestNow cX7_bestNow 6 (some FieldType.int) 133 M0 N Q M 25 [(0, .ref (zad L (a0))), (1, .int (i1)), (2, .int (i2)), (3, .ref (zad L (a3))), (4, .int (i4))] [] := fun a0 i1 i2 a3 i4 M h => ih0 h
    rw [f_X7_bestNow_25] at h
    refine V_iload dX7_bestNow_25 4 rfl ?_
    refine V_bipush (v := 25) dX7_bestNow_27 (by decide) ?_
    refine V_icmp_ge (tgt := 96) dX7_bestNow_29 (by decide) (fun c13 => ?_) (fun c13 => ?_)
    · replace h := (oi h).1 c13
      refine V_iload_n dX7_bestNow_96 rfl 1 rfl ?_
      obtain rfl := Option.some.inj h
      exact V_iret rfl hq dX7_bestNow_97
    · replace h := (oi h).2 c13
      refine V_aload_n dX7_bestNow_32 rfl 3 rfl ?_
      refine V_iload dX7_bestNow_33 4 rfl ?_
      replace h := ob h
      obtain ⟨v1, e_v1, h⟩ := h
      refine V_iald e_v1 dX7_bestNow_35 ?_
      refine V_pc (pc' := 36) rfl ?_
      refine V_if_ne (tgt := 42) dX7_bestNow_36 (by decide) (fun c12 => ?_) (fun c12 => ?_)
      · replace h := (oi h).2 c12
        refine V_aload_n dX7_bestNow_42 rfl 0 rfl ?_
        replace h := ox h
        obtain ⟨c3, h⟩ := h
        replace h := ob h
        obtain ⟨r2, e_r2, h⟩ := h
        refine V_callV_A (As := []) (rest := []) (c_X7_its e_r2) zc_X7_its rfl (by decide) rfl (by decide) (Or.inl c3) zm_X7_104 (Nat.le_of_ble_eq_true rfl) rfl dX7_bestNow_43 ?_
        refine V_pc (pc' := 46) rfl ?_
        refine V_iload dX7_bestNow_46 4 rfl ?_
        refine V_iconst (v := -1) dX7_bestNow_48 (by decide) ?_
        replace h := ox h
        obtain ⟨c5, h⟩ := h
        replace h := ob h
        obtain ⟨r4, e_r4, h⟩ := h
        refine V_callV_I (As := [.int (i4), .int ((-1 : Int32))]) (rest := []) (c_X6_farWith e_r4) zc_X6_farWith rfl (by decide) rfl (by decide) (Or.inl c5) zm_X7_324 (Nat.le_of_ble_eq_true rfl) rfl dX7_bestNow_49 ?_
        refine V_pc (pc' := 52) rfl ?_
        refine V_istore (ls' := [(5, .int (r4.1)), (0, .ref (zad L (a0))), (1, .int (i1)), (2, .int (i2)), (3, .ref (zad L (a3))), (4, .int (i4))]) dX7_bestNow_52 (by decide) rfl ?_
        refine V_iload_n dX7_bestNow_54 rfl 2 rfl ?_
        refine V_iconst (v := -1) dX7_bestNow_55 (by decide) ?_
        refine V_icmp_eq (tgt := 84) dX7_bestNow_56 (by decide) (fun c11 => ?_) (fun c11 => ?_)
        · replace h := (oi h).1 c11
          refine V_sub [1, 4, 5, 0] rfl ?_
          exact s_X7_bestNow_84 ih hq h
        · replace h := (oi h).2 c11
          refine V_iload dX7_bestNow_59 0 rfl ?_
          refine V_iload_n dX7_bestNow_61 rfl 3 rfl ?_
          refine V_icmp_gt (tgt := 90) dX7_bestNow_62 (by decide) (fun c10 => ?_) (fun c10 => ?_)
          · replace h := (oi h).1 c10
            refine V_iinc (v := i4 + (1 : Int32)) (ls' := [(4, .int ((i4 + (1 : Int32)))), (5, .int (r4.1)), (0, .ref (zad L (a0))), (1, .int (i1)), (2, .int (i2)), (3, .ref (zad L (a3)))]) dX7_bestNow_90 5 rfl (by rfl) (by decide) rfl ?_
            refine V_goto (tgt := 25) dX7_bestNow_93 (by decide) ?_
            refine V_sub [2, 3, 4, 5, 0] rfl ?_
            exact ih _ _ _ _ _ _ h
          · replace h := (oi h).2 c10
            refine V_iload dX7_bestNow_65 0 rfl ?_
            refine V_iload_n dX7_bestNow_67 rfl 3 rfl ?_
            refine V_icmp_ne (tgt := 84) dX7_bestNow_68 (by decide) (fun c9 => ?_) (fun c9 => ?_)
            · replace h := (oi h).2 c9
              refine V_sub [1, 4, 5, 0] rfl ?_
              exact s_X7_bestNow_84 ih hq h
            · replace h := (oi h).1 c9
              refine V_aload_n dX7_bestNow_71 rfl 4 rfl ?_
              refine V_iload dX7_bestNow_72 5 rfl ?_
              replace h := ob h
              obtain ⟨v6, e_v6, h⟩ := h
              refine V_iald e_v6 dX7_bestNow_74 ?_
              refine V_pc (pc' := 75) rfl ?_
              refine V_aload_n dX7_bestNow_75 rfl 4 rfl ?_
              refine V_iload_n dX7_bestNow_76 rfl 2 rfl ?_
              replace h := ob h
              obtain ⟨v7, e_v7, h⟩ := h
              refine V_iald e_v7 dX7_bestNow_77 ?_
              refine V_pc (pc' := 78) rfl ?_
              refine V_icmp_lt (tgt := 84) dX7_bestNow_78 (by decide) (fun c8 => ?_) (fun c8 => ?_)
              · replace h := (oi h).1 c8
                refine V_sub [1, 4, 5, 0] rfl ?_
                exact s_X7_bestNow_84 ih hq h
              · replace h := (oi h).2 c8
                refine V_goto (tgt := 90) dX7_bestNow_81 (by decide) ?_
                refine V_iinc (v := i4 + (1 : Int32)) (ls' := [(4, .int ((i4 + (1 : Int32)))), (5, .int (r4.1)), (0, .ref (zad L (a0))), (1, .int (i1)), (2, .int (i2)), (3, .ref (zad L (a3)))]) dX7_bestNow_90 5 rfl (by rfl) (by decide) rfl ?_
                refine V_goto (tgt := 25) dX7_bestNow_93 (by decide) ?_
                refine V_sub [2, 3, 4, 5, 0] rfl ?_
                exact ih _ _ _ _ _ _ h
      · replace h := (oi h).1 c12
        refine V_goto (tgt := 90) dX7_bestNow_39 (by decide) ?_
        refine V_iinc (v := i4 + (1 : Int32)) (ls' := [(4, .int ((i4 + (1 : Int32)))), (0, .ref (zad L (a0))), (1, .int (i1)), (2, .int (i2)), (3, .ref (zad L (a3)))]) dX7_bestNow_90 4 rfl (by rfl) (by decide) rfl ?_
        refine V_goto (tgt := 25) dX7_bestNow_93 (by decide) ?_
        refine V_sub [1, 2, 3, 4, 0] rfl ?_
        exact ih _ _ _ _ _ _ h
def f_X7_bestNow_0 (a0 : Nat) (M : zM) : Option (Int32 × zM) :=
  (gI 13 6 M a0).bind fun v1 =>
  if v1 = ((1 : Int32)) then
  if mK M a0 = 13 then
  (f_X7_its a0 M).bind fun r2 =>
  (gR 12 2 r2.2 r2.1).bind fun v4 =>
  f_X7_bestNow_25 zN a0 ((-1 : Int32)) ((0 : Int32)) v4 ((0 : Int32)) r2.2
  else none
  else
  some ((-1 : Int32), M)
set_option maxRecDepth 20000 in
set_option maxHeartbeats 4000000 in
theorem s_X7_bestNow_0 {L : zL} {X : zX} {M0 : zM} {N : Nat × Nat} {Q : State → Prop} {r : Int32 × zM} (hq : vQ L X M0 N Q (some (.int r.1)) r.2) {a0 : Nat} {M : zM} (h : f_X7_bestNow_0 a0 M = some r) : V L X yX7_bestNow cX7_bestNow 6 (some FieldType.int) 133 M0 N Q M 0 [(0, .ref (zad L (a0)))] [] := by
  unfold f_X7_bestNow_0 at h
  refine V_aload_n dX7_bestNow_0 rfl 0 rfl ?_
  replace h := ob h
  obtain ⟨v1, e_v1, h⟩ := h
  refine V_getI zf_13_6 zl_X7_50 e_v1 dX7_bestNow_1 ?_
  refine V_pc (pc' := 4) rfl ?_
  refine V_iconst (v := 1) dX7_bestNow_4 (by decide) ?_
  refine V_icmp_eq (tgt := 10) dX7_bestNow_5 (by decide) (fun c5 => ?_) (fun c5 => ?_)
  · replace h := (oi h).1 c5
    refine V_iconst (v := -1) dX7_bestNow_10 (by decide) ?_
    refine V_istore_n (ls' := [(1, .int ((-1 : Int32))), (0, .ref (zad L (a0)))]) dX7_bestNow_11 rfl (by decide) rfl ?_
    refine V_iconst (v := 0) dX7_bestNow_12 (by decide) ?_
    refine V_istore_n (ls' := [(2, .int ((0 : Int32))), (1, .int ((-1 : Int32))), (0, .ref (zad L (a0)))]) dX7_bestNow_13 rfl (by decide) rfl ?_
    refine V_aload_n dX7_bestNow_14 rfl 2 rfl ?_
    replace h := ox h
    obtain ⟨c3, h⟩ := h
    replace h := ob h
    obtain ⟨r2, e_r2, h⟩ := h
    refine V_callV_A (As := []) (rest := []) (c_X7_its e_r2) zc_X7_its rfl (by decide) rfl (by decide) (Or.inl c3) zm_X7_104 (Nat.le_of_ble_eq_true rfl) rfl dX7_bestNow_15 ?_
    refine V_pc (pc' := 18) rfl ?_
    replace h := ob h
    obtain ⟨v4, e_v4, h⟩ := h
    refine V_getR zf_12_2 zl_X7_94 e_v4 dX7_bestNow_18 ?_
    refine V_pc (pc' := 21) rfl ?_
    refine V_astore_n (ls' := [(3, .ref (zad L (v4))), (2, .int ((0 : Int32))), (1, .int ((-1 : Int32))), (0, .ref (zad L (a0)))]) dX7_bestNow_21 rfl (by decide) rfl ?_
    refine V_iconst (v := 0) dX7_bestNow_22 (by decide) ?_
    refine V_istore (ls' := [(4, .int ((0 : Int32))), (3, .ref (zad L (v4))), (2, .int ((0 : Int32))), (1, .int ((-1 : Int32))), (0, .ref (zad L (a0)))]) dX7_bestNow_23 (by decide) rfl ?_
    refine V_sub [4, 3, 2, 1, 0] rfl ?_
    exact s_X7_bestNow_25 hq h
  · replace h := (oi h).2 c5
    refine V_iconst (v := -1) dX7_bestNow_8 (by decide) ?_
    obtain rfl := Option.some.inj h
    exact V_iret rfl hq dX7_bestNow_9
def f_X7_bestNow (a0 : Nat) (M : zM) : Option (Int32 × zM) := f_X7_bestNow_0 a0 M
theorem c_X7_bestNow {L : zL} {l : Launch} {a0 : Nat} {M : zM} {r : Int32 × zM} (h : f_X7_bestNow a0 M = some r) : CP L l yX7_bestNow cX7_bestNow 6 (some FieldType.int) 133 M [.ref (zad L (a0))] (some (.int r.1)) r.2 :=
  CP.of ⟨by decide +kernel, by decide +kernel⟩ (Nat.le_of_ble_eq_true rfl) fun X Q hq => s_X7_bestNow_0 hq h
/-! WindsparlourModel.best()I -/
theorem dX7_best_0 : decode cX7_best 0 = .ok (.aload_n 0, 1) := by decide +kernel
theorem dX7_best_1 : decode cX7_best 1 = .ok (.iconst 0, 1) := by decide +kernel
theorem dX7_best_2 : decode cX7_best 2 = .ok (.putfield 65, 3) := by decide +kernel
theorem dX7_best_5 : decode cX7_best 5 = .ok (.aload_n 0, 1) := by decide +kernel
theorem dX7_best_6 : decode cX7_best 6 = .ok (.invokevirtual 327, 3) := by decide +kernel
theorem dX7_best_9 : decode cX7_best 9 = .ok (.ireturn, 1) := by decide +kernel
def f_X7_best_0 (a0 : Nat) (M : zM) : Option (Int32 × zM) :=
  (pI 13 0 M a0 ((0 : Int32))).bind fun M1 =>
  if mK M1 a0 = 13 then
  (f_X7_bestNow a0 M1).bind fun r2 =>
  some (r2.1, r2.2)
  else none
set_option maxRecDepth 20000 in
set_option maxHeartbeats 4000000 in
theorem s_X7_best_0 {L : zL} {X : zX} {M0 : zM} {N : Nat × Nat} {Q : State → Prop} {r : Int32 × zM} (hq : vQ L X M0 N Q (some (.int r.1)) r.2) {a0 : Nat} {M : zM} (h : f_X7_best_0 a0 M = some r) : V L X yX7_best cX7_best 1 (some FieldType.int) 134 M0 N Q M 0 [(0, .ref (zad L (a0)))] [] := by
  unfold f_X7_best_0 at h
  refine V_aload_n dX7_best_0 rfl 0 rfl ?_
  refine V_iconst (v := 0) dX7_best_1 (by decide) ?_
  replace h := ob h
  obtain ⟨M1, e_M1, h⟩ := h
  refine V_putI zf_13_0 zl_X7_65 (Or.inl rfl) rfl e_M1 dX7_best_2 ?_
  refine V_pc (pc' := 5) rfl ?_
  refine V_aload_n dX7_best_5 rfl 0 rfl ?_
  replace h := ox h
  obtain ⟨c3, h⟩ := h
  replace h := ob h
  obtain ⟨r2, e_r2, h⟩ := h
  refine V_callV_I (As := []) (rest := []) (c_X7_bestNow e_r2) zc_X7_bestNow rfl (by decide) rfl (by decide) (Or.inl c3) zm_X7_327 (Nat.le_of_ble_eq_true rfl) rfl dX7_best_6 ?_
  refine V_pc (pc' := 9) rfl ?_
  obtain rfl := Option.some.inj h
  exact V_iret rfl hq dX7_best_9
def f_X7_best (a0 : Nat) (M : zM) : Option (Int32 × zM) := f_X7_best_0 a0 M
theorem c_X7_best {L : zL} {l : Launch} {a0 : Nat} {M : zM} {r : Int32 × zM} (h : f_X7_best a0 M = some r) : CP L l yX7_best cX7_best 1 (some FieldType.int) 134 M [.ref (zad L (a0))] (some (.int r.1)) r.2 :=
  CP.of ⟨by decide +kernel, by decide +kernel⟩ (Nat.le_of_ble_eq_true rfl) fun X Q hq => s_X7_best_0 hq h
/-! WindsparlourModel.isSafe(II)Z -/
theorem dX7_isSafe_0 : decode cX7_isSafe 0 = .ok (.aload_n 0, 1) := by decide +kernel
theorem dX7_isSafe_1 : decode cX7_isSafe 1 = .ok (.iload_n 1, 1) := by decide +kernel
theorem dX7_isSafe_2 : decode cX7_isSafe 2 = .ok (.invokestatic 174, 3) := by decide +kernel
theorem dX7_isSafe_5 : decode cX7_isSafe 5 = .ok (.iconst 1, 1) := by decide +kernel
theorem dX7_isSafe_6 : decode cX7_isSafe 6 = .ok (.invokevirtual 85, 3) := by decide +kernel
theorem dX7_isSafe_9 : decode cX7_isSafe 9 = .ok (.ifCond .ne 23, 3) := by decide +kernel
theorem dX7_isSafe_12 : decode cX7_isSafe 12 = .ok (.aload_n 0, 1) := by decide +kernel
theorem dX7_isSafe_13 : decode cX7_isSafe 13 = .ok (.iload_n 2, 1) := by decide +kernel
theorem dX7_isSafe_14 : decode cX7_isSafe 14 = .ok (.invokestatic 147, 3) := by decide +kernel
theorem dX7_isSafe_17 : decode cX7_isSafe 17 = .ok (.ifCond .ne 7, 3) := by decide +kernel
theorem dX7_isSafe_20 : decode cX7_isSafe 20 = .ok (.iconst 1, 1) := by decide +kernel
theorem dX7_isSafe_21 : decode cX7_isSafe 21 = .ok (.goto 4, 3) := by decide +kernel
theorem dX7_isSafe_24 : decode cX7_isSafe 24 = .ok (.iconst 0, 1) := by decide +kernel
theorem dX7_isSafe_25 : decode cX7_isSafe 25 = .ok (.iconst 2, 1) := by decide +kernel
theorem dX7_isSafe_26 : decode cX7_isSafe 26 = .ok (.invokevirtual 68, 3) := by decide +kernel
theorem dX7_isSafe_29 : decode cX7_isSafe 29 = .ok (.ifCond .eq 5, 3) := by decide +kernel
theorem dX7_isSafe_32 : decode cX7_isSafe 32 = .ok (.iconst 0, 1) := by decide +kernel
theorem dX7_isSafe_33 : decode cX7_isSafe 33 = .ok (.ireturn, 1) := by decide +kernel
theorem dX7_isSafe_34 : decode cX7_isSafe 34 = .ok (.iconst 0, 1) := by decide +kernel
theorem dX7_isSafe_35 : decode cX7_isSafe 35 = .ok (.istore_n 3, 1) := by decide +kernel
theorem dX7_isSafe_36 : decode cX7_isSafe 36 = .ok (.iload_n 3, 1) := by decide +kernel
theorem dX7_isSafe_37 : decode cX7_isSafe 37 = .ok (.iconst 4, 1) := by decide +kernel
theorem dX7_isSafe_38 : decode cX7_isSafe 38 = .ok (.if_icmp .ge 46, 3) := by decide +kernel
theorem dX7_isSafe_41 : decode cX7_isSafe 41 = .ok (.iload_n 3, 1) := by decide +kernel
theorem dX7_isSafe_42 : decode cX7_isSafe 42 = .ok (.iload_n 1, 1) := by decide +kernel
theorem dX7_isSafe_43 : decode cX7_isSafe 43 = .ok (.if_icmp .eq 35, 3) := by decide +kernel
theorem dX7_isSafe_46 : decode cX7_isSafe 46 = .ok (.aload_n 0, 1) := by decide +kernel
theorem dX7_isSafe_47 : decode cX7_isSafe 47 = .ok (.getfield 38, 3) := by decide +kernel
theorem dX7_isSafe_50 : decode cX7_isSafe 50 = .ok (.iload_n 3, 1) := by decide +kernel
theorem dX7_isSafe_51 : decode cX7_isSafe 51 = .ok (.aaload, 1) := by decide +kernel
theorem dX7_isSafe_52 : decode cX7_isSafe 52 = .ok (.getfield 151, 3) := by decide +kernel
theorem dX7_isSafe_55 : decode cX7_isSafe 55 = .ok (.ifCond .eq 23, 3) := by decide +kernel
theorem dX7_isSafe_58 : decode cX7_isSafe 58 = .ok (.aload_n 0, 1) := by decide +kernel
theorem dX7_isSafe_59 : decode cX7_isSafe 59 = .ok (.getfield 38, 3) := by decide +kernel
theorem dX7_isSafe_62 : decode cX7_isSafe 62 = .ok (.iload_n 3, 1) := by decide +kernel
theorem dX7_isSafe_63 : decode cX7_isSafe 63 = .ok (.aaload, 1) := by decide +kernel
theorem dX7_isSafe_64 : decode cX7_isSafe 64 = .ok (.getfield 140, 3) := by decide +kernel
theorem dX7_isSafe_67 : decode cX7_isSafe 67 = .ok (.iload_n 2, 1) := by decide +kernel
theorem dX7_isSafe_68 : decode cX7_isSafe 68 = .ok (.lshr, 1) := by decide +kernel
theorem dX7_isSafe_69 : decode cX7_isSafe 69 = .ok (.lconst 1, 1) := by decide +kernel
theorem dX7_isSafe_70 : decode cX7_isSafe 70 = .ok (.land, 1) := by decide +kernel
theorem dX7_isSafe_71 : decode cX7_isSafe 71 = .ok (.lconst 0, 1) := by decide +kernel
theorem dX7_isSafe_72 : decode cX7_isSafe 72 = .ok (.lcmp, 1) := by decide +kernel
theorem dX7_isSafe_73 : decode cX7_isSafe 73 = .ok (.ifCond .ne 5, 3) := by decide +kernel
theorem dX7_isSafe_76 : decode cX7_isSafe 76 = .ok (.iconst 0, 1) := by decide +kernel
theorem dX7_isSafe_77 : decode cX7_isSafe 77 = .ok (.ireturn, 1) := by decide +kernel
theorem dX7_isSafe_78 : decode cX7_isSafe 78 = .ok (.iinc 3 1, 3) := by decide +kernel
theorem dX7_isSafe_81 : decode cX7_isSafe 81 = .ok (.goto (-45), 3) := by decide +kernel
theorem dX7_isSafe_84 : decode cX7_isSafe 84 = .ok (.iconst 1, 1) := by decide +kernel
theorem dX7_isSafe_85 : decode cX7_isSafe 85 = .ok (.ireturn, 1) := by decide +kernel
def f_X7_isSafe_36 (n : Nat) (a0 : Nat) (i1 : Int32) (i2 : Int32) (i3 : Int32) (M : zM) : Option (Int32 × zM) := match n with
  | 0 => none
  | n + 1 =>
    if ((4 : Int32)) ≤ i3 then
    some ((1 : Int32), M)
    else
    if i3 = i1 then
    f_X7_isSafe_36 n a0 i1 i2 ((i3 + (1 : Int32))) M
    else
    (gR 13 1 M a0).bind fun v1 =>
    (lQ 2 M v1 i3).bind fun v2 =>
    (gI 12 6 M v2).bind fun v3 =>
    if v3 = 0 then
    f_X7_isSafe_36 n a0 i1 i2 ((i3 + (1 : Int32))) M
    else
    (gR 13 1 M a0).bind fun v4 =>
    (lQ 2 M v4 i3).bind fun v5 =>
    (gJ 12 5 M v5).bind fun v6 =>
    if ((lg_cmp ((((v6 >>> (i2.toInt64 &&& 63))) &&& ((1 : Int64)))) ((0 : Int64)))) = 0 then
    some ((0 : Int32), M)
    else
    f_X7_isSafe_36 n a0 i1 i2 ((i3 + (1 : Int32))) M
set_option maxRecDepth 20000 in
set_option maxHeartbeats 4000000 in
theorem s_X7_isSafe_36 {L : zL} {X : zX} {M0 : zM} {N : Nat × Nat} {Q : State → Prop} {r : Int32 × zM} (hq : vQ L X M0 N Q (some (.int r.1)) r.2) {n : Nat} {a0 : Nat} {i1 : Int32} {i2 : Int32} {i3 : Int32} {M : zM} : f_X7_isSafe_36 n a0 i1 i2 i3 M = some r → V L X yX7_isSafe cX7_isSafe 4 (some FieldType.boolean) 3 M0 N Q M 36 [(0, .ref (zad L (a0))), (1, .int (i1)), (2, .int (i2)), (3, .int (i3))] [] := by
  induction n generalizing a0 i1 i2 i3 M with
  | zero =>
    intro h
    rw [f_X7_isSafe_36] at h
    cases h
  | succ n ih0 =>
    intro h
    have ih : ∀ (a0 : Nat) (i1 : Int32) (i2 : Int32) (i3 : Int32) (M : zM), f_X7_isSafe_36 n a0 i1 i2 i3 M = some r → V L X yX7_isSafe cX7_isSafe 4 (some FieldType.boolean) 3 M0 N Q M 36 [(0, .ref (zad L (a0))), (1, .int (i1)), (2, .int (i2)), (3, .int (i3))] [] := fun a0 i1 i2 i3 M h => ih0 h
    rw [f_X7_isSafe_36] at h
    refine V_iload_n dX7_isSafe_36 rfl 3 rfl ?_
    refine V_iconst (v := 4) dX7_isSafe_37 (by decide) ?_
    refine V_icmp_ge (tgt := 84) dX7_isSafe_38 (by decide) (fun c10 => ?_) (fun c10 => ?_)
    · replace h := (oi h).1 c10
      refine V_iconst (v := 1) dX7_isSafe_84 (by decide) ?_
      obtain rfl := Option.some.inj h
      exact V_zret (ty := .boolean) rfl rfl hq dX7_isSafe_85
    · replace h := (oi h).2 c10
      refine V_iload_n dX7_isSafe_41 rfl 3 rfl ?_
      refine V_iload_n dX7_isSafe_42 rfl 1 rfl ?_
      refine V_icmp_eq (tgt := 78) dX7_isSafe_43 (by decide) (fun c9 => ?_) (fun c9 => ?_)
      · replace h := (oi h).1 c9
        refine V_iinc (v := i3 + (1 : Int32)) (ls' := [(3, .int ((i3 + (1 : Int32)))), (0, .ref (zad L (a0))), (1, .int (i1)), (2, .int (i2))]) dX7_isSafe_78 3 rfl (by rfl) (by decide) rfl ?_
        refine V_goto (tgt := 36) dX7_isSafe_81 (by decide) ?_
        refine V_sub [1, 2, 3, 0] rfl ?_
        exact ih _ _ _ _ _ h
      · replace h := (oi h).2 c9
        refine V_aload_n dX7_isSafe_46 rfl 0 rfl ?_
        replace h := ob h
        obtain ⟨v1, e_v1, h⟩ := h
        refine V_getR zf_13_1 zl_X7_38 e_v1 dX7_isSafe_47 ?_
        refine V_pc (pc' := 50) rfl ?_
        refine V_iload_n dX7_isSafe_50 rfl 3 rfl ?_
        replace h := ob h
        obtain ⟨v2, e_v2, h⟩ := h
        refine V_aald (by decide) e_v2 dX7_isSafe_51 ?_
        refine V_pc (pc' := 52) rfl ?_
        replace h := ob h
        obtain ⟨v3, e_v3, h⟩ := h
        refine V_getI zf_12_6 zl_X7_151 e_v3 dX7_isSafe_52 ?_
        refine V_pc (pc' := 55) rfl ?_
        refine V_if_eq (tgt := 78) dX7_isSafe_55 (by decide) (fun c8 => ?_) (fun c8 => ?_)
        · replace h := (oi h).1 c8
          refine V_iinc (v := i3 + (1 : Int32)) (ls' := [(3, .int ((i3 + (1 : Int32)))), (0, .ref (zad L (a0))), (1, .int (i1)), (2, .int (i2))]) dX7_isSafe_78 3 rfl (by rfl) (by decide) rfl ?_
          refine V_goto (tgt := 36) dX7_isSafe_81 (by decide) ?_
          refine V_sub [1, 2, 3, 0] rfl ?_
          exact ih _ _ _ _ _ h
        · replace h := (oi h).2 c8
          refine V_aload_n dX7_isSafe_58 rfl 0 rfl ?_
          replace h := ob h
          obtain ⟨v4, e_v4, h⟩ := h
          refine V_getR zf_13_1 zl_X7_38 e_v4 dX7_isSafe_59 ?_
          refine V_pc (pc' := 62) rfl ?_
          refine V_iload_n dX7_isSafe_62 rfl 3 rfl ?_
          replace h := ob h
          obtain ⟨v5, e_v5, h⟩ := h
          refine V_aald (by decide) e_v5 dX7_isSafe_63 ?_
          refine V_pc (pc' := 64) rfl ?_
          replace h := ob h
          obtain ⟨v6, e_v6, h⟩ := h
          refine V_getJ zf_12_5 zl_X7_140 e_v6 dX7_isSafe_64 ?_
          refine V_pc (pc' := 67) rfl ?_
          refine V_iload_n dX7_isSafe_67 rfl 2 rfl ?_
          refine V_lshr dX7_isSafe_68 ?_
          refine V_lconst (v := 1) dX7_isSafe_69 (by decide) ?_
          refine V_land dX7_isSafe_70 ?_
          refine V_lconst (v := 0) dX7_isSafe_71 (by decide) ?_
          refine V_lcmp dX7_isSafe_72 ?_
          refine V_if_ne (tgt := 78) dX7_isSafe_73 (by decide) (fun c7 => ?_) (fun c7 => ?_)
          · replace h := (oi h).2 c7
            refine V_iinc (v := i3 + (1 : Int32)) (ls' := [(3, .int ((i3 + (1 : Int32)))), (0, .ref (zad L (a0))), (1, .int (i1)), (2, .int (i2))]) dX7_isSafe_78 3 rfl (by rfl) (by decide) rfl ?_
            refine V_goto (tgt := 36) dX7_isSafe_81 (by decide) ?_
            refine V_sub [1, 2, 3, 0] rfl ?_
            exact ih _ _ _ _ _ h
          · replace h := (oi h).1 c7
            refine V_iconst (v := 0) dX7_isSafe_76 (by decide) ?_
            obtain rfl := Option.some.inj h
            exact V_zret (ty := .boolean) rfl rfl hq dX7_isSafe_77
def f_X7_isSafe_25 (a0 : Nat) (i1 : Int32) (i2 : Int32) (i_0 : Int32) (a_1 : Nat) (M : zM) : Option (Int32 × zM) :=
  if mK M a_1 = 13 then
  (f_X7_refuse a_1 i_0 ((2 : Int32)) M).bind fun r1 =>
  if r1.1 = 0 then
  f_X7_isSafe_36 zN a0 i1 i2 ((0 : Int32)) r1.2
  else
  some ((0 : Int32), r1.2)
  else none
set_option maxRecDepth 20000 in
set_option maxHeartbeats 4000000 in
theorem s_X7_isSafe_25 {L : zL} {X : zX} {M0 : zM} {N : Nat × Nat} {Q : State → Prop} {r : Int32 × zM} (hq : vQ L X M0 N Q (some (.int r.1)) r.2) {a0 : Nat} {i1 : Int32} {i2 : Int32} {i_0 : Int32} {a_1 : Nat} {M : zM} (h : f_X7_isSafe_25 a0 i1 i2 i_0 a_1 M = some r) : V L X yX7_isSafe cX7_isSafe 4 (some FieldType.boolean) 3 M0 N Q M 25 [(0, .ref (zad L (a0))), (1, .int (i1)), (2, .int (i2))] [.int (i_0), .ref (zad L (a_1))] := by
  unfold f_X7_isSafe_25 at h
  refine V_iconst (v := 2) dX7_isSafe_25 (by decide) ?_
  replace h := ox h
  obtain ⟨c2, h⟩ := h
  replace h := ob h
  obtain ⟨r1, e_r1, h⟩ := h
  refine V_callV_I (As := [.int (i_0), .int ((2 : Int32))]) (rest := []) (c_X7_refuse e_r1) zc_X7_refuse rfl (by decide) rfl (by decide) (Or.inl c2) zm_X7_68 (Nat.le_of_ble_eq_true rfl) rfl dX7_isSafe_26 ?_
  refine V_pc (pc' := 29) rfl ?_
  refine V_if_eq (tgt := 34) dX7_isSafe_29 (by decide) (fun c3 => ?_) (fun c3 => ?_)
  · replace h := (oi h).1 c3
    refine V_iconst (v := 0) dX7_isSafe_34 (by decide) ?_
    refine V_istore_n (ls' := [(3, .int ((0 : Int32))), (0, .ref (zad L (a0))), (1, .int (i1)), (2, .int (i2))]) dX7_isSafe_35 rfl (by decide) rfl ?_
    refine V_sub [1, 2, 3, 0] rfl ?_
    exact s_X7_isSafe_36 hq h
  · replace h := (oi h).2 c3
    refine V_iconst (v := 0) dX7_isSafe_32 (by decide) ?_
    obtain rfl := Option.some.inj h
    exact V_zret (ty := .boolean) rfl rfl hq dX7_isSafe_33
def f_X7_isSafe_0 (a0 : Nat) (i1 : Int32) (i2 : Int32) (M : zM) : Option (Int32 × zM) :=
  (f_X7_isNoPlayer i1 M).bind fun r1 =>
  if mK r1.2 a0 = 13 then
  (f_X7_start a0 r1.1 ((1 : Int32)) r1.2).bind fun r2 =>
  if r2.1 = 0 then
  (f_X7_isKind i2 r2.2).bind fun r4 =>
  if r4.1 = 0 then
  f_X7_isSafe_25 a0 i1 i2 ((1 : Int32)) a0 r4.2
  else
  f_X7_isSafe_25 a0 i1 i2 ((0 : Int32)) a0 r4.2
  else
  some ((0 : Int32), r2.2)
  else none
set_option maxRecDepth 20000 in
set_option maxHeartbeats 4000000 in
theorem s_X7_isSafe_0 {L : zL} {X : zX} {M0 : zM} {N : Nat × Nat} {Q : State → Prop} {r : Int32 × zM} (hq : vQ L X M0 N Q (some (.int r.1)) r.2) {a0 : Nat} {i1 : Int32} {i2 : Int32} {M : zM} (h : f_X7_isSafe_0 a0 i1 i2 M = some r) : V L X yX7_isSafe cX7_isSafe 4 (some FieldType.boolean) 3 M0 N Q M 0 [(0, .ref (zad L (a0))), (1, .int (i1)), (2, .int (i2))] [] := by
  unfold f_X7_isSafe_0 at h
  refine V_aload_n dX7_isSafe_0 rfl 0 rfl ?_
  refine V_iload_n dX7_isSafe_1 rfl 1 rfl ?_
  replace h := ob h
  obtain ⟨r1, e_r1, h⟩ := h
  refine V_callS_I (As := [.int (i1)]) (rest := [.ref (zad L (a0))]) (c_X7_isNoPlayer e_r1) zc_X7_isNoPlayer rfl (by decide) zm_X7_174 (Nat.le_of_ble_eq_true rfl) rfl dX7_isSafe_2 ?_
  refine V_pc (pc' := 5) rfl ?_
  refine V_iconst (v := 1) dX7_isSafe_5 (by decide) ?_
  replace h := ox h
  obtain ⟨c3, h⟩ := h
  replace h := ob h
  obtain ⟨r2, e_r2, h⟩ := h
  refine V_callV_I (As := [.int (r1.1), .int ((1 : Int32))]) (rest := []) (c_X7_start e_r2) zc_X7_start rfl (by decide) rfl (by decide) (Or.inl c3) zm_X7_85 (Nat.le_of_ble_eq_true rfl) rfl dX7_isSafe_6 ?_
  refine V_pc (pc' := 9) rfl ?_
  refine V_if_ne (tgt := 32) dX7_isSafe_9 (by decide) (fun c6 => ?_) (fun c6 => ?_)
  · replace h := (oi h).2 c6
    refine V_iconst (v := 0) dX7_isSafe_32 (by decide) ?_
    obtain rfl := Option.some.inj h
    exact V_zret (ty := .boolean) rfl rfl hq dX7_isSafe_33
  · replace h := (oi h).1 c6
    refine V_aload_n dX7_isSafe_12 rfl 0 rfl ?_
    refine V_iload_n dX7_isSafe_13 rfl 2 rfl ?_
    replace h := ob h
    obtain ⟨r4, e_r4, h⟩ := h
    refine V_callS_I (As := [.int (i2)]) (rest := [.ref (zad L (a0))]) (c_X7_isKind e_r4) zc_X7_isKind rfl (by decide) zm_X7_147 (Nat.le_of_ble_eq_true rfl) rfl dX7_isSafe_14 ?_
    refine V_pc (pc' := 17) rfl ?_
    refine V_if_ne (tgt := 24) dX7_isSafe_17 (by decide) (fun c5 => ?_) (fun c5 => ?_)
    · replace h := (oi h).2 c5
      refine V_iconst (v := 0) dX7_isSafe_24 (by decide) ?_
      exact s_X7_isSafe_25 hq h
    · replace h := (oi h).1 c5
      refine V_iconst (v := 1) dX7_isSafe_20 (by decide) ?_
      refine V_goto (tgt := 25) dX7_isSafe_21 (by decide) ?_
      exact s_X7_isSafe_25 hq h
def f_X7_isSafe (a0 : Nat) (i1 : Int32) (i2 : Int32) (M : zM) : Option (Int32 × zM) := f_X7_isSafe_0 a0 i1 i2 M
theorem c_X7_isSafe {L : zL} {l : Launch} {a0 : Nat} {i1 : Int32} {i2 : Int32} {M : zM} {r : Int32 × zM} (h : f_X7_isSafe a0 i1 i2 M = some r) : CP L l yX7_isSafe cX7_isSafe 4 (some FieldType.boolean) 3 M [.ref (zad L (a0)), .int (i1), .int (i2)] (some (.int r.1)) r.2 :=
  CP.of ⟨by decide +kernel, by decide +kernel⟩ (Nat.le_of_ble_eq_true rfl) fun X Q hq => s_X7_isSafe_0 hq h
/-! WindsparlourModel.unseen(II)I -/
theorem dX7_unseen_0 : decode cX7_unseen 0 = .ok (.iconst 4, 1) := by decide +kernel
theorem dX7_unseen_1 : decode cX7_unseen 1 = .ok (.aload_n 0, 1) := by decide +kernel
theorem dX7_unseen_2 : decode cX7_unseen 2 = .ok (.getfield 38, 3) := by decide +kernel
theorem dX7_unseen_5 : decode cX7_unseen 5 = .ok (.iload_n 1, 1) := by decide +kernel
theorem dX7_unseen_6 : decode cX7_unseen 6 = .ok (.aaload, 1) := by decide +kernel
theorem dX7_unseen_7 : decode cX7_unseen 7 = .ok (.getfield 94, 3) := by decide +kernel
theorem dX7_unseen_10 : decode cX7_unseen 10 = .ok (.iload_n 2, 1) := by decide +kernel
theorem dX7_unseen_11 : decode cX7_unseen 11 = .ok (.iaload, 1) := by decide +kernel
theorem dX7_unseen_12 : decode cX7_unseen 12 = .ok (.isub, 1) := by decide +kernel
theorem dX7_unseen_13 : decode cX7_unseen 13 = .ok (.aload_n 0, 1) := by decide +kernel
theorem dX7_unseen_14 : decode cX7_unseen 14 = .ok (.iload_n 2, 1) := by decide +kernel
theorem dX7_unseen_15 : decode cX7_unseen 15 = .ok (.invokevirtual 287, 3) := by decide +kernel
theorem dX7_unseen_18 : decode cX7_unseen 18 = .ok (.isub, 1) := by decide +kernel
theorem dX7_unseen_19 : decode cX7_unseen 19 = .ok (.ireturn, 1) := by decide +kernel
def f_X7_unseen_0 (a0 : Nat) (i1 : Int32) (i2 : Int32) (M : zM) : Option (Int32 × zM) :=
  (gR 13 1 M a0).bind fun v1 =>
  (lQ 2 M v1 i1).bind fun v2 =>
  (gR 12 2 M v2).bind fun v3 =>
  (lA 0 M v3 i2).bind fun v4 =>
  if mK M a0 = 13 then
  (f_X7_seenNow a0 i2 M).bind fun r5 =>
  some ((((((4 : Int32)) - v4)) - r5.1), r5.2)
  else none
set_option maxRecDepth 20000 in
set_option maxHeartbeats 4000000 in
theorem s_X7_unseen_0 {L : zL} {X : zX} {M0 : zM} {N : Nat × Nat} {Q : State → Prop} {r : Int32 × zM} (hq : vQ L X M0 N Q (some (.int r.1)) r.2) {a0 : Nat} {i1 : Int32} {i2 : Int32} {M : zM} (h : f_X7_unseen_0 a0 i1 i2 M = some r) : V L X yX7_unseen cX7_unseen 3 (some FieldType.int) 4 M0 N Q M 0 [(0, .ref (zad L (a0))), (1, .int (i1)), (2, .int (i2))] [] := by
  unfold f_X7_unseen_0 at h
  refine V_iconst (v := 4) dX7_unseen_0 (by decide) ?_
  refine V_aload_n dX7_unseen_1 rfl 0 rfl ?_
  replace h := ob h
  obtain ⟨v1, e_v1, h⟩ := h
  refine V_getR zf_13_1 zl_X7_38 e_v1 dX7_unseen_2 ?_
  refine V_pc (pc' := 5) rfl ?_
  refine V_iload_n dX7_unseen_5 rfl 1 rfl ?_
  replace h := ob h
  obtain ⟨v2, e_v2, h⟩ := h
  refine V_aald (by decide) e_v2 dX7_unseen_6 ?_
  refine V_pc (pc' := 7) rfl ?_
  replace h := ob h
  obtain ⟨v3, e_v3, h⟩ := h
  refine V_getR zf_12_2 zl_X7_94 e_v3 dX7_unseen_7 ?_
  refine V_pc (pc' := 10) rfl ?_
  refine V_iload_n dX7_unseen_10 rfl 2 rfl ?_
  replace h := ob h
  obtain ⟨v4, e_v4, h⟩ := h
  refine V_iald e_v4 dX7_unseen_11 ?_
  refine V_pc (pc' := 12) rfl ?_
  refine V_isub dX7_unseen_12 ?_
  refine V_aload_n dX7_unseen_13 rfl 0 rfl ?_
  refine V_iload_n dX7_unseen_14 rfl 2 rfl ?_
  replace h := ox h
  obtain ⟨c6, h⟩ := h
  replace h := ob h
  obtain ⟨r5, e_r5, h⟩ := h
  refine V_callV_I (As := [.int (i2)]) (rest := [.int ((((4 : Int32)) - v4))]) (c_X7_seenNow e_r5) zc_X7_seenNow rfl (by decide) rfl (by decide) (Or.inl c6) zm_X7_287 (Nat.le_of_ble_eq_true rfl) rfl dX7_unseen_15 ?_
  refine V_pc (pc' := 18) rfl ?_
  refine V_isub dX7_unseen_18 ?_
  obtain rfl := Option.some.inj h
  exact V_iret rfl hq dX7_unseen_19
def f_X7_unseen (a0 : Nat) (i1 : Int32) (i2 : Int32) (M : zM) : Option (Int32 × zM) := f_X7_unseen_0 a0 i1 i2 M
theorem c_X7_unseen {L : zL} {l : Launch} {a0 : Nat} {i1 : Int32} {i2 : Int32} {M : zM} {r : Int32 × zM} (h : f_X7_unseen a0 i1 i2 M = some r) : CP L l yX7_unseen cX7_unseen 3 (some FieldType.int) 4 M [.ref (zad L (a0)), .int (i1), .int (i2)] (some (.int r.1)) r.2 :=
  CP.of ⟨by decide +kernel, by decide +kernel⟩ (Nat.le_of_ble_eq_true rfl) fun X Q hq => s_X7_unseen_0 hq h
/-! WindsparlourModel.outs(I)I -/
theorem dX7_outs_0 : decode cX7_outs 0 = .ok (.aload_n 0, 1) := by decide +kernel
theorem dX7_outs_1 : decode cX7_outs 1 = .ok (.iload_n 1, 1) := by decide +kernel
theorem dX7_outs_2 : decode cX7_outs 2 = .ok (.invokestatic 174, 3) := by decide +kernel
theorem dX7_outs_5 : decode cX7_outs 5 = .ok (.iconst 1, 1) := by decide +kernel
theorem dX7_outs_6 : decode cX7_outs 6 = .ok (.invokevirtual 85, 3) := by decide +kernel
theorem dX7_outs_9 : decode cX7_outs 9 = .ok (.ifCond .ne 15, 3) := by decide +kernel
theorem dX7_outs_12 : decode cX7_outs 12 = .ok (.aload_n 0, 1) := by decide +kernel
theorem dX7_outs_13 : decode cX7_outs 13 = .ok (.getfield 38, 3) := by decide +kernel
theorem dX7_outs_16 : decode cX7_outs 16 = .ok (.iload_n 1, 1) := by decide +kernel
theorem dX7_outs_17 : decode cX7_outs 17 = .ok (.aaload, 1) := by decide +kernel
theorem dX7_outs_18 : decode cX7_outs 18 = .ok (.invokevirtual 330, 3) := by decide +kernel
theorem dX7_outs_21 : decode cX7_outs 21 = .ok (.ifCond .eq 5, 3) := by decide +kernel
theorem dX7_outs_24 : decode cX7_outs 24 = .ok (.iconst 0, 1) := by decide +kernel
theorem dX7_outs_25 : decode cX7_outs 25 = .ok (.ireturn, 1) := by decide +kernel
theorem dX7_outs_26 : decode cX7_outs 26 = .ok (.aload_n 0, 1) := by decide +kernel
theorem dX7_outs_27 : decode cX7_outs 27 = .ok (.getfield 38, 3) := by decide +kernel
theorem dX7_outs_30 : decode cX7_outs 30 = .ok (.iload_n 1, 1) := by decide +kernel
theorem dX7_outs_31 : decode cX7_outs 31 = .ok (.aaload, 1) := by decide +kernel
theorem dX7_outs_32 : decode cX7_outs 32 = .ok (.invokevirtual 272, 3) := by decide +kernel
theorem dX7_outs_35 : decode cX7_outs 35 = .ok (.istore_n 2, 1) := by decide +kernel
theorem dX7_outs_36 : decode cX7_outs 36 = .ok (.iconst 0, 1) := by decide +kernel
theorem dX7_outs_37 : decode cX7_outs 37 = .ok (.istore_n 3, 1) := by decide +kernel
theorem dX7_outs_38 : decode cX7_outs 38 = .ok (.iconst 0, 1) := by decide +kernel
theorem dX7_outs_39 : decode cX7_outs 39 = .ok (.istore 4, 2) := by decide +kernel
theorem dX7_outs_41 : decode cX7_outs 41 = .ok (.iload 4, 2) := by decide +kernel
theorem dX7_outs_43 : decode cX7_outs 43 = .ok (.bipush 25, 2) := by decide +kernel
theorem dX7_outs_45 : decode cX7_outs 45 = .ok (.if_icmp .ge 49, 3) := by decide +kernel
theorem dX7_outs_48 : decode cX7_outs 48 = .ok (.iload_n 3, 1) := by decide +kernel
theorem dX7_outs_49 : decode cX7_outs 49 = .ok (.aload_n 0, 1) := by decide +kernel
theorem dX7_outs_50 : decode cX7_outs 50 = .ok (.iload_n 1, 1) := by decide +kernel
theorem dX7_outs_51 : decode cX7_outs 51 = .ok (.iload 4, 2) := by decide +kernel
theorem dX7_outs_53 : decode cX7_outs 53 = .ok (.invokevirtual 333, 3) := by decide +kernel
theorem dX7_outs_56 : decode cX7_outs 56 = .ok (.ifCond .le 29, 3) := by decide +kernel
theorem dX7_outs_59 : decode cX7_outs 59 = .ok (.aload_n 0, 1) := by decide +kernel
theorem dX7_outs_60 : decode cX7_outs 60 = .ok (.getfield 38, 3) := by decide +kernel
theorem dX7_outs_63 : decode cX7_outs 63 = .ok (.iload_n 1, 1) := by decide +kernel
theorem dX7_outs_64 : decode cX7_outs 64 = .ok (.aaload, 1) := by decide +kernel
theorem dX7_outs_65 : decode cX7_outs 65 = .ok (.iload 4, 2) := by decide +kernel
theorem dX7_outs_67 : decode cX7_outs 67 = .ok (.iconst 1, 1) := by decide +kernel
theorem dX7_outs_68 : decode cX7_outs 68 = .ok (.invokevirtual 324, 3) := by decide +kernel
theorem dX7_outs_71 : decode cX7_outs 71 = .ok (.iload_n 2, 1) := by decide +kernel
theorem dX7_outs_72 : decode cX7_outs 72 = .ok (.if_icmp .ge 13, 3) := by decide +kernel
theorem dX7_outs_75 : decode cX7_outs 75 = .ok (.aload_n 0, 1) := by decide +kernel
theorem dX7_outs_76 : decode cX7_outs 76 = .ok (.iload_n 1, 1) := by decide +kernel
theorem dX7_outs_77 : decode cX7_outs 77 = .ok (.iload 4, 2) := by decide +kernel
theorem dX7_outs_79 : decode cX7_outs 79 = .ok (.invokevirtual 333, 3) := by decide +kernel
theorem dX7_outs_82 : decode cX7_outs 82 = .ok (.goto 4, 3) := by decide +kernel
theorem dX7_outs_85 : decode cX7_outs 85 = .ok (.iconst 0, 1) := by decide +kernel
theorem dX7_outs_86 : decode cX7_outs 86 = .ok (.iadd, 1) := by decide +kernel
theorem dX7_outs_87 : decode cX7_outs 87 = .ok (.istore_n 3, 1) := by decide +kernel
theorem dX7_outs_88 : decode cX7_outs 88 = .ok (.iinc 4 1, 3) := by decide +kernel
theorem dX7_outs_91 : decode cX7_outs 91 = .ok (.goto (-50), 3) := by decide +kernel
theorem dX7_outs_94 : decode cX7_outs 94 = .ok (.iload_n 3, 1) := by decide +kernel
theorem dX7_outs_95 : decode cX7_outs 95 = .ok (.ireturn, 1) := by decide +kernel
def f_X7_outs_41 (n : Nat) (a0 : Nat) (i1 : Int32) (i2 : Int32) (i3 : Int32) (i4 : Int32) (M : zM) : Option (Int32 × zM) := match n with
  | 0 => none
  | n + 1 =>
    if ((25 : Int32)) ≤ i4 then
    some (i3, M)
    else
    if mK M a0 = 13 then
    (f_X7_unseen a0 i1 i4 M).bind fun r1 =>
    if r1.1 ≤ 0 then
    f_X7_outs_41 n a0 i1 i2 ((i3 + ((0 : Int32)))) ((i4 + (1 : Int32))) r1.2
    else
    (gR 13 1 r1.2 a0).bind fun v3 =>
    (lQ 2 r1.2 v3 i1).bind fun v4 =>
    if mK r1.2 v4 = 12 then
    (f_X6_farWith v4 i4 ((1 : Int32)) r1.2).bind fun r5 =>
    if i2 ≤ r5.1 then
    f_X7_outs_41 n a0 i1 i2 ((i3 + ((0 : Int32)))) ((i4 + (1 : Int32))) r5.2
    else
    if mK r5.2 a0 = 13 then
    (f_X7_unseen a0 i1 i4 r5.2).bind fun r7 =>
    f_X7_outs_41 n a0 i1 i2 ((i3 + r7.1)) ((i4 + (1 : Int32))) r7.2
    else none
    else none
    else none
set_option maxRecDepth 20000 in
set_option maxHeartbeats 4000000 in
theorem s_X7_outs_41 {L : zL} {X : zX} {M0 : zM} {N : Nat × Nat} {Q : State → Prop} {r : Int32 × zM} (hq : vQ L X M0 N Q (some (.int r.1)) r.2) {n : Nat} {a0 : Nat} {i1 : Int32} {i2 : Int32} {i3 : Int32} {i4 : Int32} {M : zM} : f_X7_outs_41 n a0 i1 i2 i3 i4 M = some r → V L X yX7_outs cX7_outs 5 (some FieldType.int) 133 M0 N Q M 41 [(0, .ref (zad L (a0))), (1, .int (i1)), (2, .int (i2)), (3, .int (i3)), (4, .int (i4))] [] := by
  induction n generalizing a0 i1 i2 i3 i4 M with
  | zero =>
    intro h
    rw [f_X7_outs_41] at h
    cases h
  | succ n ih0 =>
    intro h
    have ih : ∀ (a0 : Nat) (i1 : Int32) (i2 : Int32) (i3 : Int32) (i4 : Int32) (M : zM), f_X7_outs_41 n a0 i1 i2 i3 i4 M = some r → V L X yX7_outs cX7_outs 5 (some FieldType.int) 133 M0 N Q M 41 [(0, .ref (zad L (a0))), (1, .int (i1)), (2, .int (i2)), (3, .int (i3)), (4, .int (i4))] [] := fun a0 i1 i2 i3 i4 M h => ih0 h
    rw [f_X7_outs_41] at h
    refine V_iload dX7_outs_41 4 rfl ?_
    refine V_bipush (v := 25) dX7_outs_43 (by decide) ?_
    refine V_icmp_ge (tgt := 94) dX7_outs_45 (by decide) (fun c11 => ?_) (fun c11 => ?_)
    · replace h := (oi h).1 c11
      refine V_iload_n dX7_outs_94 rfl 3 rfl ?_
      obtain rfl := Option.some.inj h
      exact V_iret rfl hq dX7_outs_95
    · replace h := (oi h).2 c11
      refine V_iload_n dX7_outs_48 rfl 3 rfl ?_
      refine V_aload_n dX7_outs_49 rfl 0 rfl ?_
      refine V_iload_n dX7_outs_50 rfl 1 rfl ?_
      refine V_iload dX7_outs_51 4 rfl ?_
      replace h := ox h
      obtain ⟨c2, h⟩ := h
      replace h := ob h
      obtain ⟨r1, e_r1, h⟩ := h
      refine V_callV_I (As := [.int (i1), .int (i4)]) (rest := [.int (i3)]) (c_X7_unseen e_r1) zc_X7_unseen rfl (by decide) rfl (by decide) (Or.inl c2) zm_X7_333 (Nat.le_of_ble_eq_true rfl) rfl dX7_outs_53 ?_
      refine V_pc (pc' := 56) rfl ?_
      refine V_if_le (tgt := 85) dX7_outs_56 (by decide) (fun c10 => ?_) (fun c10 => ?_)
      · replace h := (oi h).1 c10
        refine V_iconst (v := 0) dX7_outs_85 (by decide) ?_
        refine V_iadd dX7_outs_86 ?_
        refine V_istore_n (ls' := [(3, .int ((i3 + ((0 : Int32))))), (0, .ref (zad L (a0))), (1, .int (i1)), (2, .int (i2)), (4, .int (i4))]) dX7_outs_87 rfl (by decide) rfl ?_
        refine V_iinc (v := i4 + (1 : Int32)) (ls' := [(4, .int ((i4 + (1 : Int32)))), (3, .int ((i3 + ((0 : Int32))))), (0, .ref (zad L (a0))), (1, .int (i1)), (2, .int (i2))]) dX7_outs_88 4 rfl (by rfl) (by decide) rfl ?_
        refine V_goto (tgt := 41) dX7_outs_91 (by decide) ?_
        refine V_sub [2, 3, 4, 1, 0] rfl ?_
        exact ih _ _ _ _ _ _ h
      · replace h := (oi h).2 c10
        refine V_aload_n dX7_outs_59 rfl 0 rfl ?_
        replace h := ob h
        obtain ⟨v3, e_v3, h⟩ := h
        refine V_getR zf_13_1 zl_X7_38 e_v3 dX7_outs_60 ?_
        refine V_pc (pc' := 63) rfl ?_
        refine V_iload_n dX7_outs_63 rfl 1 rfl ?_
        replace h := ob h
        obtain ⟨v4, e_v4, h⟩ := h
        refine V_aald (by decide) e_v4 dX7_outs_64 ?_
        refine V_pc (pc' := 65) rfl ?_
        refine V_iload dX7_outs_65 4 rfl ?_
        refine V_iconst (v := 1) dX7_outs_67 (by decide) ?_
        replace h := ox h
        obtain ⟨c6, h⟩ := h
        replace h := ob h
        obtain ⟨r5, e_r5, h⟩ := h
        refine V_callV_I (As := [.int (i4), .int ((1 : Int32))]) (rest := [.int (i3)]) (c_X6_farWith e_r5) zc_X6_farWith rfl (by decide) rfl (by decide) (Or.inl c6) zm_X7_324 (Nat.le_of_ble_eq_true rfl) rfl dX7_outs_68 ?_
        refine V_pc (pc' := 71) rfl ?_
        refine V_iload_n dX7_outs_71 rfl 2 rfl ?_
        refine V_icmp_ge (tgt := 85) dX7_outs_72 (by decide) (fun c9 => ?_) (fun c9 => ?_)
        · replace h := (oi h).1 c9
          refine V_iconst (v := 0) dX7_outs_85 (by decide) ?_
          refine V_iadd dX7_outs_86 ?_
          refine V_istore_n (ls' := [(3, .int ((i3 + ((0 : Int32))))), (0, .ref (zad L (a0))), (1, .int (i1)), (2, .int (i2)), (4, .int (i4))]) dX7_outs_87 rfl (by decide) rfl ?_
          refine V_iinc (v := i4 + (1 : Int32)) (ls' := [(4, .int ((i4 + (1 : Int32)))), (3, .int ((i3 + ((0 : Int32))))), (0, .ref (zad L (a0))), (1, .int (i1)), (2, .int (i2))]) dX7_outs_88 4 rfl (by rfl) (by decide) rfl ?_
          refine V_goto (tgt := 41) dX7_outs_91 (by decide) ?_
          refine V_sub [2, 3, 4, 1, 0] rfl ?_
          exact ih _ _ _ _ _ _ h
        · replace h := (oi h).2 c9
          refine V_aload_n dX7_outs_75 rfl 0 rfl ?_
          refine V_iload_n dX7_outs_76 rfl 1 rfl ?_
          refine V_iload dX7_outs_77 4 rfl ?_
          replace h := ox h
          obtain ⟨c8, h⟩ := h
          replace h := ob h
          obtain ⟨r7, e_r7, h⟩ := h
          refine V_callV_I (As := [.int (i1), .int (i4)]) (rest := [.int (i3)]) (c_X7_unseen e_r7) zc_X7_unseen rfl (by decide) rfl (by decide) (Or.inl c8) zm_X7_333 (Nat.le_of_ble_eq_true rfl) rfl dX7_outs_79 ?_
          refine V_pc (pc' := 82) rfl ?_
          refine V_goto (tgt := 86) dX7_outs_82 (by decide) ?_
          refine V_iadd dX7_outs_86 ?_
          refine V_istore_n (ls' := [(3, .int ((i3 + r7.1))), (0, .ref (zad L (a0))), (1, .int (i1)), (2, .int (i2)), (4, .int (i4))]) dX7_outs_87 rfl (by decide) rfl ?_
          refine V_iinc (v := i4 + (1 : Int32)) (ls' := [(4, .int ((i4 + (1 : Int32)))), (3, .int ((i3 + r7.1))), (0, .ref (zad L (a0))), (1, .int (i1)), (2, .int (i2))]) dX7_outs_88 4 rfl (by rfl) (by decide) rfl ?_
          refine V_goto (tgt := 41) dX7_outs_91 (by decide) ?_
          refine V_sub [2, 3, 4, 1, 0] rfl ?_
          exact ih _ _ _ _ _ _ h
def f_X7_outs_0 (a0 : Nat) (i1 : Int32) (M : zM) : Option (Int32 × zM) :=
  (f_X7_isNoPlayer i1 M).bind fun r1 =>
  if mK r1.2 a0 = 13 then
  (f_X7_start a0 r1.1 ((1 : Int32)) r1.2).bind fun r2 =>
  if r2.1 = 0 then
  (gR 13 1 r2.2 a0).bind fun v4 =>
  (lQ 2 r2.2 v4 i1).bind fun v5 =>
  if mK r2.2 v5 = 12 then
  (f_X6_hasTooMany v5 r2.2).bind fun r6 =>
  if r6.1 = 0 then
  (gR 13 1 r6.2 a0).bind fun v8 =>
  (lQ 2 r6.2 v8 i1).bind fun v9 =>
  if mK r6.2 v9 = 12 then
  (f_X6_far v9 r6.2).bind fun r10 =>
  f_X7_outs_41 zN a0 i1 r10.1 ((0 : Int32)) ((0 : Int32)) r10.2
  else none
  else
  some ((0 : Int32), r6.2)
  else none
  else
  some ((0 : Int32), r2.2)
  else none
set_option maxRecDepth 20000 in
set_option maxHeartbeats 4000000 in
theorem s_X7_outs_0 {L : zL} {X : zX} {M0 : zM} {N : Nat × Nat} {Q : State → Prop} {r : Int32 × zM} (hq : vQ L X M0 N Q (some (.int r.1)) r.2) {a0 : Nat} {i1 : Int32} {M : zM} (h : f_X7_outs_0 a0 i1 M = some r) : V L X yX7_outs cX7_outs 5 (some FieldType.int) 133 M0 N Q M 0 [(0, .ref (zad L (a0))), (1, .int (i1))] [] := by
  unfold f_X7_outs_0 at h
  refine V_aload_n dX7_outs_0 rfl 0 rfl ?_
  refine V_iload_n dX7_outs_1 rfl 1 rfl ?_
  replace h := ob h
  obtain ⟨r1, e_r1, h⟩ := h
  refine V_callS_I (As := [.int (i1)]) (rest := [.ref (zad L (a0))]) (c_X7_isNoPlayer e_r1) zc_X7_isNoPlayer rfl (by decide) zm_X7_174 (Nat.le_of_ble_eq_true rfl) rfl dX7_outs_2 ?_
  refine V_pc (pc' := 5) rfl ?_
  refine V_iconst (v := 1) dX7_outs_5 (by decide) ?_
  replace h := ox h
  obtain ⟨c3, h⟩ := h
  replace h := ob h
  obtain ⟨r2, e_r2, h⟩ := h
  refine V_callV_I (As := [.int (r1.1), .int ((1 : Int32))]) (rest := []) (c_X7_start e_r2) zc_X7_start rfl (by decide) rfl (by decide) (Or.inl c3) zm_X7_85 (Nat.le_of_ble_eq_true rfl) rfl dX7_outs_6 ?_
  refine V_pc (pc' := 9) rfl ?_
  refine V_if_ne (tgt := 24) dX7_outs_9 (by decide) (fun c13 => ?_) (fun c13 => ?_)
  · replace h := (oi h).2 c13
    refine V_iconst (v := 0) dX7_outs_24 (by decide) ?_
    obtain rfl := Option.some.inj h
    exact V_iret rfl hq dX7_outs_25
  · replace h := (oi h).1 c13
    refine V_aload_n dX7_outs_12 rfl 0 rfl ?_
    replace h := ob h
    obtain ⟨v4, e_v4, h⟩ := h
    refine V_getR zf_13_1 zl_X7_38 e_v4 dX7_outs_13 ?_
    refine V_pc (pc' := 16) rfl ?_
    refine V_iload_n dX7_outs_16 rfl 1 rfl ?_
    replace h := ob h
    obtain ⟨v5, e_v5, h⟩ := h
    refine V_aald (by decide) e_v5 dX7_outs_17 ?_
    refine V_pc (pc' := 18) rfl ?_
    replace h := ox h
    obtain ⟨c7, h⟩ := h
    replace h := ob h
    obtain ⟨r6, e_r6, h⟩ := h
    refine V_callV_I (As := []) (rest := []) (c_X6_hasTooMany e_r6) zc_X6_hasTooMany rfl (by decide) rfl (by decide) (Or.inl c7) zm_X7_330 (Nat.le_of_ble_eq_true rfl) rfl dX7_outs_18 ?_
    refine V_pc (pc' := 21) rfl ?_
    refine V_if_eq (tgt := 26) dX7_outs_21 (by decide) (fun c12 => ?_) (fun c12 => ?_)
    · replace h := (oi h).1 c12
      refine V_aload_n dX7_outs_26 rfl 0 rfl ?_
      replace h := ob h
      obtain ⟨v8, e_v8, h⟩ := h
      refine V_getR zf_13_1 zl_X7_38 e_v8 dX7_outs_27 ?_
      refine V_pc (pc' := 30) rfl ?_
      refine V_iload_n dX7_outs_30 rfl 1 rfl ?_
      replace h := ob h
      obtain ⟨v9, e_v9, h⟩ := h
      refine V_aald (by decide) e_v9 dX7_outs_31 ?_
      refine V_pc (pc' := 32) rfl ?_
      replace h := ox h
      obtain ⟨c11, h⟩ := h
      replace h := ob h
      obtain ⟨r10, e_r10, h⟩ := h
      refine V_callV_I (As := []) (rest := []) (c_X6_far e_r10) zc_X6_far rfl (by decide) rfl (by decide) (Or.inl c11) zm_X7_272 (Nat.le_of_ble_eq_true rfl) rfl dX7_outs_32 ?_
      refine V_pc (pc' := 35) rfl ?_
      refine V_istore_n (ls' := [(2, .int (r10.1)), (0, .ref (zad L (a0))), (1, .int (i1))]) dX7_outs_35 rfl (by decide) rfl ?_
      refine V_iconst (v := 0) dX7_outs_36 (by decide) ?_
      refine V_istore_n (ls' := [(3, .int ((0 : Int32))), (2, .int (r10.1)), (0, .ref (zad L (a0))), (1, .int (i1))]) dX7_outs_37 rfl (by decide) rfl ?_
      refine V_iconst (v := 0) dX7_outs_38 (by decide) ?_
      refine V_istore (ls' := [(4, .int ((0 : Int32))), (3, .int ((0 : Int32))), (2, .int (r10.1)), (0, .ref (zad L (a0))), (1, .int (i1))]) dX7_outs_39 (by decide) rfl ?_
      refine V_sub [3, 4, 2, 1, 0] rfl ?_
      exact s_X7_outs_41 hq h
    · replace h := (oi h).2 c12
      refine V_iconst (v := 0) dX7_outs_24 (by decide) ?_
      obtain rfl := Option.some.inj h
      exact V_iret rfl hq dX7_outs_25
def f_X7_outs (a0 : Nat) (i1 : Int32) (M : zM) : Option (Int32 × zM) := f_X7_outs_0 a0 i1 M
theorem c_X7_outs {L : zL} {l : Launch} {a0 : Nat} {i1 : Int32} {M : zM} {r : Int32 × zM} (h : f_X7_outs a0 i1 M = some r) : CP L l yX7_outs cX7_outs 5 (some FieldType.int) 133 M [.ref (zad L (a0)), .int (i1)] (some (.int r.1)) r.2 :=
  CP.of ⟨by decide +kernel, by decide +kernel⟩ (Nat.le_of_ble_eq_true rfl) fun X Q hq => s_X7_outs_0 hq h
/-! WindsparlourModel.add(JJ)J -/
theorem dX7_add_0 : decode cX7_add 0 = .ok (.lload_n 0, 1) := by decide +kernel
theorem dX7_add_1 : decode cX7_add 1 = .ok (.ldc2_w 336, 3) := by decide +kernel
theorem dX7_add_4 : decode cX7_add 4 = .ok (.lmul, 1) := by decide +kernel
theorem dX7_add_5 : decode cX7_add 5 = .ok (.lload_n 2, 1) := by decide +kernel
theorem dX7_add_6 : decode cX7_add 6 = .ok (.ladd, 1) := by decide +kernel
theorem dX7_add_7 : decode cX7_add 7 = .ok (.lreturn, 1) := by decide +kernel
def f_X7_add_0 (j0 : Int64) (j2 : Int64) (M : zM) : Option (Int64 × zM) :=
  some ((((j0 * ((31 : Int64)))) + j2), M)
set_option maxRecDepth 20000 in
set_option maxHeartbeats 4000000 in
theorem s_X7_add_0 {L : zL} {X : zX} {M0 : zM} {N : Nat × Nat} {Q : State → Prop} {r : Int64 × zM} (hq : vQ L X M0 N Q (some (.long r.1)) r.2) {j0 : Int64} {j2 : Int64} {M : zM} (h : f_X7_add_0 j0 j2 M = some r) : V L X yX7_add cX7_add 4 (some FieldType.long) 1 M0 N Q M 0 [(0, .long (j0)), (2, .long (j2))] [] := by
  unfold f_X7_add_0 at h
  refine V_lload_n dX7_add_0 rfl 0 rfl ?_
  refine V_ldc2 zcn_X7_336 dX7_add_1 ?_
  refine V_lmul dX7_add_4 ?_
  refine V_lload_n dX7_add_5 rfl 1 rfl ?_
  refine V_ladd dX7_add_6 ?_
  obtain rfl := Option.some.inj h
  exact V_lret rfl hq dX7_add_7
def f_X7_add (j0 : Int64) (j2 : Int64) (M : zM) : Option (Int64 × zM) := f_X7_add_0 j0 j2 M
theorem c_X7_add {L : zL} {l : Launch} {j0 : Int64} {j2 : Int64} {M : zM} {r : Int64 × zM} (h : f_X7_add j0 j2 M = some r) : CP L l yX7_add cX7_add 4 (some FieldType.long) 1 M [.long (j0), .long (j2)] (some (.long r.1)) r.2 :=
  CP.of ⟨by decide +kernel, by decide +kernel⟩ (Nat.le_of_ble_eq_true rfl) fun X Q hq => s_X7_add_0 hq h
/-! WindsparlourModel.digest()J -/
theorem dX7_digest_0 : decode cX7_digest 0 = .ok (.aload_n 0, 1) := by decide +kernel
theorem dX7_digest_1 : decode cX7_digest 1 = .ok (.iconst 0, 1) := by decide +kernel
theorem dX7_digest_2 : decode cX7_digest 2 = .ok (.putfield 65, 3) := by decide +kernel
theorem dX7_digest_5 : decode cX7_digest 5 = .ok (.ldc2_w 338, 3) := by decide +kernel
theorem dX7_digest_8 : decode cX7_digest 8 = .ok (.lstore_n 1, 1) := by decide +kernel
theorem dX7_digest_9 : decode cX7_digest 9 = .ok (.iconst 0, 1) := by decide +kernel
theorem dX7_digest_10 : decode cX7_digest 10 = .ok (.istore_n 3, 1) := by decide +kernel
theorem dX7_digest_11 : decode cX7_digest 11 = .ok (.iload_n 3, 1) := by decide +kernel
theorem dX7_digest_12 : decode cX7_digest 12 = .ok (.bipush 10, 2) := by decide +kernel
theorem dX7_digest_14 : decode cX7_digest 14 = .ok (.if_icmp .ge 20, 3) := by decide +kernel
theorem dX7_digest_17 : decode cX7_digest 17 = .ok (.lload_n 1, 1) := by decide +kernel
theorem dX7_digest_18 : decode cX7_digest 18 = .ok (.aload_n 0, 1) := by decide +kernel
theorem dX7_digest_19 : decode cX7_digest 19 = .ok (.iload_n 3, 1) := by decide +kernel
theorem dX7_digest_20 : decode cX7_digest 20 = .ok (.invokevirtual 315, 3) := by decide +kernel
theorem dX7_digest_23 : decode cX7_digest 23 = .ok (.i2l, 1) := by decide +kernel
theorem dX7_digest_24 : decode cX7_digest 24 = .ok (.invokestatic 340, 3) := by decide +kernel
theorem dX7_digest_27 : decode cX7_digest 27 = .ok (.lstore_n 1, 1) := by decide +kernel
theorem dX7_digest_28 : decode cX7_digest 28 = .ok (.iinc 3 1, 3) := by decide +kernel
theorem dX7_digest_31 : decode cX7_digest 31 = .ok (.goto (-20), 3) := by decide +kernel
theorem dX7_digest_34 : decode cX7_digest 34 = .ok (.iconst 0, 1) := by decide +kernel
theorem dX7_digest_35 : decode cX7_digest 35 = .ok (.istore_n 3, 1) := by decide +kernel
theorem dX7_digest_36 : decode cX7_digest 36 = .ok (.iload_n 3, 1) := by decide +kernel
theorem dX7_digest_37 : decode cX7_digest 37 = .ok (.iconst 4, 1) := by decide +kernel
theorem dX7_digest_38 : decode cX7_digest 38 = .ok (.if_icmp .ge 199, 3) := by decide +kernel
theorem dX7_digest_41 : decode cX7_digest 41 = .ok (.iconst 0, 1) := by decide +kernel
theorem dX7_digest_42 : decode cX7_digest 42 = .ok (.istore 4, 2) := by decide +kernel
theorem dX7_digest_44 : decode cX7_digest 44 = .ok (.iload 4, 2) := by decide +kernel
theorem dX7_digest_46 : decode cX7_digest 46 = .ok (.bipush 10, 2) := by decide +kernel
theorem dX7_digest_48 : decode cX7_digest 48 = .ok (.if_icmp .ge 22, 3) := by decide +kernel
theorem dX7_digest_51 : decode cX7_digest 51 = .ok (.lload_n 1, 1) := by decide +kernel
theorem dX7_digest_52 : decode cX7_digest 52 = .ok (.aload_n 0, 1) := by decide +kernel
theorem dX7_digest_53 : decode cX7_digest 53 = .ok (.iload_n 3, 1) := by decide +kernel
theorem dX7_digest_54 : decode cX7_digest 54 = .ok (.iload 4, 2) := by decide +kernel
theorem dX7_digest_56 : decode cX7_digest 56 = .ok (.invokevirtual 274, 3) := by decide +kernel
theorem dX7_digest_59 : decode cX7_digest 59 = .ok (.i2l, 1) := by decide +kernel
theorem dX7_digest_60 : decode cX7_digest 60 = .ok (.invokestatic 340, 3) := by decide +kernel
theorem dX7_digest_63 : decode cX7_digest 63 = .ok (.lstore_n 1, 1) := by decide +kernel
theorem dX7_digest_64 : decode cX7_digest 64 = .ok (.iinc 4 1, 3) := by decide +kernel
theorem dX7_digest_67 : decode cX7_digest 67 = .ok (.goto (-23), 3) := by decide +kernel
theorem dX7_digest_70 : decode cX7_digest 70 = .ok (.iconst 0, 1) := by decide +kernel
theorem dX7_digest_71 : decode cX7_digest 71 = .ok (.istore 4, 2) := by decide +kernel
theorem dX7_digest_73 : decode cX7_digest 73 = .ok (.iload 4, 2) := by decide +kernel
theorem dX7_digest_75 : decode cX7_digest 75 = .ok (.bipush 25, 2) := by decide +kernel
theorem dX7_digest_77 : decode cX7_digest 77 = .ok (.if_icmp .ge 27, 3) := by decide +kernel
theorem dX7_digest_80 : decode cX7_digest 80 = .ok (.lload_n 1, 1) := by decide +kernel
theorem dX7_digest_81 : decode cX7_digest 81 = .ok (.aload_n 0, 1) := by decide +kernel
theorem dX7_digest_82 : decode cX7_digest 82 = .ok (.getfield 38, 3) := by decide +kernel
theorem dX7_digest_85 : decode cX7_digest 85 = .ok (.iload_n 3, 1) := by decide +kernel
theorem dX7_digest_86 : decode cX7_digest 86 = .ok (.aaload, 1) := by decide +kernel
theorem dX7_digest_87 : decode cX7_digest 87 = .ok (.getfield 94, 3) := by decide +kernel
theorem dX7_digest_90 : decode cX7_digest 90 = .ok (.iload 4, 2) := by decide +kernel
theorem dX7_digest_92 : decode cX7_digest 92 = .ok (.iaload, 1) := by decide +kernel
theorem dX7_digest_93 : decode cX7_digest 93 = .ok (.i2l, 1) := by decide +kernel
theorem dX7_digest_94 : decode cX7_digest 94 = .ok (.invokestatic 340, 3) := by decide +kernel
theorem dX7_digest_97 : decode cX7_digest 97 = .ok (.lstore_n 1, 1) := by decide +kernel
theorem dX7_digest_98 : decode cX7_digest 98 = .ok (.iinc 4 1, 3) := by decide +kernel
theorem dX7_digest_101 : decode cX7_digest 101 = .ok (.goto (-28), 3) := by decide +kernel
theorem dX7_digest_104 : decode cX7_digest 104 = .ok (.aload_n 0, 1) := by decide +kernel
theorem dX7_digest_105 : decode cX7_digest 105 = .ok (.getfield 38, 3) := by decide +kernel
theorem dX7_digest_108 : decode cX7_digest 108 = .ok (.iload_n 3, 1) := by decide +kernel
theorem dX7_digest_109 : decode cX7_digest 109 = .ok (.aaload, 1) := by decide +kernel
theorem dX7_digest_110 : decode cX7_digest 110 = .ok (.getfield 183, 3) := by decide +kernel
theorem dX7_digest_113 : decode cX7_digest 113 = .ok (.invokevirtual 197, 3) := by decide +kernel
theorem dX7_digest_116 : decode cX7_digest 116 = .ok (.astore 4, 2) := by decide +kernel
theorem dX7_digest_118 : decode cX7_digest 118 = .ok (.aload 4, 2) := by decide +kernel
theorem dX7_digest_120 : decode cX7_digest 120 = .ok (.invokeinterface 201 1, 5) := by decide +kernel
theorem dX7_digest_125 : decode cX7_digest 125 = .ok (.ifCond .eq 29, 3) := by decide +kernel
theorem dX7_digest_128 : decode cX7_digest 128 = .ok (.aload 4, 2) := by decide +kernel
theorem dX7_digest_130 : decode cX7_digest 130 = .ok (.invokeinterface 206 1, 5) := by decide +kernel
theorem dX7_digest_135 : decode cX7_digest 135 = .ok (.checkcast 186, 3) := by decide +kernel
theorem dX7_digest_138 : decode cX7_digest 138 = .ok (.astore 5, 2) := by decide +kernel
theorem dX7_digest_140 : decode cX7_digest 140 = .ok (.lload_n 1, 1) := by decide +kernel
theorem dX7_digest_141 : decode cX7_digest 141 = .ok (.aload 5, 2) := by decide +kernel
theorem dX7_digest_143 : decode cX7_digest 143 = .ok (.invokestatic 280, 3) := by decide +kernel
theorem dX7_digest_146 : decode cX7_digest 146 = .ok (.i2l, 1) := by decide +kernel
theorem dX7_digest_147 : decode cX7_digest 147 = .ok (.invokestatic 340, 3) := by decide +kernel
theorem dX7_digest_150 : decode cX7_digest 150 = .ok (.lstore_n 1, 1) := by decide +kernel
theorem dX7_digest_151 : decode cX7_digest 151 = .ok (.goto (-33), 3) := by decide +kernel
theorem dX7_digest_154 : decode cX7_digest 154 = .ok (.aload_n 0, 1) := by decide +kernel
theorem dX7_digest_155 : decode cX7_digest 155 = .ok (.getfield 38, 3) := by decide +kernel
theorem dX7_digest_158 : decode cX7_digest 158 = .ok (.iload_n 3, 1) := by decide +kernel
theorem dX7_digest_159 : decode cX7_digest 159 = .ok (.aaload, 1) := by decide +kernel
theorem dX7_digest_160 : decode cX7_digest 160 = .ok (.getfield 124, 3) := by decide +kernel
theorem dX7_digest_163 : decode cX7_digest 163 = .ok (.invokevirtual 197, 3) := by decide +kernel
theorem dX7_digest_166 : decode cX7_digest 166 = .ok (.astore 4, 2) := by decide +kernel
theorem dX7_digest_168 : decode cX7_digest 168 = .ok (.aload 4, 2) := by decide +kernel
theorem dX7_digest_170 : decode cX7_digest 170 = .ok (.invokeinterface 201 1, 5) := by decide +kernel
theorem dX7_digest_175 : decode cX7_digest 175 = .ok (.ifCond .eq 29, 3) := by decide +kernel
theorem dX7_digest_178 : decode cX7_digest 178 = .ok (.aload 4, 2) := by decide +kernel
theorem dX7_digest_180 : decode cX7_digest 180 = .ok (.invokeinterface 206 1, 5) := by decide +kernel
theorem dX7_digest_185 : decode cX7_digest 185 = .ok (.checkcast 129, 3) := by decide +kernel
theorem dX7_digest_188 : decode cX7_digest 188 = .ok (.invokevirtual 284, 3) := by decide +kernel
theorem dX7_digest_191 : decode cX7_digest 191 = .ok (.istore 5, 2) := by decide +kernel
theorem dX7_digest_193 : decode cX7_digest 193 = .ok (.lload_n 1, 1) := by decide +kernel
theorem dX7_digest_194 : decode cX7_digest 194 = .ok (.iload 5, 2) := by decide +kernel
theorem dX7_digest_196 : decode cX7_digest 196 = .ok (.i2l, 1) := by decide +kernel
theorem dX7_digest_197 : decode cX7_digest 197 = .ok (.invokestatic 340, 3) := by decide +kernel
theorem dX7_digest_200 : decode cX7_digest 200 = .ok (.lstore_n 1, 1) := by decide +kernel
theorem dX7_digest_201 : decode cX7_digest 201 = .ok (.goto (-33), 3) := by decide +kernel
theorem dX7_digest_204 : decode cX7_digest 204 = .ok (.lload_n 1, 1) := by decide +kernel
theorem dX7_digest_205 : decode cX7_digest 205 = .ok (.aload_n 0, 1) := by decide +kernel
theorem dX7_digest_206 : decode cX7_digest 206 = .ok (.getfield 38, 3) := by decide +kernel
theorem dX7_digest_209 : decode cX7_digest 209 = .ok (.iload_n 3, 1) := by decide +kernel
theorem dX7_digest_210 : decode cX7_digest 210 = .ok (.aaload, 1) := by decide +kernel
theorem dX7_digest_211 : decode cX7_digest 211 = .ok (.invokevirtual 248, 3) := by decide +kernel
theorem dX7_digest_214 : decode cX7_digest 214 = .ok (.invokestatic 340, 3) := by decide +kernel
theorem dX7_digest_217 : decode cX7_digest 217 = .ok (.ldc2_w 318, 3) := by decide +kernel
theorem dX7_digest_220 : decode cX7_digest 220 = .ok (.aload_n 0, 1) := by decide +kernel
theorem dX7_digest_221 : decode cX7_digest 221 = .ok (.iload_n 3, 1) := by decide +kernel
theorem dX7_digest_222 : decode cX7_digest 222 = .ok (.invokevirtual 320, 3) := by decide +kernel
theorem dX7_digest_225 : decode cX7_digest 225 = .ok (.dmul, 1) := by decide +kernel
theorem dX7_digest_226 : decode cX7_digest 226 = .ok (.d2l, 1) := by decide +kernel
theorem dX7_digest_227 : decode cX7_digest 227 = .ok (.invokestatic 340, 3) := by decide +kernel
theorem dX7_digest_230 : decode cX7_digest 230 = .ok (.lstore_n 1, 1) := by decide +kernel
theorem dX7_digest_231 : decode cX7_digest 231 = .ok (.iinc 3 1, 3) := by decide +kernel
theorem dX7_digest_234 : decode cX7_digest 234 = .ok (.goto (-198), 3) := by decide +kernel
theorem dX7_digest_237 : decode cX7_digest 237 = .ok (.lload_n 1, 1) := by decide +kernel
theorem dX7_digest_238 : decode cX7_digest 238 = .ok (.aload_n 0, 1) := by decide +kernel
theorem dX7_digest_239 : decode cX7_digest 239 = .ok (.invokevirtual 327, 3) := by decide +kernel
theorem dX7_digest_242 : decode cX7_digest 242 = .ok (.i2l, 1) := by decide +kernel
theorem dX7_digest_243 : decode cX7_digest 243 = .ok (.invokestatic 340, 3) := by decide +kernel
theorem dX7_digest_246 : decode cX7_digest 246 = .ok (.lreturn, 1) := by decide +kernel
def f_X7_digest_168 (K36 : Nat → Int64 → Int32 → zM → Option (Int64 × zM)) (n : Nat) (a0 : Nat) (j1 : Int64) (i3 : Int32) (a4 : Nat) (M : zM) : Option (Int64 × zM) := match n with
  | 0 => none
  | n + 1 =>
    if mK M a4 = 4 then
    (f_Jx35411_hasNext_aae02 a4 M).bind fun r1 =>
    if r1.1 = 0 then
    (gR 13 1 r1.2 a0).bind fun v3 =>
    (lQ 2 r1.2 v3 i3).bind fun v4 =>
    if mK r1.2 v4 = 12 then
    (f_X6_waits v4 r1.2).bind fun r5 =>
    (f_X7_add j1 r5.1 r5.2).bind fun r7 =>
    if mK r7.2 a0 = 13 then
    (f_X7_leadNow a0 i3 r7.2).bind fun r8 =>
    if (FP.dmul ((4616189618054758400 : UInt64)) r8.1) &&& 0x7fffffffffffffff ≤ 0x7ff0000000000000 then
    (f_X7_add r7.1 ((FP.d2l ((FP.dmul ((4616189618054758400 : UInt64)) r8.1)))) r8.2).bind fun r10 =>
    K36 a0 r10.1 ((i3 + (1 : Int32))) r10.2
    else none
    else none
    else none
    else
    if mK r1.2 a4 = 4 then
    (f_Jx35411_next_0502b a4 r1.2).bind fun r12 =>
    if mK r12.2 r12.1 = 3 ∨ mK r12.2 r12.1 = 303 then
    if mK r12.2 r12.1 = 3 ∨ mK r12.2 r12.1 = 303 then
    (f_J6_intValue_8abf5 r12.1 r12.2).bind fun r15 =>
    (f_X7_add j1 ((r15.1.toInt64)) r15.2).bind fun r17 =>
    f_X7_digest_168 K36 n a0 r17.1 i3 a4 r17.2
    else none
    else none
    else none
    else none
set_option maxRecDepth 20000 in
set_option maxHeartbeats 4000000 in
theorem s_X7_digest_168 {L : zL} {X : zX} {M0 : zM} {N : Nat × Nat} {Q : State → Prop} {r : Int64 × zM} {K36 : Nat → Int64 → Int32 → zM → Option (Int64 × zM)} (hK36 : ∀ (a0 : Nat) (j1 : Int64) (i3 : Int32) (M : zM), K36 a0 j1 i3 M = some r → V L X yX7_digest cX7_digest 6 (some FieldType.long) 134 M0 N Q M 36 [(0, .ref (zad L (a0))), (1, .long (j1)), (3, .int (i3))] []) (hq : vQ L X M0 N Q (some (.long r.1)) r.2) {n : Nat} {a0 : Nat} {j1 : Int64} {i3 : Int32} {a4 : Nat} {M : zM} : f_X7_digest_168 K36 n a0 j1 i3 a4 M = some r → V L X yX7_digest cX7_digest 6 (some FieldType.long) 134 M0 N Q M 168 [(0, .ref (zad L (a0))), (1, .long (j1)), (3, .int (i3)), (4, .ref (zad L (a4)))] [] := by
  induction n generalizing a0 j1 i3 a4 M with
  | zero =>
    intro h
    rw [f_X7_digest_168] at h
    cases h
  | succ n ih0 =>
    intro h
    have ih : ∀ (a0 : Nat) (j1 : Int64) (i3 : Int32) (a4 : Nat) (M : zM), f_X7_digest_168 K36 n a0 j1 i3 a4 M = some r → V L X yX7_digest cX7_digest 6 (some FieldType.long) 134 M0 N Q M 168 [(0, .ref (zad L (a0))), (1, .long (j1)), (3, .int (i3)), (4, .ref (zad L (a4)))] [] := fun a0 j1 i3 a4 M h => ih0 h
    rw [f_X7_digest_168] at h
    refine V_aload dX7_digest_168 3 rfl ?_
    replace h := ox h
    obtain ⟨c2, h⟩ := h
    replace h := ob h
    obtain ⟨r1, e_r1, h⟩ := h
    refine V_callF_I (As := []) (rest := []) (c_Jx35411_hasNext_aae02 e_r1) zc_Jx35411_hasNext_aae02 rfl (by decide) rfl (by decide) (Or.inl c2) zm_X7_201 (Nat.le_of_ble_eq_true rfl) rfl dX7_digest_170 ?_
    refine V_pc (pc' := 175) rfl ?_
    refine V_if_eq (tgt := 204) dX7_digest_175 (by decide) (fun c18 => ?_) (fun c18 => ?_)
    · replace h := (oi h).1 c18
      refine V_lload_n dX7_digest_204 rfl 1 rfl ?_
      refine V_aload_n dX7_digest_205 rfl 0 rfl ?_
      replace h := ob h
      obtain ⟨v3, e_v3, h⟩ := h
      refine V_getR zf_13_1 zl_X7_38 e_v3 dX7_digest_206 ?_
      refine V_pc (pc' := 209) rfl ?_
      refine V_iload_n dX7_digest_209 rfl 2 rfl ?_
      replace h := ob h
      obtain ⟨v4, e_v4, h⟩ := h
      refine V_aald (by decide) e_v4 dX7_digest_210 ?_
      refine V_pc (pc' := 211) rfl ?_
      replace h := ox h
      obtain ⟨c6, h⟩ := h
      replace h := ob h
      obtain ⟨r5, e_r5, h⟩ := h
      refine V_callV_J (As := []) (rest := [.long (j1)]) (c_X6_waits e_r5) zc_X6_waits rfl (by decide) rfl (by decide) (Or.inl c6) zm_X7_248 (Nat.le_of_ble_eq_true rfl) rfl dX7_digest_211 ?_
      refine V_pc (pc' := 214) rfl ?_
      replace h := ob h
      obtain ⟨r7, e_r7, h⟩ := h
      refine V_callS_J (As := [.long (j1), .long (r5.1)]) (rest := []) (c_X7_add e_r7) zc_X7_add rfl (by decide) zm_X7_340 (Nat.le_of_ble_eq_true rfl) rfl dX7_digest_214 ?_
      refine V_pc (pc' := 217) rfl ?_
      refine V_ldc2d zcn_X7_318 dX7_digest_217 ?_
      refine V_aload_n dX7_digest_220 rfl 0 rfl ?_
      refine V_iload_n dX7_digest_221 rfl 2 rfl ?_
      replace h := ox h
      obtain ⟨c9, h⟩ := h
      replace h := ob h
      obtain ⟨r8, e_r8, h⟩ := h
      refine V_callV_D (As := [.int (i3)]) (rest := [.double ((4616189618054758400 : UInt64)), .long (r7.1)]) (c_X7_leadNow e_r8) zc_X7_leadNow rfl (by decide) rfl (by decide) (Or.inl c9) zm_X7_320 (Nat.le_of_ble_eq_true rfl) rfl dX7_digest_222 ?_
      refine V_pc (pc' := 225) rfl ?_
      replace h := ox h
      obtain ⟨c11, h⟩ := h
      refine V_dmul dX7_digest_225 c11 ?_
      refine V_d2l dX7_digest_226 ?_
      replace h := ob h
      obtain ⟨r10, e_r10, h⟩ := h
      refine V_callS_J (As := [.long (r7.1), .long ((FP.d2l ((FP.dmul ((4616189618054758400 : UInt64)) r8.1))))]) (rest := []) (c_X7_add e_r10) zc_X7_add rfl (by decide) zm_X7_340 (Nat.le_of_ble_eq_true rfl) rfl dX7_digest_227 ?_
      refine V_pc (pc' := 230) rfl ?_
      refine V_lstore_n (ls' := [(1, .long (r10.1)), (0, .ref (zad L (a0))), (3, .int (i3)), (4, .ref (zad L (a4)))]) dX7_digest_230 rfl (by decide) rfl ?_
      refine V_iinc (v := i3 + (1 : Int32)) (ls' := [(3, .int ((i3 + (1 : Int32)))), (1, .long (r10.1)), (0, .ref (zad L (a0))), (4, .ref (zad L (a4)))]) dX7_digest_231 2 rfl (by rfl) (by decide) rfl ?_
      refine V_goto (tgt := 36) dX7_digest_234 (by decide) ?_
      refine V_sub [2, 1, 0] rfl ?_
      exact hK36 _ _ _ _ h
    · replace h := (oi h).2 c18
      refine V_aload dX7_digest_178 3 rfl ?_
      replace h := ox h
      obtain ⟨c13, h⟩ := h
      replace h := ob h
      obtain ⟨r12, e_r12, h⟩ := h
      refine V_callF_A (As := []) (rest := []) (c_Jx35411_next_0502b e_r12) zc_Jx35411_next_0502b rfl (by decide) rfl (by decide) (Or.inl c13) zm_X7_206 (Nat.le_of_ble_eq_true rfl) rfl dX7_digest_180 ?_
      refine V_pc (pc' := 185) rfl ?_
      replace h := ox h
      obtain ⟨c14, h⟩ := h
      refine V_cast (k := 3) rfl (by decide) c14 zk_X7_129 dX7_digest_185 ?_
      replace h := ox h
      obtain ⟨c16, h⟩ := h
      replace h := ob h
      obtain ⟨r15, e_r15, h⟩ := h
      refine V_callV_I (As := []) (rest := []) (c_J6_intValue_8abf5 e_r15) zc_J6_intValue_8abf5 rfl (by decide) rfl (by decide) (c16) zm_X7_284 (Nat.le_of_ble_eq_true rfl) rfl dX7_digest_188 ?_
      refine V_pc (pc' := 191) rfl ?_
      refine V_istore (ls' := [(5, .int (r15.1)), (0, .ref (zad L (a0))), (1, .long (j1)), (3, .int (i3)), (4, .ref (zad L (a4)))]) dX7_digest_191 (by decide) rfl ?_
      refine V_lload_n dX7_digest_193 rfl 2 rfl ?_
      refine V_iload dX7_digest_194 0 rfl ?_
      refine V_i2l dX7_digest_196 ?_
      replace h := ob h
      obtain ⟨r17, e_r17, h⟩ := h
      refine V_callS_J (As := [.long (j1), .long ((r15.1.toInt64))]) (rest := []) (c_X7_add e_r17) zc_X7_add rfl (by decide) zm_X7_340 (Nat.le_of_ble_eq_true rfl) rfl dX7_digest_197 ?_
      refine V_pc (pc' := 200) rfl ?_
      refine V_lstore_n (ls' := [(1, .long (r17.1)), (5, .int (r15.1)), (0, .ref (zad L (a0))), (3, .int (i3)), (4, .ref (zad L (a4)))]) dX7_digest_200 rfl (by decide) rfl ?_
      refine V_goto (tgt := 168) dX7_digest_201 (by decide) ?_
      refine V_sub [2, 0, 3, 4] rfl ?_
      exact ih _ _ _ _ _ h
def f_X7_digest_118 (K36 : Nat → Int64 → Int32 → zM → Option (Int64 × zM)) (n : Nat) (a0 : Nat) (j1 : Int64) (i3 : Int32) (a4 : Nat) (M : zM) : Option (Int64 × zM) := match n with
  | 0 => none
  | n + 1 =>
    if mK M a4 = 4 then
    (f_Jx35411_hasNext_aae02 a4 M).bind fun r1 =>
    if r1.1 = 0 then
    (gR 13 1 r1.2 a0).bind fun v3 =>
    (lQ 2 r1.2 v3 i3).bind fun v4 =>
    (gR 12 4 r1.2 v4).bind fun v5 =>
    if mK r1.2 v5 = 5 then
    (f_Jx4a65c_iterator_32c93 v5 r1.2).bind fun r6 =>
    f_X7_digest_168 K36 zN a0 j1 i3 r6.1 r6.2
    else none
    else
    if mK r1.2 a4 = 4 then
    (f_Jx35411_next_0502b a4 r1.2).bind fun r8 =>
    if mK r8.2 r8.1 = 11 ∨ mK r8.2 r8.1 = 311 then
    (f_X7_ofSetNow r8.1 r8.2).bind fun r11 =>
    (f_X7_add j1 ((r11.1.toInt64)) r11.2).bind fun r12 =>
    f_X7_digest_118 K36 n a0 r12.1 i3 a4 r12.2
    else none
    else none
    else none
set_option maxRecDepth 20000 in
set_option maxHeartbeats 4000000 in
theorem s_X7_digest_118 {L : zL} {X : zX} {M0 : zM} {N : Nat × Nat} {Q : State → Prop} {r : Int64 × zM} {K36 : Nat → Int64 → Int32 → zM → Option (Int64 × zM)} (hK36 : ∀ (a0 : Nat) (j1 : Int64) (i3 : Int32) (M : zM), K36 a0 j1 i3 M = some r → V L X yX7_digest cX7_digest 6 (some FieldType.long) 134 M0 N Q M 36 [(0, .ref (zad L (a0))), (1, .long (j1)), (3, .int (i3))] []) (hq : vQ L X M0 N Q (some (.long r.1)) r.2) {n : Nat} {a0 : Nat} {j1 : Int64} {i3 : Int32} {a4 : Nat} {M : zM} : f_X7_digest_118 K36 n a0 j1 i3 a4 M = some r → V L X yX7_digest cX7_digest 6 (some FieldType.long) 134 M0 N Q M 118 [(0, .ref (zad L (a0))), (1, .long (j1)), (3, .int (i3)), (4, .ref (zad L (a4)))] [] := by
  induction n generalizing a0 j1 i3 a4 M with
  | zero =>
    intro h
    rw [f_X7_digest_118] at h
    cases h
  | succ n ih0 =>
    intro h
    have ih : ∀ (a0 : Nat) (j1 : Int64) (i3 : Int32) (a4 : Nat) (M : zM), f_X7_digest_118 K36 n a0 j1 i3 a4 M = some r → V L X yX7_digest cX7_digest 6 (some FieldType.long) 134 M0 N Q M 118 [(0, .ref (zad L (a0))), (1, .long (j1)), (3, .int (i3)), (4, .ref (zad L (a4)))] [] := fun a0 j1 i3 a4 M h => ih0 h
    rw [f_X7_digest_118] at h
    refine V_aload dX7_digest_118 3 rfl ?_
    replace h := ox h
    obtain ⟨c2, h⟩ := h
    replace h := ob h
    obtain ⟨r1, e_r1, h⟩ := h
    refine V_callF_I (As := []) (rest := []) (c_Jx35411_hasNext_aae02 e_r1) zc_Jx35411_hasNext_aae02 rfl (by decide) rfl (by decide) (Or.inl c2) zm_X7_201 (Nat.le_of_ble_eq_true rfl) rfl dX7_digest_120 ?_
    refine V_pc (pc' := 125) rfl ?_
    refine V_if_eq (tgt := 154) dX7_digest_125 (by decide) (fun c13 => ?_) (fun c13 => ?_)
    · replace h := (oi h).1 c13
      refine V_aload_n dX7_digest_154 rfl 0 rfl ?_
      replace h := ob h
      obtain ⟨v3, e_v3, h⟩ := h
      refine V_getR zf_13_1 zl_X7_38 e_v3 dX7_digest_155 ?_
      refine V_pc (pc' := 158) rfl ?_
      refine V_iload_n dX7_digest_158 rfl 2 rfl ?_
      replace h := ob h
      obtain ⟨v4, e_v4, h⟩ := h
      refine V_aald (by decide) e_v4 dX7_digest_159 ?_
      refine V_pc (pc' := 160) rfl ?_
      replace h := ob h
      obtain ⟨v5, e_v5, h⟩ := h
      refine V_getR zf_12_4 zl_X7_124 e_v5 dX7_digest_160 ?_
      refine V_pc (pc' := 163) rfl ?_
      replace h := ox h
      obtain ⟨c7, h⟩ := h
      replace h := ob h
      obtain ⟨r6, e_r6, h⟩ := h
      refine V_callV_A (As := []) (rest := []) (c_Jx4a65c_iterator_32c93 e_r6) zc_Jx4a65c_iterator_32c93 rfl (by decide) rfl (by decide) (Or.inl c7) zm_X7_197 (Nat.le_of_ble_eq_true rfl) rfl dX7_digest_163 ?_
      refine V_pc (pc' := 166) rfl ?_
      refine V_astore (ls' := [(4, .ref (zad L (r6.1))), (0, .ref (zad L (a0))), (1, .long (j1)), (3, .int (i3))]) dX7_digest_166 (by decide) rfl ?_
      refine V_sub [1, 2, 3, 0] rfl ?_
      exact s_X7_digest_168 hK36 hq h
    · replace h := (oi h).2 c13
      refine V_aload dX7_digest_128 3 rfl ?_
      replace h := ox h
      obtain ⟨c9, h⟩ := h
      replace h := ob h
      obtain ⟨r8, e_r8, h⟩ := h
      refine V_callF_A (As := []) (rest := []) (c_Jx35411_next_0502b e_r8) zc_Jx35411_next_0502b rfl (by decide) rfl (by decide) (Or.inl c9) zm_X7_206 (Nat.le_of_ble_eq_true rfl) rfl dX7_digest_130 ?_
      refine V_pc (pc' := 135) rfl ?_
      replace h := ox h
      obtain ⟨c10, h⟩ := h
      refine V_cast (k := 11) rfl (by decide) c10 zk_X7_186 dX7_digest_135 ?_
      refine V_astore (ls' := [(5, .ref (zad L (r8.1))), (0, .ref (zad L (a0))), (1, .long (j1)), (3, .int (i3)), (4, .ref (zad L (a4)))]) dX7_digest_138 (by decide) rfl ?_
      refine V_lload_n dX7_digest_140 rfl 2 rfl ?_
      refine V_aload dX7_digest_141 0 rfl ?_
      replace h := ob h
      obtain ⟨r11, e_r11, h⟩ := h
      refine V_callS_I (As := [.ref (zad L (r8.1))]) (rest := [.long (j1)]) (c_X7_ofSetNow e_r11) zc_X7_ofSetNow rfl (by decide) zm_X7_280 (Nat.le_of_ble_eq_true rfl) rfl dX7_digest_143 ?_
      refine V_pc (pc' := 146) rfl ?_
      refine V_i2l dX7_digest_146 ?_
      replace h := ob h
      obtain ⟨r12, e_r12, h⟩ := h
      refine V_callS_J (As := [.long (j1), .long ((r11.1.toInt64))]) (rest := []) (c_X7_add e_r12) zc_X7_add rfl (by decide) zm_X7_340 (Nat.le_of_ble_eq_true rfl) rfl dX7_digest_147 ?_
      refine V_pc (pc' := 150) rfl ?_
      refine V_lstore_n (ls' := [(1, .long (r12.1)), (5, .ref (zad L (r8.1))), (0, .ref (zad L (a0))), (3, .int (i3)), (4, .ref (zad L (a4)))]) dX7_digest_150 rfl (by decide) rfl ?_
      refine V_goto (tgt := 118) dX7_digest_151 (by decide) ?_
      refine V_sub [2, 0, 3, 4] rfl ?_
      exact ih _ _ _ _ _ h
def f_X7_digest_73 (K36 : Nat → Int64 → Int32 → zM → Option (Int64 × zM)) (n : Nat) (a0 : Nat) (j1 : Int64) (i3 : Int32) (i4 : Int32) (M : zM) : Option (Int64 × zM) := match n with
  | 0 => none
  | n + 1 =>
    if ((25 : Int32)) ≤ i4 then
    (gR 13 1 M a0).bind fun v1 =>
    (lQ 2 M v1 i3).bind fun v2 =>
    (gR 12 3 M v2).bind fun v3 =>
    if mK M v3 = 5 then
    (f_Jx4a65c_iterator_32c93 v3 M).bind fun r4 =>
    f_X7_digest_118 K36 zN a0 j1 i3 r4.1 r4.2
    else none
    else
    (gR 13 1 M a0).bind fun v6 =>
    (lQ 2 M v6 i3).bind fun v7 =>
    (gR 12 2 M v7).bind fun v8 =>
    (lA 0 M v8 i4).bind fun v9 =>
    (f_X7_add j1 ((v9.toInt64)) M).bind fun r10 =>
    f_X7_digest_73 K36 n a0 r10.1 i3 ((i4 + (1 : Int32))) r10.2
set_option maxRecDepth 20000 in
set_option maxHeartbeats 4000000 in
theorem s_X7_digest_73 {L : zL} {X : zX} {M0 : zM} {N : Nat × Nat} {Q : State → Prop} {r : Int64 × zM} {K36 : Nat → Int64 → Int32 → zM → Option (Int64 × zM)} (hK36 : ∀ (a0 : Nat) (j1 : Int64) (i3 : Int32) (M : zM), K36 a0 j1 i3 M = some r → V L X yX7_digest cX7_digest 6 (some FieldType.long) 134 M0 N Q M 36 [(0, .ref (zad L (a0))), (1, .long (j1)), (3, .int (i3))] []) (hq : vQ L X M0 N Q (some (.long r.1)) r.2) {n : Nat} {a0 : Nat} {j1 : Int64} {i3 : Int32} {i4 : Int32} {M : zM} : f_X7_digest_73 K36 n a0 j1 i3 i4 M = some r → V L X yX7_digest cX7_digest 6 (some FieldType.long) 134 M0 N Q M 73 [(0, .ref (zad L (a0))), (1, .long (j1)), (3, .int (i3)), (4, .int (i4))] [] := by
  induction n generalizing a0 j1 i3 i4 M with
  | zero =>
    intro h
    rw [f_X7_digest_73] at h
    cases h
  | succ n ih0 =>
    intro h
    have ih : ∀ (a0 : Nat) (j1 : Int64) (i3 : Int32) (i4 : Int32) (M : zM), f_X7_digest_73 K36 n a0 j1 i3 i4 M = some r → V L X yX7_digest cX7_digest 6 (some FieldType.long) 134 M0 N Q M 73 [(0, .ref (zad L (a0))), (1, .long (j1)), (3, .int (i3)), (4, .int (i4))] [] := fun a0 j1 i3 i4 M h => ih0 h
    rw [f_X7_digest_73] at h
    refine V_iload dX7_digest_73 3 rfl ?_
    refine V_bipush (v := 25) dX7_digest_75 (by decide) ?_
    refine V_icmp_ge (tgt := 104) dX7_digest_77 (by decide) (fun c11 => ?_) (fun c11 => ?_)
    · replace h := (oi h).1 c11
      refine V_aload_n dX7_digest_104 rfl 0 rfl ?_
      replace h := ob h
      obtain ⟨v1, e_v1, h⟩ := h
      refine V_getR zf_13_1 zl_X7_38 e_v1 dX7_digest_105 ?_
      refine V_pc (pc' := 108) rfl ?_
      refine V_iload_n dX7_digest_108 rfl 2 rfl ?_
      replace h := ob h
      obtain ⟨v2, e_v2, h⟩ := h
      refine V_aald (by decide) e_v2 dX7_digest_109 ?_
      refine V_pc (pc' := 110) rfl ?_
      replace h := ob h
      obtain ⟨v3, e_v3, h⟩ := h
      refine V_getR zf_12_3 zl_X7_183 e_v3 dX7_digest_110 ?_
      refine V_pc (pc' := 113) rfl ?_
      replace h := ox h
      obtain ⟨c5, h⟩ := h
      replace h := ob h
      obtain ⟨r4, e_r4, h⟩ := h
      refine V_callV_A (As := []) (rest := []) (c_Jx4a65c_iterator_32c93 e_r4) zc_Jx4a65c_iterator_32c93 rfl (by decide) rfl (by decide) (Or.inl c5) zm_X7_197 (Nat.le_of_ble_eq_true rfl) rfl dX7_digest_113 ?_
      refine V_pc (pc' := 116) rfl ?_
      refine V_astore (ls' := [(4, .ref (zad L (r4.1))), (0, .ref (zad L (a0))), (1, .long (j1)), (3, .int (i3))]) dX7_digest_116 (by decide) rfl ?_
      refine V_sub [1, 2, 3, 0] rfl ?_
      exact s_X7_digest_118 hK36 hq h
    · replace h := (oi h).2 c11
      refine V_lload_n dX7_digest_80 rfl 1 rfl ?_
      refine V_aload_n dX7_digest_81 rfl 0 rfl ?_
      replace h := ob h
      obtain ⟨v6, e_v6, h⟩ := h
      refine V_getR zf_13_1 zl_X7_38 e_v6 dX7_digest_82 ?_
      refine V_pc (pc' := 85) rfl ?_
      refine V_iload_n dX7_digest_85 rfl 2 rfl ?_
      replace h := ob h
      obtain ⟨v7, e_v7, h⟩ := h
      refine V_aald (by decide) e_v7 dX7_digest_86 ?_
      refine V_pc (pc' := 87) rfl ?_
      replace h := ob h
      obtain ⟨v8, e_v8, h⟩ := h
      refine V_getR zf_12_2 zl_X7_94 e_v8 dX7_digest_87 ?_
      refine V_pc (pc' := 90) rfl ?_
      refine V_iload dX7_digest_90 3 rfl ?_
      replace h := ob h
      obtain ⟨v9, e_v9, h⟩ := h
      refine V_iald e_v9 dX7_digest_92 ?_
      refine V_pc (pc' := 93) rfl ?_
      refine V_i2l dX7_digest_93 ?_
      replace h := ob h
      obtain ⟨r10, e_r10, h⟩ := h
      refine V_callS_J (As := [.long (j1), .long ((v9.toInt64))]) (rest := []) (c_X7_add e_r10) zc_X7_add rfl (by decide) zm_X7_340 (Nat.le_of_ble_eq_true rfl) rfl dX7_digest_94 ?_
      refine V_pc (pc' := 97) rfl ?_
      refine V_lstore_n (ls' := [(1, .long (r10.1)), (0, .ref (zad L (a0))), (3, .int (i3)), (4, .int (i4))]) dX7_digest_97 rfl (by decide) rfl ?_
      refine V_iinc (v := i4 + (1 : Int32)) (ls' := [(4, .int ((i4 + (1 : Int32)))), (1, .long (r10.1)), (0, .ref (zad L (a0))), (3, .int (i3))]) dX7_digest_98 3 rfl (by rfl) (by decide) rfl ?_
      refine V_goto (tgt := 73) dX7_digest_101 (by decide) ?_
      refine V_sub [2, 1, 3, 0] rfl ?_
      exact ih _ _ _ _ _ h
def f_X7_digest_44 (K36 : Nat → Int64 → Int32 → zM → Option (Int64 × zM)) (n : Nat) (a0 : Nat) (j1 : Int64) (i3 : Int32) (i4 : Int32) (M : zM) : Option (Int64 × zM) := match n with
  | 0 => none
  | n + 1 =>
    if ((10 : Int32)) ≤ i4 then
    f_X7_digest_73 K36 zN a0 j1 i3 ((0 : Int32)) M
    else
    if mK M a0 = 13 then
    (f_X7_ofPlayerNow a0 i3 i4 M).bind fun r1 =>
    (f_X7_add j1 ((r1.1.toInt64)) r1.2).bind fun r3 =>
    f_X7_digest_44 K36 n a0 r3.1 i3 ((i4 + (1 : Int32))) r3.2
    else none
set_option maxRecDepth 20000 in
set_option maxHeartbeats 4000000 in
theorem s_X7_digest_44 {L : zL} {X : zX} {M0 : zM} {N : Nat × Nat} {Q : State → Prop} {r : Int64 × zM} {K36 : Nat → Int64 → Int32 → zM → Option (Int64 × zM)} (hK36 : ∀ (a0 : Nat) (j1 : Int64) (i3 : Int32) (M : zM), K36 a0 j1 i3 M = some r → V L X yX7_digest cX7_digest 6 (some FieldType.long) 134 M0 N Q M 36 [(0, .ref (zad L (a0))), (1, .long (j1)), (3, .int (i3))] []) (hq : vQ L X M0 N Q (some (.long r.1)) r.2) {n : Nat} {a0 : Nat} {j1 : Int64} {i3 : Int32} {i4 : Int32} {M : zM} : f_X7_digest_44 K36 n a0 j1 i3 i4 M = some r → V L X yX7_digest cX7_digest 6 (some FieldType.long) 134 M0 N Q M 44 [(0, .ref (zad L (a0))), (1, .long (j1)), (3, .int (i3)), (4, .int (i4))] [] := by
  induction n generalizing a0 j1 i3 i4 M with
  | zero =>
    intro h
    rw [f_X7_digest_44] at h
    cases h
  | succ n ih0 =>
    intro h
    have ih : ∀ (a0 : Nat) (j1 : Int64) (i3 : Int32) (i4 : Int32) (M : zM), f_X7_digest_44 K36 n a0 j1 i3 i4 M = some r → V L X yX7_digest cX7_digest 6 (some FieldType.long) 134 M0 N Q M 44 [(0, .ref (zad L (a0))), (1, .long (j1)), (3, .int (i3)), (4, .int (i4))] [] := fun a0 j1 i3 i4 M h => ih0 h
    rw [f_X7_digest_44] at h
    refine V_iload dX7_digest_44 3 rfl ?_
    refine V_bipush (v := 10) dX7_digest_46 (by decide) ?_
    refine V_icmp_ge (tgt := 70) dX7_digest_48 (by decide) (fun c4 => ?_) (fun c4 => ?_)
    · replace h := (oi h).1 c4
      refine V_iconst (v := 0) dX7_digest_70 (by decide) ?_
      refine V_istore (ls' := [(4, .int ((0 : Int32))), (0, .ref (zad L (a0))), (1, .long (j1)), (3, .int (i3))]) dX7_digest_71 (by decide) rfl ?_
      refine V_sub [1, 2, 3, 0] rfl ?_
      exact s_X7_digest_73 hK36 hq h
    · replace h := (oi h).2 c4
      refine V_lload_n dX7_digest_51 rfl 1 rfl ?_
      refine V_aload_n dX7_digest_52 rfl 0 rfl ?_
      refine V_iload_n dX7_digest_53 rfl 2 rfl ?_
      refine V_iload dX7_digest_54 3 rfl ?_
      replace h := ox h
      obtain ⟨c2, h⟩ := h
      replace h := ob h
      obtain ⟨r1, e_r1, h⟩ := h
      refine V_callV_I (As := [.int (i3), .int (i4)]) (rest := [.long (j1)]) (c_X7_ofPlayerNow e_r1) zc_X7_ofPlayerNow rfl (by decide) rfl (by decide) (Or.inl c2) zm_X7_274 (Nat.le_of_ble_eq_true rfl) rfl dX7_digest_56 ?_
      refine V_pc (pc' := 59) rfl ?_
      refine V_i2l dX7_digest_59 ?_
      replace h := ob h
      obtain ⟨r3, e_r3, h⟩ := h
      refine V_callS_J (As := [.long (j1), .long ((r1.1.toInt64))]) (rest := []) (c_X7_add e_r3) zc_X7_add rfl (by decide) zm_X7_340 (Nat.le_of_ble_eq_true rfl) rfl dX7_digest_60 ?_
      refine V_pc (pc' := 63) rfl ?_
      refine V_lstore_n (ls' := [(1, .long (r3.1)), (0, .ref (zad L (a0))), (3, .int (i3)), (4, .int (i4))]) dX7_digest_63 rfl (by decide) rfl ?_
      refine V_iinc (v := i4 + (1 : Int32)) (ls' := [(4, .int ((i4 + (1 : Int32)))), (1, .long (r3.1)), (0, .ref (zad L (a0))), (3, .int (i3))]) dX7_digest_64 3 rfl (by rfl) (by decide) rfl ?_
      refine V_goto (tgt := 44) dX7_digest_67 (by decide) ?_
      refine V_sub [2, 1, 3, 0] rfl ?_
      exact ih _ _ _ _ _ h
def f_X7_digest_36 (n : Nat) (a0 : Nat) (j1 : Int64) (i3 : Int32) (M : zM) : Option (Int64 × zM) := match n with
  | 0 => none
  | n + 1 =>
    if ((4 : Int32)) ≤ i3 then
    if mK M a0 = 13 then
    (f_X7_bestNow a0 M).bind fun r1 =>
    (f_X7_add j1 ((r1.1.toInt64)) r1.2).bind fun r3 =>
    some (r3.1, r3.2)
    else none
    else
    f_X7_digest_44 (f_X7_digest_36 n) zN a0 j1 i3 ((0 : Int32)) M
set_option maxRecDepth 20000 in
set_option maxHeartbeats 4000000 in
theorem s_X7_digest_36 {L : zL} {X : zX} {M0 : zM} {N : Nat × Nat} {Q : State → Prop} {r : Int64 × zM} (hq : vQ L X M0 N Q (some (.long r.1)) r.2) {n : Nat} {a0 : Nat} {j1 : Int64} {i3 : Int32} {M : zM} : f_X7_digest_36 n a0 j1 i3 M = some r → V L X yX7_digest cX7_digest 6 (some FieldType.long) 134 M0 N Q M 36 [(0, .ref (zad L (a0))), (1, .long (j1)), (3, .int (i3))] [] := by
  induction n generalizing a0 j1 i3 M with
  | zero =>
    intro h
    rw [f_X7_digest_36] at h
    cases h
  | succ n ih0 =>
    intro h
    have ih : ∀ (a0 : Nat) (j1 : Int64) (i3 : Int32) (M : zM), f_X7_digest_36 n a0 j1 i3 M = some r → V L X yX7_digest cX7_digest 6 (some FieldType.long) 134 M0 N Q M 36 [(0, .ref (zad L (a0))), (1, .long (j1)), (3, .int (i3))] [] := fun a0 j1 i3 M h => ih0 h
    rw [f_X7_digest_36] at h
    refine V_iload_n dX7_digest_36 rfl 2 rfl ?_
    refine V_iconst (v := 4) dX7_digest_37 (by decide) ?_
    refine V_icmp_ge (tgt := 237) dX7_digest_38 (by decide) (fun c4 => ?_) (fun c4 => ?_)
    · replace h := (oi h).1 c4
      refine V_lload_n dX7_digest_237 rfl 1 rfl ?_
      refine V_aload_n dX7_digest_238 rfl 0 rfl ?_
      replace h := ox h
      obtain ⟨c2, h⟩ := h
      replace h := ob h
      obtain ⟨r1, e_r1, h⟩ := h
      refine V_callV_I (As := []) (rest := [.long (j1)]) (c_X7_bestNow e_r1) zc_X7_bestNow rfl (by decide) rfl (by decide) (Or.inl c2) zm_X7_327 (Nat.le_of_ble_eq_true rfl) rfl dX7_digest_239 ?_
      refine V_pc (pc' := 242) rfl ?_
      refine V_i2l dX7_digest_242 ?_
      replace h := ob h
      obtain ⟨r3, e_r3, h⟩ := h
      refine V_callS_J (As := [.long (j1), .long ((r1.1.toInt64))]) (rest := []) (c_X7_add e_r3) zc_X7_add rfl (by decide) zm_X7_340 (Nat.le_of_ble_eq_true rfl) rfl dX7_digest_243 ?_
      refine V_pc (pc' := 246) rfl ?_
      obtain rfl := Option.some.inj h
      exact V_lret rfl hq dX7_digest_246
    · replace h := (oi h).2 c4
      refine V_iconst (v := 0) dX7_digest_41 (by decide) ?_
      refine V_istore (ls' := [(4, .int ((0 : Int32))), (0, .ref (zad L (a0))), (1, .long (j1)), (3, .int (i3))]) dX7_digest_42 (by decide) rfl ?_
      refine V_sub [1, 2, 3, 0] rfl ?_
      exact s_X7_digest_44 ih hq h
def f_X7_digest_11 (n : Nat) (a0 : Nat) (j1 : Int64) (i3 : Int32) (M : zM) : Option (Int64 × zM) := match n with
  | 0 => none
  | n + 1 =>
    if ((10 : Int32)) ≤ i3 then
    f_X7_digest_36 zN a0 j1 ((0 : Int32)) M
    else
    if mK M a0 = 13 then
    (f_X7_manyNow a0 i3 M).bind fun r1 =>
    (f_X7_add j1 ((r1.1.toInt64)) r1.2).bind fun r3 =>
    f_X7_digest_11 n a0 r3.1 ((i3 + (1 : Int32))) r3.2
    else none
set_option maxRecDepth 20000 in
set_option maxHeartbeats 4000000 in
theorem s_X7_digest_11 {L : zL} {X : zX} {M0 : zM} {N : Nat × Nat} {Q : State → Prop} {r : Int64 × zM} (hq : vQ L X M0 N Q (some (.long r.1)) r.2) {n : Nat} {a0 : Nat} {j1 : Int64} {i3 : Int32} {M : zM} : f_X7_digest_11 n a0 j1 i3 M = some r → V L X yX7_digest cX7_digest 6 (some FieldType.long) 134 M0 N Q M 11 [(0, .ref (zad L (a0))), (1, .long (j1)), (3, .int (i3))] [] := by
  induction n generalizing a0 j1 i3 M with
  | zero =>
    intro h
    rw [f_X7_digest_11] at h
    cases h
  | succ n ih0 =>
    intro h
    have ih : ∀ (a0 : Nat) (j1 : Int64) (i3 : Int32) (M : zM), f_X7_digest_11 n a0 j1 i3 M = some r → V L X yX7_digest cX7_digest 6 (some FieldType.long) 134 M0 N Q M 11 [(0, .ref (zad L (a0))), (1, .long (j1)), (3, .int (i3))] [] := fun a0 j1 i3 M h => ih0 h
    rw [f_X7_digest_11] at h
    refine V_iload_n dX7_digest_11 rfl 2 rfl ?_
    refine V_bipush (v := 10) dX7_digest_12 (by decide) ?_
    refine V_icmp_ge (tgt := 34) dX7_digest_14 (by decide) (fun c4 => ?_) (fun c4 => ?_)
    · replace h := (oi h).1 c4
      refine V_iconst (v := 0) dX7_digest_34 (by decide) ?_
      refine V_istore_n (ls' := [(3, .int ((0 : Int32))), (0, .ref (zad L (a0))), (1, .long (j1))]) dX7_digest_35 rfl (by decide) rfl ?_
      refine V_sub [1, 2, 0] rfl ?_
      exact s_X7_digest_36 hq h
    · replace h := (oi h).2 c4
      refine V_lload_n dX7_digest_17 rfl 1 rfl ?_
      refine V_aload_n dX7_digest_18 rfl 0 rfl ?_
      refine V_iload_n dX7_digest_19 rfl 2 rfl ?_
      replace h := ox h
      obtain ⟨c2, h⟩ := h
      replace h := ob h
      obtain ⟨r1, e_r1, h⟩ := h
      refine V_callV_I (As := [.int (i3)]) (rest := [.long (j1)]) (c_X7_manyNow e_r1) zc_X7_manyNow rfl (by decide) rfl (by decide) (Or.inl c2) zm_X7_315 (Nat.le_of_ble_eq_true rfl) rfl dX7_digest_20 ?_
      refine V_pc (pc' := 23) rfl ?_
      refine V_i2l dX7_digest_23 ?_
      replace h := ob h
      obtain ⟨r3, e_r3, h⟩ := h
      refine V_callS_J (As := [.long (j1), .long ((r1.1.toInt64))]) (rest := []) (c_X7_add e_r3) zc_X7_add rfl (by decide) zm_X7_340 (Nat.le_of_ble_eq_true rfl) rfl dX7_digest_24 ?_
      refine V_pc (pc' := 27) rfl ?_
      refine V_lstore_n (ls' := [(1, .long (r3.1)), (0, .ref (zad L (a0))), (3, .int (i3))]) dX7_digest_27 rfl (by decide) rfl ?_
      refine V_iinc (v := i3 + (1 : Int32)) (ls' := [(3, .int ((i3 + (1 : Int32)))), (1, .long (r3.1)), (0, .ref (zad L (a0)))]) dX7_digest_28 2 rfl (by rfl) (by decide) rfl ?_
      refine V_goto (tgt := 11) dX7_digest_31 (by decide) ?_
      refine V_sub [2, 1, 0] rfl ?_
      exact ih _ _ _ _ h
def f_X7_digest_0 (a0 : Nat) (M : zM) : Option (Int64 × zM) :=
  (pI 13 0 M a0 ((0 : Int32))).bind fun M1 =>
  f_X7_digest_11 zN a0 ((58317 : Int64)) ((0 : Int32)) M1
set_option maxRecDepth 20000 in
set_option maxHeartbeats 4000000 in
theorem s_X7_digest_0 {L : zL} {X : zX} {M0 : zM} {N : Nat × Nat} {Q : State → Prop} {r : Int64 × zM} (hq : vQ L X M0 N Q (some (.long r.1)) r.2) {a0 : Nat} {M : zM} (h : f_X7_digest_0 a0 M = some r) : V L X yX7_digest cX7_digest 6 (some FieldType.long) 134 M0 N Q M 0 [(0, .ref (zad L (a0)))] [] := by
  unfold f_X7_digest_0 at h
  refine V_aload_n dX7_digest_0 rfl 0 rfl ?_
  refine V_iconst (v := 0) dX7_digest_1 (by decide) ?_
  replace h := ob h
  obtain ⟨M1, e_M1, h⟩ := h
  refine V_putI zf_13_0 zl_X7_65 (Or.inl rfl) rfl e_M1 dX7_digest_2 ?_
  refine V_pc (pc' := 5) rfl ?_
  refine V_ldc2 zcn_X7_338 dX7_digest_5 ?_
  refine V_lstore_n (ls' := [(1, .long ((58317 : Int64))), (0, .ref (zad L (a0)))]) dX7_digest_8 rfl (by decide) rfl ?_
  refine V_iconst (v := 0) dX7_digest_9 (by decide) ?_
  refine V_istore_n (ls' := [(3, .int ((0 : Int32))), (1, .long ((58317 : Int64))), (0, .ref (zad L (a0)))]) dX7_digest_10 rfl (by decide) rfl ?_
  refine V_sub [2, 1, 0] rfl ?_
  exact s_X7_digest_11 hq h
def f_X7_digest (a0 : Nat) (M : zM) : Option (Int64 × zM) := f_X7_digest_0 a0 M
theorem c_X7_digest {L : zL} {l : Launch} {a0 : Nat} {M : zM} {r : Int64 × zM} (h : f_X7_digest a0 M = some r) : CP L l yX7_digest cX7_digest 6 (some FieldType.long) 134 M [.ref (zad L (a0))] (some (.long r.1)) r.2 :=
  CP.of ⟨by decide +kernel, by decide +kernel⟩ (Nat.le_of_ble_eq_true rfl) fun X Q hq => s_X7_digest_0 hq h
/-! WindsparlourLaw$Out.<init>()V -/
theorem dX4_init_0 : decode cX4_init 0 = .ok (.aload_n 0, 1) := by decide +kernel
theorem dX4_init_1 : decode cX4_init 1 = .ok (.invokespecial 1, 3) := by decide +kernel
theorem dX4_init_4 : decode cX4_init 4 = .ok (.return_, 1) := by decide +kernel
def f_X4_init_0 (a0 : Nat) (M : zM) : Option (Unit × zM) :=
  some ((), M)
set_option maxRecDepth 20000 in
set_option maxHeartbeats 4000000 in
theorem s_X4_init_0 {L : zL} {X : zX} {M0 : zM} {N : Nat × Nat} {Q : State → Prop} {r : Unit × zM} (hq : vQ L X M0 N Q none r.2) {a0 : Nat} {M : zM} (h : f_X4_init_0 a0 M = some r) : V L X yX4_init cX4_init 1 (none : Option FieldType) 1 M0 N Q M 0 [(0, .ref (zad L (a0)))] [] := by
  unfold f_X4_init_0 at h
  refine V_aload_n dX4_init_0 rfl 0 rfl ?_
  refine V_objInit zo_X4_1 (by decide) (Nat.le_of_ble_eq_true rfl) dX4_init_1 ?_
  obtain rfl := Option.some.inj h
  exact V_vret rfl hq dX4_init_4
def f_X4_init (a0 : Nat) (M : zM) : Option (Unit × zM) := f_X4_init_0 a0 M
theorem c_X4_init {L : zL} {l : Launch} {a0 : Nat} {M : zM} {r : Unit × zM} (h : f_X4_init a0 M = some r) : CP L l yX4_init cX4_init 1 (none : Option FieldType) 1 M [.ref (zad L (a0))] none r.2 :=
  CP.of ⟨by decide +kernel, by decide +kernel⟩ (Nat.le_of_ble_eq_true rfl) fun X Q hq => s_X4_init_0 hq h
