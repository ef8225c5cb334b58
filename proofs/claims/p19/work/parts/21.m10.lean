/-! ===== METHODS, by program ===== -/
/-! WindsparlourModel.value(IZ)I -/
theorem dX7_value_0 : decode cX7_value 0 = .ok (.aload_n 0, 1) := by decide +kernel
theorem dX7_value_1 : decode cX7_value 1 = .ok (.getfield 38, 3) := by decide +kernel
theorem dX7_value_4 : decode cX7_value 4 = .ok (.iload_n 1, 1) := by decide +kernel
theorem dX7_value_5 : decode cX7_value 5 = .ok (.aaload, 1) := by decide +kernel
theorem dX7_value_6 : decode cX7_value 6 = .ok (.astore_n 3, 1) := by decide +kernel
theorem dX7_value_7 : decode cX7_value 7 = .ok (.iconst 0, 1) := by decide +kernel
theorem dX7_value_8 : decode cX7_value 8 = .ok (.istore 4, 2) := by decide +kernel
theorem dX7_value_10 : decode cX7_value 10 = .ok (.iconst 0, 1) := by decide +kernel
theorem dX7_value_11 : decode cX7_value 11 = .ok (.istore 5, 2) := by decide +kernel
theorem dX7_value_13 : decode cX7_value 13 = .ok (.aload_n 3, 1) := by decide +kernel
theorem dX7_value_14 : decode cX7_value 14 = .ok (.getfield 183, 3) := by decide +kernel
theorem dX7_value_17 : decode cX7_value 17 = .ok (.invokevirtual 197, 3) := by decide +kernel
theorem dX7_value_20 : decode cX7_value 20 = .ok (.astore 6, 2) := by decide +kernel
theorem dX7_value_22 : decode cX7_value 22 = .ok (.aload 6, 2) := by decide +kernel
theorem dX7_value_24 : decode cX7_value 24 = .ok (.invokeinterface 201 1, 5) := by decide +kernel
theorem dX7_value_29 : decode cX7_value 29 = .ok (.ifCond .eq 45, 3) := by decide +kernel
theorem dX7_value_32 : decode cX7_value 32 = .ok (.aload 6, 2) := by decide +kernel
theorem dX7_value_34 : decode cX7_value 34 = .ok (.invokeinterface 206 1, 5) := by decide +kernel
theorem dX7_value_39 : decode cX7_value 39 = .ok (.checkcast 186, 3) := by decide +kernel
theorem dX7_value_42 : decode cX7_value 42 = .ok (.astore 7, 2) := by decide +kernel
theorem dX7_value_44 : decode cX7_value 44 = .ok (.aload 7, 2) := by decide +kernel
theorem dX7_value_46 : decode cX7_value 46 = .ok (.getfield 238, 3) := by decide +kernel
theorem dX7_value_49 : decode cX7_value 49 = .ok (.iconst 1, 1) := by decide +kernel
theorem dX7_value_50 : decode cX7_value 50 = .ok (.if_icmp .eq 21, 3) := by decide +kernel
theorem dX7_value_53 : decode cX7_value 53 = .ok (.iinc 4 1, 3) := by decide +kernel
theorem dX7_value_56 : decode cX7_value 56 = .ok (.iload 5, 2) := by decide +kernel
theorem dX7_value_58 : decode cX7_value 58 = .ok (.aload_n 0, 1) := by decide +kernel
theorem dX7_value_59 : decode cX7_value 59 = .ok (.aload 7, 2) := by decide +kernel
theorem dX7_value_61 : decode cX7_value 61 = .ok (.getfield 241, 3) := by decide +kernel
theorem dX7_value_64 : decode cX7_value 64 = .ok (.iload_n 1, 1) := by decide +kernel
theorem dX7_value_65 : decode cX7_value 65 = .ok (.invokevirtual 229, 3) := by decide +kernel
theorem dX7_value_68 : decode cX7_value 68 = .ok (.iadd, 1) := by decide +kernel
theorem dX7_value_69 : decode cX7_value 69 = .ok (.istore 5, 2) := by decide +kernel
theorem dX7_value_71 : decode cX7_value 71 = .ok (.goto (-49), 3) := by decide +kernel
theorem dX7_value_74 : decode cX7_value 74 = .ok (.iconst (-1), 1) := by decide +kernel
theorem dX7_value_75 : decode cX7_value 75 = .ok (.istore 6, 2) := by decide +kernel
theorem dX7_value_77 : decode cX7_value 77 = .ok (.iconst 0, 1) := by decide +kernel
theorem dX7_value_78 : decode cX7_value 78 = .ok (.istore 7, 2) := by decide +kernel
theorem dX7_value_80 : decode cX7_value 80 = .ok (.iload 7, 2) := by decide +kernel
theorem dX7_value_82 : decode cX7_value 82 = .ok (.bipush 25, 2) := by decide +kernel
theorem dX7_value_84 : decode cX7_value 84 = .ok (.if_icmp .ge 69, 3) := by decide +kernel
theorem dX7_value_87 : decode cX7_value 87 = .ok (.aload_n 3, 1) := by decide +kernel
theorem dX7_value_88 : decode cX7_value 88 = .ok (.getfield 94, 3) := by decide +kernel
theorem dX7_value_91 : decode cX7_value 91 = .ok (.iload 7, 2) := by decide +kernel
theorem dX7_value_93 : decode cX7_value 93 = .ok (.iaload, 1) := by decide +kernel
theorem dX7_value_94 : decode cX7_value 94 = .ok (.iconst 2, 1) := by decide +kernel
theorem dX7_value_95 : decode cX7_value 95 = .ok (.if_icmp .lt 52, 3) := by decide +kernel
theorem dX7_value_98 : decode cX7_value 98 = .ok (.aload_n 3, 1) := by decide +kernel
theorem dX7_value_99 : decode cX7_value 99 = .ok (.getfield 94, 3) := by decide +kernel
theorem dX7_value_102 : decode cX7_value 102 = .ok (.iload 7, 2) := by decide +kernel
theorem dX7_value_104 : decode cX7_value 104 = .ok (.dup2, 1) := by decide +kernel
theorem dX7_value_105 : decode cX7_value 105 = .ok (.iaload, 1) := by decide +kernel
theorem dX7_value_106 : decode cX7_value 106 = .ok (.iconst 2, 1) := by decide +kernel
theorem dX7_value_107 : decode cX7_value 107 = .ok (.isub, 1) := by decide +kernel
theorem dX7_value_108 : decode cX7_value 108 = .ok (.iastore, 1) := by decide +kernel
theorem dX7_value_109 : decode cX7_value 109 = .ok (.iload 6, 2) := by decide +kernel
theorem dX7_value_111 : decode cX7_value 111 = .ok (.aload_n 0, 1) := by decide +kernel
theorem dX7_value_112 : decode cX7_value 112 = .ok (.aload_n 3, 1) := by decide +kernel
theorem dX7_value_113 : decode cX7_value 113 = .ok (.getfield 94, 3) := by decide +kernel
theorem dX7_value_116 : decode cX7_value 116 = .ok (.iload_n 1, 1) := by decide +kernel
theorem dX7_value_117 : decode cX7_value 117 = .ok (.aload_n 3, 1) := by decide +kernel
theorem dX7_value_118 : decode cX7_value 118 = .ok (.getfield 183, 3) := by decide +kernel
theorem dX7_value_121 : decode cX7_value 121 = .ok (.invokevirtual 144, 3) := by decide +kernel
theorem dX7_value_124 : decode cX7_value 124 = .ok (.iload 4, 2) := by decide +kernel
theorem dX7_value_126 : decode cX7_value 126 = .ok (.iload 5, 2) := by decide +kernel
theorem dX7_value_128 : decode cX7_value 128 = .ok (.invokevirtual 232, 3) := by decide +kernel
theorem dX7_value_131 : decode cX7_value 131 = .ok (.invokestatic 235, 3) := by decide +kernel
theorem dX7_value_134 : decode cX7_value 134 = .ok (.istore 6, 2) := by decide +kernel
theorem dX7_value_136 : decode cX7_value 136 = .ok (.aload_n 3, 1) := by decide +kernel
theorem dX7_value_137 : decode cX7_value 137 = .ok (.getfield 94, 3) := by decide +kernel
theorem dX7_value_140 : decode cX7_value 140 = .ok (.iload 7, 2) := by decide +kernel
theorem dX7_value_142 : decode cX7_value 142 = .ok (.dup2, 1) := by decide +kernel
theorem dX7_value_143 : decode cX7_value 143 = .ok (.iaload, 1) := by decide +kernel
theorem dX7_value_144 : decode cX7_value 144 = .ok (.iconst 2, 1) := by decide +kernel
theorem dX7_value_145 : decode cX7_value 145 = .ok (.iadd, 1) := by decide +kernel
theorem dX7_value_146 : decode cX7_value 146 = .ok (.iastore, 1) := by decide +kernel
theorem dX7_value_147 : decode cX7_value 147 = .ok (.iinc 7 1, 3) := by decide +kernel
theorem dX7_value_150 : decode cX7_value 150 = .ok (.goto (-70), 3) := by decide +kernel
theorem dX7_value_153 : decode cX7_value 153 = .ok (.bipush 12, 2) := by decide +kernel
theorem dX7_value_155 : decode cX7_value 155 = .ok (.iload 6, 2) := by decide +kernel
theorem dX7_value_157 : decode cX7_value 157 = .ok (.aload_n 0, 1) := by decide +kernel
theorem dX7_value_158 : decode cX7_value 158 = .ok (.aload_n 3, 1) := by decide +kernel
theorem dX7_value_159 : decode cX7_value 159 = .ok (.iload_n 2, 1) := by decide +kernel
theorem dX7_value_160 : decode cX7_value 160 = .ok (.invokevirtual 244, 3) := by decide +kernel
theorem dX7_value_163 : decode cX7_value 163 = .ok (.iadd, 1) := by decide +kernel
theorem dX7_value_164 : decode cX7_value 164 = .ok (.invokestatic 11, 3) := by decide +kernel
theorem dX7_value_167 : decode cX7_value 167 = .ok (.ireturn, 1) := by decide +kernel
def f_X7_value_80 (n : Nat) (a0 : Nat) (i1 : Int32) (i2 : Int32) (a3 : Nat) (i4 : Int32) (i5 : Int32) (i6 : Int32) (i7 : Int32) (M : zM) : Option (Int32 × zM) := match n with
  | 0 => none
  | n + 1 =>
    if ((25 : Int32)) ≤ i7 then
    if mK M a0 = 13 then
    (f_X7_valueOfTiles a0 a3 i2 M).bind fun r1 =>
    (f_J9_min_7cf53 ((12 : Int32)) ((i6 + r1.1)) r1.2).bind fun r3 =>
    some (r3.1, r3.2)
    else none
    else
    (gR 12 2 M a3).bind fun v4 =>
    (lA 0 M v4 i7).bind fun v5 =>
    if v5 < ((2 : Int32)) then
    f_X7_value_80 n a0 i1 i2 a3 i4 i5 i6 ((i7 + (1 : Int32))) M
    else
    (gR 12 2 M a3).bind fun v6 =>
    (lA 0 M v6 i7).bind fun v7 =>
    (tA M v6 i7 ((v7 - ((2 : Int32))))).bind fun M8 =>
    (gR 12 2 M8 a3).bind fun v9 =>
    (gR 12 3 M8 a3).bind fun v10 =>
    if mK M8 v10 = 5 then
    (f_Jx4a65c_size_8abf5 v10 M8).bind fun r11 =>
    if mK r11.2 a0 = 13 then
    (f_X7_valueOfSets zR a0 v9 i1 r11.1 i4 i5 r11.2).bind fun r13 =>
    (f_J9_max_7cf53 i6 r13.1 r13.2).bind fun r15 =>
    (gR 12 2 r15.2 a3).bind fun v16 =>
    (lA 0 r15.2 v16 i7).bind fun v17 =>
    (tA r15.2 v16 i7 ((v17 + ((2 : Int32))))).bind fun M18 =>
    f_X7_value_80 n a0 i1 i2 a3 i4 i5 r15.1 ((i7 + (1 : Int32))) M18
    else none
    else none
set_option maxRecDepth 20000 in
set_option maxHeartbeats 4000000 in
theorem s_X7_value_80 {L : zL} {X : zX} {M0 : zM} {N : Nat × Nat} {Q : State → Prop} {r : Int32 × zM} (hq : vQ L X M0 N Q (some (.int r.1)) r.2) {n : Nat} {a0 : Nat} {i1 : Int32} {i2 : Int32} {a3 : Nat} {i4 : Int32} {i5 : Int32} {i6 : Int32} {i7 : Int32} {M : zM} : f_X7_value_80 n a0 i1 i2 a3 i4 i5 i6 i7 M = some r → V L X yX7_value cX7_value 8 (some FieldType.int) 69 M0 N Q M 80 [(0, .ref (zad L (a0))), (1, .int (i1)), (2, .int (i2)), (3, .ref (zad L (a3))), (4, .int (i4)), (5, .int (i5)), (6, .int (i6)), (7, .int (i7))] [] := by
  induction n generalizing a0 i1 i2 a3 i4 i5 i6 i7 M with
  | zero =>
    intro h
    rw [f_X7_value_80] at h
    cases h
  | succ n ih0 =>
    intro h
    have ih : ∀ (a0 : Nat) (i1 : Int32) (i2 : Int32) (a3 : Nat) (i4 : Int32) (i5 : Int32) (i6 : Int32) (i7 : Int32) (M : zM), f_X7_value_80 n a0 i1 i2 a3 i4 i5 i6 i7 M = some r → V L X yX7_value cX7_value 8 (some FieldType.int) 69 M0 N Q M 80 [(0, .ref (zad L (a0))), (1, .int (i1)), (2, .int (i2)), (3, .ref (zad L (a3))), (4, .int (i4)), (5, .int (i5)), (6, .int (i6)), (7, .int (i7))] [] := fun a0 i1 i2 a3 i4 i5 i6 i7 M h => ih0 h
    rw [f_X7_value_80] at h
    refine V_iload dX7_value_80 7 rfl ?_
    refine V_bipush (v := 25) dX7_value_82 (by decide) ?_
    refine V_icmp_ge (tgt := 153) dX7_value_84 (by decide) (fun c20 => ?_) (fun c20 => ?_)
    · replace h := (oi h).1 c20
      refine V_bipush (v := 12) dX7_value_153 (by decide) ?_
      refine V_iload dX7_value_155 6 rfl ?_
      refine V_aload_n dX7_value_157 rfl 0 rfl ?_
      refine V_aload_n dX7_value_158 rfl 3 rfl ?_
      refine V_iload_n dX7_value_159 rfl 2 rfl ?_
      replace h := ox h
      obtain ⟨c2, h⟩ := h
      replace h := ob h
      obtain ⟨r1, e_r1, h⟩ := h
      refine V_callV_I (As := [.ref (zad L (a3)), .int (i2)]) (rest := [.int (i6), .int ((12 : Int32))]) (c_X7_valueOfTiles e_r1) zc_X7_valueOfTiles rfl (by decide) rfl (by decide) (Or.inl c2) zm_X7_244 (Nat.le_of_ble_eq_true rfl) rfl dX7_value_160 ?_
      refine V_pc (pc' := 163) rfl ?_
      refine V_iadd dX7_value_163 ?_
      replace h := ob h
      obtain ⟨r3, e_r3, h⟩ := h
      refine V_callS_I (As := [.int ((12 : Int32)), .int ((i6 + r1.1))]) (rest := []) (c_J9_min_7cf53 e_r3) zc_J9_min_7cf53 rfl (by decide) zm_X7_11 (Nat.le_of_ble_eq_true rfl) rfl dX7_value_164 ?_
      refine V_pc (pc' := 167) rfl ?_
      obtain rfl := Option.some.inj h
      exact V_iret rfl hq dX7_value_167
    · replace h := (oi h).2 c20
      refine V_aload_n dX7_value_87 rfl 3 rfl ?_
      replace h := ob h
      obtain ⟨v4, e_v4, h⟩ := h
      refine V_getR zf_12_2 zl_X7_94 e_v4 dX7_value_88 ?_
      refine V_pc (pc' := 91) rfl ?_
      refine V_iload dX7_value_91 7 rfl ?_
      replace h := ob h
      obtain ⟨v5, e_v5, h⟩ := h
      refine V_iald e_v5 dX7_value_93 ?_
      refine V_pc (pc' := 94) rfl ?_
      refine V_iconst (v := 2) dX7_value_94 (by decide) ?_
      refine V_icmp_lt (tgt := 147) dX7_value_95 (by decide) (fun c19 => ?_) (fun c19 => ?_)
      · replace h := (oi h).1 c19
        refine V_iinc (v := i7 + (1 : Int32)) (ls' := [(7, .int ((i7 + (1 : Int32)))), (0, .ref (zad L (a0))), (1, .int (i1)), (2, .int (i2)), (3, .ref (zad L (a3))), (4, .int (i4)), (5, .int (i5)), (6, .int (i6))]) dX7_value_147 7 rfl (by rfl) (by decide) rfl ?_
        refine V_goto (tgt := 80) dX7_value_150 (by decide) ?_
        refine V_sub [1, 2, 3, 4, 5, 6, 7, 0] rfl ?_
        exact ih _ _ _ _ _ _ _ _ _ h
      · replace h := (oi h).2 c19
        refine V_aload_n dX7_value_98 rfl 3 rfl ?_
        replace h := ob h
        obtain ⟨v6, e_v6, h⟩ := h
        refine V_getR zf_12_2 zl_X7_94 e_v6 dX7_value_99 ?_
        refine V_pc (pc' := 102) rfl ?_
        refine V_iload dX7_value_102 7 rfl ?_
        refine V_dup2 dX7_value_104 rfl rfl ?_
        replace h := ob h
        obtain ⟨v7, e_v7, h⟩ := h
        refine V_iald e_v7 dX7_value_105 ?_
        refine V_pc (pc' := 106) rfl ?_
        refine V_iconst (v := 2) dX7_value_106 (by decide) ?_
        refine V_isub dX7_value_107 ?_
        replace h := ob h
        obtain ⟨M8, e_M8, h⟩ := h
        refine V_iast e_M8 dX7_value_108 ?_
        refine V_iload dX7_value_109 6 rfl ?_
        refine V_aload_n dX7_value_111 rfl 0 rfl ?_
        refine V_aload_n dX7_value_112 rfl 3 rfl ?_
        replace h := ob h
        obtain ⟨v9, e_v9, h⟩ := h
        refine V_getR zf_12_2 zl_X7_94 e_v9 dX7_value_113 ?_
        refine V_pc (pc' := 116) rfl ?_
        refine V_iload_n dX7_value_116 rfl 1 rfl ?_
        refine V_aload_n dX7_value_117 rfl 3 rfl ?_
        replace h := ob h
        obtain ⟨v10, e_v10, h⟩ := h
        refine V_getR zf_12_3 zl_X7_183 e_v10 dX7_value_118 ?_
        refine V_pc (pc' := 121) rfl ?_
        replace h := ox h
        obtain ⟨c12, h⟩ := h
        replace h := ob h
        obtain ⟨r11, e_r11, h⟩ := h
        refine V_callV_I (As := []) (rest := [.int (i1), .ref (zad L (v9)), .ref (zad L (a0)), .int (i6)]) (c_Jx4a65c_size_8abf5 e_r11) zc_Jx4a65c_size_8abf5 rfl (by decide) rfl (by decide) (Or.inl c12) zm_X7_144 (Nat.le_of_ble_eq_true rfl) rfl dX7_value_121 ?_
        refine V_pc (pc' := 124) rfl ?_
        refine V_iload dX7_value_124 4 rfl ?_
        refine V_iload dX7_value_126 5 rfl ?_
        replace h := ox h
        obtain ⟨c14, h⟩ := h
        replace h := ob h
        obtain ⟨r13, e_r13, h⟩ := h
        refine V_callV_I (As := [.ref (zad L (v9)), .int (i1), .int (r11.1), .int (i4), .int (i5)]) (rest := [.int (i6)]) (c_X7_valueOfSets e_r13) zc_X7_valueOfSets rfl (by decide) rfl (by decide) (Or.inl c14) zm_X7_232 (Nat.le_of_ble_eq_true rfl) rfl dX7_value_128 ?_
        refine V_pc (pc' := 131) rfl ?_
        replace h := ob h
        obtain ⟨r15, e_r15, h⟩ := h
        refine V_callS_I (As := [.int (i6), .int (r13.1)]) (rest := []) (c_J9_max_7cf53 e_r15) zc_J9_max_7cf53 rfl (by decide) zm_X7_235 (Nat.le_of_ble_eq_true rfl) rfl dX7_value_131 ?_
        refine V_pc (pc' := 134) rfl ?_
        refine V_istore (ls' := [(6, .int (r15.1)), (0, .ref (zad L (a0))), (1, .int (i1)), (2, .int (i2)), (3, .ref (zad L (a3))), (4, .int (i4)), (5, .int (i5)), (7, .int (i7))]) dX7_value_134 (by decide) rfl ?_
        refine V_aload_n dX7_value_136 rfl 4 rfl ?_
        replace h := ob h
        obtain ⟨v16, e_v16, h⟩ := h
        refine V_getR zf_12_2 zl_X7_94 e_v16 dX7_value_137 ?_
        refine V_pc (pc' := 140) rfl ?_
        refine V_iload dX7_value_140 7 rfl ?_
        refine V_dup2 dX7_value_142 rfl rfl ?_
        replace h := ob h
        obtain ⟨v17, e_v17, h⟩ := h
        refine V_iald e_v17 dX7_value_143 ?_
        refine V_pc (pc' := 144) rfl ?_
        refine V_iconst (v := 2) dX7_value_144 (by decide) ?_
        refine V_iadd dX7_value_145 ?_
        replace h := ob h
        obtain ⟨M18, e_M18, h⟩ := h
        refine V_iast e_M18 dX7_value_146 ?_
        refine V_iinc (v := i7 + (1 : Int32)) (ls' := [(7, .int ((i7 + (1 : Int32)))), (6, .int (r15.1)), (0, .ref (zad L (a0))), (1, .int (i1)), (2, .int (i2)), (3, .ref (zad L (a3))), (4, .int (i4)), (5, .int (i5))]) dX7_value_147 7 rfl (by rfl) (by decide) rfl ?_
        refine V_goto (tgt := 80) dX7_value_150 (by decide) ?_
        refine V_sub [2, 3, 4, 5, 6, 7, 1, 0] rfl ?_
        exact ih _ _ _ _ _ _ _ _ _ h
def f_X7_value_22 (n : Nat) (a0 : Nat) (i1 : Int32) (i2 : Int32) (a3 : Nat) (i4 : Int32) (i5 : Int32) (a6 : Nat) (M : zM) : Option (Int32 × zM) := match n with
  | 0 => none
  | n + 1 =>
    if mK M a6 = 4 then
    (f_Jx35411_hasNext_aae02 a6 M).bind fun r1 =>
    if r1.1 = 0 then
    f_X7_value_80 zN a0 i1 i2 a3 i4 i5 ((-1 : Int32)) ((0 : Int32)) r1.2
    else
    if mK r1.2 a6 = 4 then
    (f_Jx35411_next_0502b a6 r1.2).bind fun r3 =>
    if mK r3.2 r3.1 = 11 ∨ mK r3.2 r3.1 = 311 then
    (gI 11 1 r3.2 r3.1).bind fun v6 =>
    if v6 = ((1 : Int32)) then
    f_X7_value_22 n a0 i1 i2 a3 i4 i5 a6 r3.2
    else
    (gI 11 0 r3.2 r3.1).bind fun v7 =>
    if mK r3.2 a0 = 13 then
    (f_X7_valueOfThree a0 v7 i1 r3.2).bind fun r8 =>
    f_X7_value_22 n a0 i1 i2 a3 ((i4 + (1 : Int32))) ((i5 + r8.1)) a6 r8.2
    else none
    else none
    else none
    else none
set_option maxRecDepth 20000 in
set_option maxHeartbeats 4000000 in
theorem s_X7_value_22 {L : zL} {X : zX} {M0 : zM} {N : Nat × Nat} {Q : State → Prop} {r : Int32 × zM} (hq : vQ L X M0 N Q (some (.int r.1)) r.2) {n : Nat} {a0 : Nat} {i1 : Int32} {i2 : Int32} {a3 : Nat} {i4 : Int32} {i5 : Int32} {a6 : Nat} {M : zM} : f_X7_value_22 n a0 i1 i2 a3 i4 i5 a6 M = some r → V L X yX7_value cX7_value 8 (some FieldType.int) 69 M0 N Q M 22 [(0, .ref (zad L (a0))), (1, .int (i1)), (2, .int (i2)), (3, .ref (zad L (a3))), (4, .int (i4)), (5, .int (i5)), (6, .ref (zad L (a6)))] [] := by
  induction n generalizing a0 i1 i2 a3 i4 i5 a6 M with
  | zero =>
    intro h
    rw [f_X7_value_22] at h
    cases h
  | succ n ih0 =>
    intro h
    have ih : ∀ (a0 : Nat) (i1 : Int32) (i2 : Int32) (a3 : Nat) (i4 : Int32) (i5 : Int32) (a6 : Nat) (M : zM), f_X7_value_22 n a0 i1 i2 a3 i4 i5 a6 M = some r → V L X yX7_value cX7_value 8 (some FieldType.int) 69 M0 N Q M 22 [(0, .ref (zad L (a0))), (1, .int (i1)), (2, .int (i2)), (3, .ref (zad L (a3))), (4, .int (i4)), (5, .int (i5)), (6, .ref (zad L (a6)))] [] := fun a0 i1 i2 a3 i4 i5 a6 M h => ih0 h
    rw [f_X7_value_22] at h
    refine V_aload dX7_value_22 6 rfl ?_
    replace h := ox h
    obtain ⟨c2, h⟩ := h
    replace h := ob h
    obtain ⟨r1, e_r1, h⟩ := h
    refine V_callF_I (As := []) (rest := []) (c_Jx35411_hasNext_aae02 e_r1) zc_Jx35411_hasNext_aae02 rfl (by decide) rfl (by decide) (Or.inl c2) zm_X7_201 (Nat.le_of_ble_eq_true rfl) rfl dX7_value_24 ?_
    refine V_pc (pc' := 29) rfl ?_
    refine V_if_eq (tgt := 74) dX7_value_29 (by decide) (fun c11 => ?_) (fun c11 => ?_)
    · replace h := (oi h).1 c11
      refine V_iconst (v := -1) dX7_value_74 (by decide) ?_
      refine V_istore (ls' := [(6, .int ((-1 : Int32))), (0, .ref (zad L (a0))), (1, .int (i1)), (2, .int (i2)), (3, .ref (zad L (a3))), (4, .int (i4)), (5, .int (i5))]) dX7_value_75 (by decide) rfl ?_
      refine V_iconst (v := 0) dX7_value_77 (by decide) ?_
      refine V_istore (ls' := [(7, .int ((0 : Int32))), (6, .int ((-1 : Int32))), (0, .ref (zad L (a0))), (1, .int (i1)), (2, .int (i2)), (3, .ref (zad L (a3))), (4, .int (i4)), (5, .int (i5))]) dX7_value_78 (by decide) rfl ?_
      refine V_sub [2, 3, 4, 5, 6, 7, 1, 0] rfl ?_
      exact s_X7_value_80 hq h
    · replace h := (oi h).2 c11
      refine V_aload dX7_value_32 6 rfl ?_
      replace h := ox h
      obtain ⟨c4, h⟩ := h
      replace h := ob h
      obtain ⟨r3, e_r3, h⟩ := h
      refine V_callF_A (As := []) (rest := []) (c_Jx35411_next_0502b e_r3) zc_Jx35411_next_0502b rfl (by decide) rfl (by decide) (Or.inl c4) zm_X7_206 (Nat.le_of_ble_eq_true rfl) rfl dX7_value_34 ?_
      refine V_pc (pc' := 39) rfl ?_
      replace h := ox h
      obtain ⟨c5, h⟩ := h
      refine V_cast (k := 11) rfl (by decide) c5 zk_X7_186 dX7_value_39 ?_
      refine V_astore (ls' := [(7, .ref (zad L (r3.1))), (0, .ref (zad L (a0))), (1, .int (i1)), (2, .int (i2)), (3, .ref (zad L (a3))), (4, .int (i4)), (5, .int (i5)), (6, .ref (zad L (a6)))]) dX7_value_42 (by decide) rfl ?_
      refine V_aload dX7_value_44 0 rfl ?_
      replace h := ob h
      obtain ⟨v6, e_v6, h⟩ := h
      refine V_getI zf_11_1 zl_X7_238 e_v6 dX7_value_46 ?_
      refine V_pc (pc' := 49) rfl ?_
      refine V_iconst (v := 1) dX7_value_49 (by decide) ?_
      refine V_icmp_eq (tgt := 71) dX7_value_50 (by decide) (fun c10 => ?_) (fun c10 => ?_)
      · replace h := (oi h).1 c10
        refine V_goto (tgt := 22) dX7_value_71 (by decide) ?_
        refine V_sub [1, 2, 3, 4, 5, 6, 7] rfl ?_
        exact ih _ _ _ _ _ _ _ _ h
      · replace h := (oi h).2 c10
        refine V_iinc (v := i4 + (1 : Int32)) (ls' := [(4, .int ((i4 + (1 : Int32)))), (7, .ref (zad L (r3.1))), (0, .ref (zad L (a0))), (1, .int (i1)), (2, .int (i2)), (3, .ref (zad L (a3))), (5, .int (i5)), (6, .ref (zad L (a6)))]) dX7_value_53 5 rfl (by rfl) (by decide) rfl ?_
        refine V_iload dX7_value_56 6 rfl ?_
        refine V_aload_n dX7_value_58 rfl 2 rfl ?_
        refine V_aload dX7_value_59 1 rfl ?_
        replace h := ob h
        obtain ⟨v7, e_v7, h⟩ := h
        refine V_getI zf_11_0 zl_X7_241 e_v7 dX7_value_61 ?_
        refine V_pc (pc' := 64) rfl ?_
        refine V_iload_n dX7_value_64 rfl 3 rfl ?_
        replace h := ox h
        obtain ⟨c9, h⟩ := h
        replace h := ob h
        obtain ⟨r8, e_r8, h⟩ := h
        refine V_callV_I (As := [.int (v7), .int (i1)]) (rest := [.int (i5)]) (c_X7_valueOfThree e_r8) zc_X7_valueOfThree rfl (by decide) rfl (by decide) (Or.inl c9) zm_X7_229 (Nat.le_of_ble_eq_true rfl) rfl dX7_value_65 ?_
        refine V_pc (pc' := 68) rfl ?_
        refine V_iadd dX7_value_68 ?_
        refine V_istore (ls' := [(5, .int ((i5 + r8.1))), (4, .int ((i4 + (1 : Int32)))), (7, .ref (zad L (r3.1))), (0, .ref (zad L (a0))), (1, .int (i1)), (2, .int (i2)), (3, .ref (zad L (a3))), (6, .ref (zad L (a6)))]) dX7_value_69 (by decide) rfl ?_
        refine V_goto (tgt := 22) dX7_value_71 (by decide) ?_
        refine V_sub [3, 4, 5, 6, 1, 0, 7] rfl ?_
        exact ih _ _ _ _ _ _ _ _ h
def f_X7_value_0 (a0 : Nat) (i1 : Int32) (i2 : Int32) (M : zM) : Option (Int32 × zM) :=
  (gR 13 1 M a0).bind fun v1 =>
  (lQ 2 M v1 i1).bind fun v2 =>
  (gR 12 3 M v2).bind fun v3 =>
  if mK M v3 = 5 then
  (f_Jx4a65c_iterator_32c93 v3 M).bind fun r4 =>
  f_X7_value_22 zN a0 i1 i2 v2 ((0 : Int32)) ((0 : Int32)) r4.1 r4.2
  else none
set_option maxRecDepth 20000 in
set_option maxHeartbeats 4000000 in
theorem s_X7_value_0 {L : zL} {X : zX} {M0 : zM} {N : Nat × Nat} {Q : State → Prop} {r : Int32 × zM} (hq : vQ L X M0 N Q (some (.int r.1)) r.2) {a0 : Nat} {i1 : Int32} {i2 : Int32} {M : zM} (h : f_X7_value_0 a0 i1 i2 M = some r) : V L X yX7_value cX7_value 8 (some FieldType.int) 69 M0 N Q M 0 [(0, .ref (zad L (a0))), (1, .int (i1)), (2, .int (i2))] [] := by
  unfold f_X7_value_0 at h
  refine V_aload_n dX7_value_0 rfl 0 rfl ?_
  replace h := ob h
  obtain ⟨v1, e_v1, h⟩ := h
  refine V_getR zf_13_1 zl_X7_38 e_v1 dX7_value_1 ?_
  refine V_pc (pc' := 4) rfl ?_
  refine V_iload_n dX7_value_4 rfl 1 rfl ?_
  replace h := ob h
  obtain ⟨v2, e_v2, h⟩ := h
  refine V_aald (by decide) e_v2 dX7_value_5 ?_
  refine V_pc (pc' := 6) rfl ?_
  refine V_astore_n (ls' := [(3, .ref (zad L (v2))), (0, .ref (zad L (a0))), (1, .int (i1)), (2, .int (i2))]) dX7_value_6 rfl (by decide) rfl ?_
  refine V_iconst (v := 0) dX7_value_7 (by decide) ?_
  refine V_istore (ls' := [(4, .int ((0 : Int32))), (3, .ref (zad L (v2))), (0, .ref (zad L (a0))), (1, .int (i1)), (2, .int (i2))]) dX7_value_8 (by decide) rfl ?_
  refine V_iconst (v := 0) dX7_value_10 (by decide) ?_
  refine V_istore (ls' := [(5, .int ((0 : Int32))), (4, .int ((0 : Int32))), (3, .ref (zad L (v2))), (0, .ref (zad L (a0))), (1, .int (i1)), (2, .int (i2))]) dX7_value_11 (by decide) rfl ?_
  refine V_aload_n dX7_value_13 rfl 2 rfl ?_
  replace h := ob h
  obtain ⟨v3, e_v3, h⟩ := h
  refine V_getR zf_12_3 zl_X7_183 e_v3 dX7_value_14 ?_
  refine V_pc (pc' := 17) rfl ?_
  replace h := ox h
  obtain ⟨c5, h⟩ := h
  replace h := ob h
  obtain ⟨r4, e_r4, h⟩ := h
  refine V_callV_A (As := []) (rest := []) (c_Jx4a65c_iterator_32c93 e_r4) zc_Jx4a65c_iterator_32c93 rfl (by decide) rfl (by decide) (Or.inl c5) zm_X7_197 (Nat.le_of_ble_eq_true rfl) rfl dX7_value_17 ?_
  refine V_pc (pc' := 20) rfl ?_
  refine V_astore (ls' := [(6, .ref (zad L (r4.1))), (5, .int ((0 : Int32))), (4, .int ((0 : Int32))), (3, .ref (zad L (v2))), (0, .ref (zad L (a0))), (1, .int (i1)), (2, .int (i2))]) dX7_value_20 (by decide) rfl ?_
  refine V_sub [4, 5, 6, 3, 2, 1, 0] rfl ?_
  exact s_X7_value_22 hq h
def f_X7_value (a0 : Nat) (i1 : Int32) (i2 : Int32) (M : zM) : Option (Int32 × zM) := f_X7_value_0 a0 i1 i2 M
theorem c_X7_value {L : zL} {l : Launch} {a0 : Nat} {i1 : Int32} {i2 : Int32} {M : zM} {r : Int32 × zM} (h : f_X7_value a0 i1 i2 M = some r) : CP L l yX7_value cX7_value 8 (some FieldType.int) 69 M [.ref (zad L (a0)), .int (i1), .int (i2)] (some (.int r.1)) r.2 :=
  CP.of ⟨by decide +kernel, by decide +kernel⟩ (Nat.le_of_ble_eq_true rfl) fun X Q hq => s_X7_value_0 hq h
/-! WindsparlourModel.isBarred(LWindsparlourModel$Player;)Z -/
theorem dX7_isBarred_0 : decode cX7_isBarred 0 = .ok (.aload_n 1, 1) := by decide +kernel
theorem dX7_isBarred_1 : decode cX7_isBarred 1 = .ok (.invokevirtual 248, 3) := by decide +kernel
theorem dX7_isBarred_4 : decode cX7_isBarred 4 = .ok (.aload_n 1, 1) := by decide +kernel
theorem dX7_isBarred_5 : decode cX7_isBarred 5 = .ok (.getfield 140, 3) := by decide +kernel
theorem dX7_isBarred_8 : decode cX7_isBarred 8 = .ok (.land, 1) := by decide +kernel
theorem dX7_isBarred_9 : decode cX7_isBarred 9 = .ok (.lconst 0, 1) := by decide +kernel
theorem dX7_isBarred_10 : decode cX7_isBarred 10 = .ok (.lcmp, 1) := by decide +kernel
theorem dX7_isBarred_11 : decode cX7_isBarred 11 = .ok (.ifCond .eq 7, 3) := by decide +kernel
theorem dX7_isBarred_14 : decode cX7_isBarred 14 = .ok (.iconst 1, 1) := by decide +kernel
theorem dX7_isBarred_15 : decode cX7_isBarred 15 = .ok (.goto 4, 3) := by decide +kernel
theorem dX7_isBarred_18 : decode cX7_isBarred 18 = .ok (.iconst 0, 1) := by decide +kernel
theorem dX7_isBarred_19 : decode cX7_isBarred 19 = .ok (.ireturn, 1) := by decide +kernel
def f_X7_isBarred_0 (a0 : Nat) (a1 : Nat) (M : zM) : Option (Int32 × zM) :=
  if mK M a1 = 12 then
  (f_X6_waits a1 M).bind fun r1 =>
  (gJ 12 5 r1.2 a1).bind fun v3 =>
  if ((lg_cmp ((r1.1 &&& v3)) ((0 : Int64)))) = 0 then
  some ((0 : Int32), r1.2)
  else
  some ((1 : Int32), r1.2)
  else none
set_option maxRecDepth 20000 in
set_option maxHeartbeats 4000000 in
theorem s_X7_isBarred_0 {L : zL} {X : zX} {M0 : zM} {N : Nat × Nat} {Q : State → Prop} {r : Int32 × zM} (hq : vQ L X M0 N Q (some (.int r.1)) r.2) {a0 : Nat} {a1 : Nat} {M : zM} (h : f_X7_isBarred_0 a0 a1 M = some r) : V L X yX7_isBarred cX7_isBarred 2 (some FieldType.boolean) 69 M0 N Q M 0 [(0, .ref (zad L (a0))), (1, .ref (zad L (a1)))] [] := by
  unfold f_X7_isBarred_0 at h
  refine V_aload_n dX7_isBarred_0 rfl 1 rfl ?_
  replace h := ox h
  obtain ⟨c2, h⟩ := h
  replace h := ob h
  obtain ⟨r1, e_r1, h⟩ := h
  refine V_callV_J (As := []) (rest := []) (c_X6_waits e_r1) zc_X6_waits rfl (by decide) rfl (by decide) (Or.inl c2) zm_X7_248 (Nat.le_of_ble_eq_true rfl) rfl dX7_isBarred_1 ?_
  refine V_pc (pc' := 4) rfl ?_
  refine V_aload_n dX7_isBarred_4 rfl 1 rfl ?_
  replace h := ob h
  obtain ⟨v3, e_v3, h⟩ := h
  refine V_getJ zf_12_5 zl_X7_140 e_v3 dX7_isBarred_5 ?_
  refine V_pc (pc' := 8) rfl ?_
  refine V_land dX7_isBarred_8 ?_
  refine V_lconst (v := 0) dX7_isBarred_9 (by decide) ?_
  refine V_lcmp dX7_isBarred_10 ?_
  refine V_if_eq (tgt := 18) dX7_isBarred_11 (by decide) (fun c4 => ?_) (fun c4 => ?_)
  · replace h := (oi h).1 c4
    refine V_iconst (v := 0) dX7_isBarred_18 (by decide) ?_
    obtain rfl := Option.some.inj h
    exact V_zret (ty := .boolean) rfl rfl hq dX7_isBarred_19
  · replace h := (oi h).2 c4
    refine V_iconst (v := 1) dX7_isBarred_14 (by decide) ?_
    refine V_goto (tgt := 19) dX7_isBarred_15 (by decide) ?_
    obtain rfl := Option.some.inj h
    exact V_zret (ty := .boolean) rfl rfl hq dX7_isBarred_19
def f_X7_isBarred (a0 : Nat) (a1 : Nat) (M : zM) : Option (Int32 × zM) := f_X7_isBarred_0 a0 a1 M
theorem c_X7_isBarred {L : zL} {l : Launch} {a0 : Nat} {a1 : Nat} {M : zM} {r : Int32 × zM} (h : f_X7_isBarred a0 a1 M = some r) : CP L l yX7_isBarred cX7_isBarred 2 (some FieldType.boolean) 69 M [.ref (zad L (a0)), .ref (zad L (a1))] (some (.int r.1)) r.2 :=
  CP.of ⟨by decide +kernel, by decide +kernel⟩ (Nat.le_of_ble_eq_true rfl) fun X Q hq => s_X7_isBarred_0 hq h
/-! WindsparlourModel.mayWin(I)Z -/
theorem dX7_mayWin_0 : decode cX7_mayWin 0 = .ok (.aload_n 0, 1) := by decide +kernel
theorem dX7_mayWin_1 : decode cX7_mayWin 1 = .ok (.getfield 38, 3) := by decide +kernel
theorem dX7_mayWin_4 : decode cX7_mayWin 4 = .ok (.iload_n 1, 1) := by decide +kernel
theorem dX7_mayWin_5 : decode cX7_mayWin 5 = .ok (.aaload, 1) := by decide +kernel
theorem dX7_mayWin_6 : decode cX7_mayWin 6 = .ok (.astore_n 2, 1) := by decide +kernel
theorem dX7_mayWin_7 : decode cX7_mayWin 7 = .ok (.aload_n 0, 1) := by decide +kernel
theorem dX7_mayWin_8 : decode cX7_mayWin 8 = .ok (.getfield 50, 3) := by decide +kernel
theorem dX7_mayWin_11 : decode cX7_mayWin 11 = .ok (.iconst 1, 1) := by decide +kernel
theorem dX7_mayWin_12 : decode cX7_mayWin 12 = .ok (.if_icmp .ne 42, 3) := by decide +kernel
theorem dX7_mayWin_15 : decode cX7_mayWin 15 = .ok (.iload_n 1, 1) := by decide +kernel
theorem dX7_mayWin_16 : decode cX7_mayWin 16 = .ok (.aload_n 0, 1) := by decide +kernel
theorem dX7_mayWin_17 : decode cX7_mayWin 17 = .ok (.getfield 82, 3) := by decide +kernel
theorem dX7_mayWin_20 : decode cX7_mayWin 20 = .ok (.if_icmp .ne 32, 3) := by decide +kernel
theorem dX7_mayWin_23 : decode cX7_mayWin 23 = .ok (.aload_n 0, 1) := by decide +kernel
theorem dX7_mayWin_24 : decode cX7_mayWin 24 = .ok (.getfield 59, 3) := by decide +kernel
theorem dX7_mayWin_27 : decode cX7_mayWin 27 = .ok (.iconst (-1), 1) := by decide +kernel
theorem dX7_mayWin_28 : decode cX7_mayWin 28 = .ok (.if_icmp .eq 24, 3) := by decide +kernel
theorem dX7_mayWin_31 : decode cX7_mayWin 31 = .ok (.aload_n 2, 1) := by decide +kernel
theorem dX7_mayWin_32 : decode cX7_mayWin 32 = .ok (.getfield 94, 3) := by decide +kernel
theorem dX7_mayWin_35 : decode cX7_mayWin 35 = .ok (.aload_n 2, 1) := by decide +kernel
theorem dX7_mayWin_36 : decode cX7_mayWin 36 = .ok (.getfield 183, 3) := by decide +kernel
theorem dX7_mayWin_39 : decode cX7_mayWin 39 = .ok (.invokevirtual 144, 3) := by decide +kernel
theorem dX7_mayWin_42 : decode cX7_mayWin 42 = .ok (.invokestatic 252, 3) := by decide +kernel
theorem dX7_mayWin_45 : decode cX7_mayWin 45 = .ok (.ifCond .eq 7, 3) := by decide +kernel
theorem dX7_mayWin_48 : decode cX7_mayWin 48 = .ok (.iconst 1, 1) := by decide +kernel
theorem dX7_mayWin_49 : decode cX7_mayWin 49 = .ok (.goto 4, 3) := by decide +kernel
theorem dX7_mayWin_52 : decode cX7_mayWin 52 = .ok (.iconst 0, 1) := by decide +kernel
theorem dX7_mayWin_53 : decode cX7_mayWin 53 = .ok (.ireturn, 1) := by decide +kernel
theorem dX7_mayWin_54 : decode cX7_mayWin 54 = .ok (.aload_n 0, 1) := by decide +kernel
theorem dX7_mayWin_55 : decode cX7_mayWin 55 = .ok (.getfield 50, 3) := by decide +kernel
theorem dX7_mayWin_58 : decode cX7_mayWin 58 = .ok (.iconst 2, 1) := by decide +kernel
theorem dX7_mayWin_59 : decode cX7_mayWin 59 = .ok (.if_icmp .ne 39, 3) := by decide +kernel
theorem dX7_mayWin_62 : decode cX7_mayWin 62 = .ok (.iload_n 1, 1) := by decide +kernel
theorem dX7_mayWin_63 : decode cX7_mayWin 63 = .ok (.aload_n 0, 1) := by decide +kernel
theorem dX7_mayWin_64 : decode cX7_mayWin 64 = .ok (.getfield 82, 3) := by decide +kernel
theorem dX7_mayWin_67 : decode cX7_mayWin 67 = .ok (.if_icmp .eq 31, 3) := by decide +kernel
theorem dX7_mayWin_70 : decode cX7_mayWin 70 = .ok (.aload_n 2, 1) := by decide +kernel
theorem dX7_mayWin_71 : decode cX7_mayWin 71 = .ok (.invokevirtual 248, 3) := by decide +kernel
theorem dX7_mayWin_74 : decode cX7_mayWin 74 = .ok (.aload_n 0, 1) := by decide +kernel
theorem dX7_mayWin_75 : decode cX7_mayWin 75 = .ok (.getfield 62, 3) := by decide +kernel
theorem dX7_mayWin_78 : decode cX7_mayWin 78 = .ok (.lshr, 1) := by decide +kernel
theorem dX7_mayWin_79 : decode cX7_mayWin 79 = .ok (.lconst 1, 1) := by decide +kernel
theorem dX7_mayWin_80 : decode cX7_mayWin 80 = .ok (.land, 1) := by decide +kernel
theorem dX7_mayWin_81 : decode cX7_mayWin 81 = .ok (.lconst 1, 1) := by decide +kernel
theorem dX7_mayWin_82 : decode cX7_mayWin 82 = .ok (.lcmp, 1) := by decide +kernel
theorem dX7_mayWin_83 : decode cX7_mayWin 83 = .ok (.ifCond .ne 15, 3) := by decide +kernel
theorem dX7_mayWin_86 : decode cX7_mayWin 86 = .ok (.aload_n 0, 1) := by decide +kernel
theorem dX7_mayWin_87 : decode cX7_mayWin 87 = .ok (.aload_n 2, 1) := by decide +kernel
theorem dX7_mayWin_88 : decode cX7_mayWin 88 = .ok (.invokevirtual 255, 3) := by decide +kernel
theorem dX7_mayWin_91 : decode cX7_mayWin 91 = .ok (.ifCond .ne 7, 3) := by decide +kernel
theorem dX7_mayWin_94 : decode cX7_mayWin 94 = .ok (.iconst 1, 1) := by decide +kernel
theorem dX7_mayWin_95 : decode cX7_mayWin 95 = .ok (.goto 4, 3) := by decide +kernel
theorem dX7_mayWin_98 : decode cX7_mayWin 98 = .ok (.iconst 0, 1) := by decide +kernel
theorem dX7_mayWin_99 : decode cX7_mayWin 99 = .ok (.ireturn, 1) := by decide +kernel
def f_X7_mayWin_0 (a0 : Nat) (i1 : Int32) (M : zM) : Option (Int32 × zM) :=
  (gR 13 1 M a0).bind fun v1 =>
  (lQ 2 M v1 i1).bind fun v2 =>
  (gI 13 6 M a0).bind fun v3 =>
  if v3 = ((1 : Int32)) then
  (gI 13 7 M a0).bind fun v15 =>
  if i1 = v15 then
  (gI 13 13 M a0).bind fun v16 =>
  if v16 = ((-1 : Int32)) then
  some ((0 : Int32), M)
  else
  (gR 12 2 M v2).bind fun v17 =>
  (gR 12 3 M v2).bind fun v18 =>
  if mK M v18 = 5 then
  (f_Jx4a65c_size_8abf5 v18 M).bind fun r19 =>
  (f_X7_isComplete v17 r19.1 r19.2).bind fun r21 =>
  if r21.1 = 0 then
  some ((0 : Int32), r21.2)
  else
  some ((1 : Int32), r21.2)
  else none
  else
  some ((0 : Int32), M)
  else
  (gI 13 6 M a0).bind fun v4 =>
  if v4 = ((2 : Int32)) then
  (gI 13 7 M a0).bind fun v5 =>
  if i1 = v5 then
  some ((0 : Int32), M)
  else
  if mK M v2 = 12 then
  (f_X6_waits v2 M).bind fun r6 =>
  (gI 13 14 r6.2 a0).bind fun v8 =>
  if ((lg_cmp ((((r6.1 >>> (v8.toInt64 &&& 63))) &&& ((1 : Int64)))) ((1 : Int64)))) = 0 then
  if mK r6.2 a0 = 13 then
  (f_X7_isBarred a0 v2 r6.2).bind fun r9 =>
  if r9.1 = 0 then
  some ((1 : Int32), r9.2)
  else
  some ((0 : Int32), r9.2)
  else none
  else
  some ((0 : Int32), r6.2)
  else none
  else
  some ((0 : Int32), M)
set_option maxRecDepth 20000 in
set_option maxHeartbeats 4000000 in
theorem s_X7_mayWin_0 {L : zL} {X : zX} {M0 : zM} {N : Nat × Nat} {Q : State → Prop} {r : Int32 × zM} (hq : vQ L X M0 N Q (some (.int r.1)) r.2) {a0 : Nat} {i1 : Int32} {M : zM} (h : f_X7_mayWin_0 a0 i1 M = some r) : V L X yX7_mayWin cX7_mayWin 3 (some FieldType.boolean) 70 M0 N Q M 0 [(0, .ref (zad L (a0))), (1, .int (i1))] [] := by
  unfold f_X7_mayWin_0 at h
  refine V_aload_n dX7_mayWin_0 rfl 0 rfl ?_
  replace h := ob h
  obtain ⟨v1, e_v1, h⟩ := h
  refine V_getR zf_13_1 zl_X7_38 e_v1 dX7_mayWin_1 ?_
  refine V_pc (pc' := 4) rfl ?_
  refine V_iload_n dX7_mayWin_4 rfl 1 rfl ?_
  replace h := ob h
  obtain ⟨v2, e_v2, h⟩ := h
  refine V_aald (by decide) e_v2 dX7_mayWin_5 ?_
  refine V_pc (pc' := 6) rfl ?_
  refine V_astore_n (ls' := [(2, .ref (zad L (v2))), (0, .ref (zad L (a0))), (1, .int (i1))]) dX7_mayWin_6 rfl (by decide) rfl ?_
  refine V_aload_n dX7_mayWin_7 rfl 1 rfl ?_
  replace h := ob h
  obtain ⟨v3, e_v3, h⟩ := h
  refine V_getI zf_13_6 zl_X7_50 e_v3 dX7_mayWin_8 ?_
  refine V_pc (pc' := 11) rfl ?_
  refine V_iconst (v := 1) dX7_mayWin_11 (by decide) ?_
  refine V_icmp_ne (tgt := 54) dX7_mayWin_12 (by decide) (fun c25 => ?_) (fun c25 => ?_)
  · replace h := (oi h).2 c25
    refine V_aload_n dX7_mayWin_54 rfl 1 rfl ?_
    replace h := ob h
    obtain ⟨v4, e_v4, h⟩ := h
    refine V_getI zf_13_6 zl_X7_50 e_v4 dX7_mayWin_55 ?_
    refine V_pc (pc' := 58) rfl ?_
    refine V_iconst (v := 2) dX7_mayWin_58 (by decide) ?_
    refine V_icmp_ne (tgt := 98) dX7_mayWin_59 (by decide) (fun c14 => ?_) (fun c14 => ?_)
    · replace h := (oi h).2 c14
      refine V_iconst (v := 0) dX7_mayWin_98 (by decide) ?_
      obtain rfl := Option.some.inj h
      exact V_zret (ty := .boolean) rfl rfl hq dX7_mayWin_99
    · replace h := (oi h).1 c14
      refine V_iload_n dX7_mayWin_62 rfl 2 rfl ?_
      refine V_aload_n dX7_mayWin_63 rfl 1 rfl ?_
      replace h := ob h
      obtain ⟨v5, e_v5, h⟩ := h
      refine V_getI zf_13_7 zl_X7_82 e_v5 dX7_mayWin_64 ?_
      refine V_pc (pc' := 67) rfl ?_
      refine V_icmp_eq (tgt := 98) dX7_mayWin_67 (by decide) (fun c13 => ?_) (fun c13 => ?_)
      · replace h := (oi h).1 c13
        refine V_iconst (v := 0) dX7_mayWin_98 (by decide) ?_
        obtain rfl := Option.some.inj h
        exact V_zret (ty := .boolean) rfl rfl hq dX7_mayWin_99
      · replace h := (oi h).2 c13
        refine V_aload_n dX7_mayWin_70 rfl 0 rfl ?_
        replace h := ox h
        obtain ⟨c7, h⟩ := h
        replace h := ob h
        obtain ⟨r6, e_r6, h⟩ := h
        refine V_callV_J (As := []) (rest := []) (c_X6_waits e_r6) zc_X6_waits rfl (by decide) rfl (by decide) (Or.inl c7) zm_X7_248 (Nat.le_of_ble_eq_true rfl) rfl dX7_mayWin_71 ?_
        refine V_pc (pc' := 74) rfl ?_
        refine V_aload_n dX7_mayWin_74 rfl 1 rfl ?_
        replace h := ob h
        obtain ⟨v8, e_v8, h⟩ := h
        refine V_getI zf_13_14 zl_X7_62 e_v8 dX7_mayWin_75 ?_
        refine V_pc (pc' := 78) rfl ?_
        refine V_lshr dX7_mayWin_78 ?_
        refine V_lconst (v := 1) dX7_mayWin_79 (by decide) ?_
        refine V_land dX7_mayWin_80 ?_
        refine V_lconst (v := 1) dX7_mayWin_81 (by decide) ?_
        refine V_lcmp dX7_mayWin_82 ?_
        refine V_if_ne (tgt := 98) dX7_mayWin_83 (by decide) (fun c12 => ?_) (fun c12 => ?_)
        · replace h := (oi h).2 c12
          refine V_iconst (v := 0) dX7_mayWin_98 (by decide) ?_
          obtain rfl := Option.some.inj h
          exact V_zret (ty := .boolean) rfl rfl hq dX7_mayWin_99
        · replace h := (oi h).1 c12
          refine V_aload_n dX7_mayWin_86 rfl 1 rfl ?_
          refine V_aload_n dX7_mayWin_87 rfl 0 rfl ?_
          replace h := ox h
          obtain ⟨c10, h⟩ := h
          replace h := ob h
          obtain ⟨r9, e_r9, h⟩ := h
          refine V_callV_I (As := [.ref (zad L (v2))]) (rest := []) (c_X7_isBarred e_r9) zc_X7_isBarred rfl (by decide) rfl (by decide) (Or.inl c10) zm_X7_255 (Nat.le_of_ble_eq_true rfl) rfl dX7_mayWin_88 ?_
          refine V_pc (pc' := 91) rfl ?_
          refine V_if_ne (tgt := 98) dX7_mayWin_91 (by decide) (fun c11 => ?_) (fun c11 => ?_)
          · replace h := (oi h).2 c11
            refine V_iconst (v := 0) dX7_mayWin_98 (by decide) ?_
            obtain rfl := Option.some.inj h
            exact V_zret (ty := .boolean) rfl rfl hq dX7_mayWin_99
          · replace h := (oi h).1 c11
            refine V_iconst (v := 1) dX7_mayWin_94 (by decide) ?_
            refine V_goto (tgt := 99) dX7_mayWin_95 (by decide) ?_
            obtain rfl := Option.some.inj h
            exact V_zret (ty := .boolean) rfl rfl hq dX7_mayWin_99
  · replace h := (oi h).1 c25
    refine V_iload_n dX7_mayWin_15 rfl 2 rfl ?_
    refine V_aload_n dX7_mayWin_16 rfl 1 rfl ?_
    replace h := ob h
    obtain ⟨v15, e_v15, h⟩ := h
    refine V_getI zf_13_7 zl_X7_82 e_v15 dX7_mayWin_17 ?_
    refine V_pc (pc' := 20) rfl ?_
    refine V_icmp_ne (tgt := 52) dX7_mayWin_20 (by decide) (fun c24 => ?_) (fun c24 => ?_)
    · replace h := (oi h).2 c24
      refine V_iconst (v := 0) dX7_mayWin_52 (by decide) ?_
      obtain rfl := Option.some.inj h
      exact V_zret (ty := .boolean) rfl rfl hq dX7_mayWin_53
    · replace h := (oi h).1 c24
      refine V_aload_n dX7_mayWin_23 rfl 1 rfl ?_
      replace h := ob h
      obtain ⟨v16, e_v16, h⟩ := h
      refine V_getI zf_13_13 zl_X7_59 e_v16 dX7_mayWin_24 ?_
      refine V_pc (pc' := 27) rfl ?_
      refine V_iconst (v := -1) dX7_mayWin_27 (by decide) ?_
      refine V_icmp_eq (tgt := 52) dX7_mayWin_28 (by decide) (fun c23 => ?_) (fun c23 => ?_)
      · replace h := (oi h).1 c23
        refine V_iconst (v := 0) dX7_mayWin_52 (by decide) ?_
        obtain rfl := Option.some.inj h
        exact V_zret (ty := .boolean) rfl rfl hq dX7_mayWin_53
      · replace h := (oi h).2 c23
        refine V_aload_n dX7_mayWin_31 rfl 0 rfl ?_
        replace h := ob h
        obtain ⟨v17, e_v17, h⟩ := h
        refine V_getR zf_12_2 zl_X7_94 e_v17 dX7_mayWin_32 ?_
        refine V_pc (pc' := 35) rfl ?_
        refine V_aload_n dX7_mayWin_35 rfl 0 rfl ?_
        replace h := ob h
        obtain ⟨v18, e_v18, h⟩ := h
        refine V_getR zf_12_3 zl_X7_183 e_v18 dX7_mayWin_36 ?_
        refine V_pc (pc' := 39) rfl ?_
        replace h := ox h
        obtain ⟨c20, h⟩ := h
        replace h := ob h
        obtain ⟨r19, e_r19, h⟩ := h
        refine V_callV_I (As := []) (rest := [.ref (zad L (v17))]) (c_Jx4a65c_size_8abf5 e_r19) zc_Jx4a65c_size_8abf5 rfl (by decide) rfl (by decide) (Or.inl c20) zm_X7_144 (Nat.le_of_ble_eq_true rfl) rfl dX7_mayWin_39 ?_
        refine V_pc (pc' := 42) rfl ?_
        replace h := ob h
        obtain ⟨r21, e_r21, h⟩ := h
        refine V_callS_I (As := [.ref (zad L (v17)), .int (r19.1)]) (rest := []) (c_X7_isComplete e_r21) zc_X7_isComplete rfl (by decide) zm_X7_252 (Nat.le_of_ble_eq_true rfl) rfl dX7_mayWin_42 ?_
        refine V_pc (pc' := 45) rfl ?_
        refine V_if_eq (tgt := 52) dX7_mayWin_45 (by decide) (fun c22 => ?_) (fun c22 => ?_)
        · replace h := (oi h).1 c22
          refine V_iconst (v := 0) dX7_mayWin_52 (by decide) ?_
          obtain rfl := Option.some.inj h
          exact V_zret (ty := .boolean) rfl rfl hq dX7_mayWin_53
        · replace h := (oi h).2 c22
          refine V_iconst (v := 1) dX7_mayWin_48 (by decide) ?_
          refine V_goto (tgt := 53) dX7_mayWin_49 (by decide) ?_
          obtain rfl := Option.some.inj h
          exact V_zret (ty := .boolean) rfl rfl hq dX7_mayWin_53
def f_X7_mayWin (a0 : Nat) (i1 : Int32) (M : zM) : Option (Int32 × zM) := f_X7_mayWin_0 a0 i1 M
theorem c_X7_mayWin {L : zL} {l : Launch} {a0 : Nat} {i1 : Int32} {M : zM} {r : Int32 × zM} (h : f_X7_mayWin a0 i1 M = some r) : CP L l yX7_mayWin cX7_mayWin 3 (some FieldType.boolean) 70 M [.ref (zad L (a0)), .int (i1)] (some (.int r.1)) r.2 :=
  CP.of ⟨by decide +kernel, by decide +kernel⟩ (Nat.le_of_ble_eq_true rfl) fun X Q hq => s_X7_mayWin_0 hq h
/-! WindsparlourModel.win(I)I -/
theorem dX7_win_0 : decode cX7_win 0 = .ok (.aload_n 0, 1) := by decide +kernel
theorem dX7_win_1 : decode cX7_win 1 = .ok (.iload_n 1, 1) := by decide +kernel
theorem dX7_win_2 : decode cX7_win 2 = .ok (.invokestatic 174, 3) := by decide +kernel
theorem dX7_win_5 : decode cX7_win 5 = .ok (.iconst 1, 1) := by decide +kernel
theorem dX7_win_6 : decode cX7_win 6 = .ok (.invokevirtual 85, 3) := by decide +kernel
theorem dX7_win_9 : decode cX7_win 9 = .ok (.ifCond .ne 24, 3) := by decide +kernel
theorem dX7_win_12 : decode cX7_win 12 = .ok (.aload_n 0, 1) := by decide +kernel
theorem dX7_win_13 : decode cX7_win 13 = .ok (.aload_n 0, 1) := by decide +kernel
theorem dX7_win_14 : decode cX7_win 14 = .ok (.iload_n 1, 1) := by decide +kernel
theorem dX7_win_15 : decode cX7_win 15 = .ok (.invokevirtual 259, 3) := by decide +kernel
theorem dX7_win_18 : decode cX7_win 18 = .ok (.ifCond .ne 7, 3) := by decide +kernel
theorem dX7_win_21 : decode cX7_win 21 = .ok (.iconst 1, 1) := by decide +kernel
theorem dX7_win_22 : decode cX7_win 22 = .ok (.goto 4, 3) := by decide +kernel
theorem dX7_win_25 : decode cX7_win 25 = .ok (.iconst 0, 1) := by decide +kernel
theorem dX7_win_26 : decode cX7_win 26 = .ok (.iconst 2, 1) := by decide +kernel
theorem dX7_win_27 : decode cX7_win 27 = .ok (.invokevirtual 68, 3) := by decide +kernel
theorem dX7_win_30 : decode cX7_win 30 = .ok (.ifCond .eq 5, 3) := by decide +kernel
theorem dX7_win_33 : decode cX7_win 33 = .ok (.iconst 0, 1) := by decide +kernel
theorem dX7_win_34 : decode cX7_win 34 = .ok (.ireturn, 1) := by decide +kernel
theorem dX7_win_35 : decode cX7_win 35 = .ok (.aload_n 0, 1) := by decide +kernel
theorem dX7_win_36 : decode cX7_win 36 = .ok (.getfield 38, 3) := by decide +kernel
theorem dX7_win_39 : decode cX7_win 39 = .ok (.iload_n 1, 1) := by decide +kernel
theorem dX7_win_40 : decode cX7_win 40 = .ok (.aaload, 1) := by decide +kernel
theorem dX7_win_41 : decode cX7_win 41 = .ok (.astore_n 2, 1) := by decide +kernel
theorem dX7_win_42 : decode cX7_win 42 = .ok (.aload_n 0, 1) := by decide +kernel
theorem dX7_win_43 : decode cX7_win 43 = .ok (.getfield 50, 3) := by decide +kernel
theorem dX7_win_46 : decode cX7_win 46 = .ok (.iconst 1, 1) := by decide +kernel
theorem dX7_win_47 : decode cX7_win 47 = .ok (.if_icmp .ne 7, 3) := by decide +kernel
theorem dX7_win_50 : decode cX7_win 50 = .ok (.iconst 1, 1) := by decide +kernel
theorem dX7_win_51 : decode cX7_win 51 = .ok (.goto 4, 3) := by decide +kernel
theorem dX7_win_54 : decode cX7_win 54 = .ok (.iconst 0, 1) := by decide +kernel
theorem dX7_win_55 : decode cX7_win 55 = .ok (.istore_n 3, 1) := by decide +kernel
theorem dX7_win_56 : decode cX7_win 56 = .ok (.iload_n 3, 1) := by decide +kernel
theorem dX7_win_57 : decode cX7_win 57 = .ok (.ifCond .ne 20, 3) := by decide +kernel
theorem dX7_win_60 : decode cX7_win 60 = .ok (.aload_n 0, 1) := by decide +kernel
theorem dX7_win_61 : decode cX7_win 61 = .ok (.invokevirtual 180, 3) := by decide +kernel
theorem dX7_win_64 : decode cX7_win 64 = .ok (.aload_n 2, 1) := by decide +kernel
theorem dX7_win_65 : decode cX7_win 65 = .ok (.getfield 94, 3) := by decide +kernel
theorem dX7_win_68 : decode cX7_win 68 = .ok (.aload_n 0, 1) := by decide +kernel
theorem dX7_win_69 : decode cX7_win 69 = .ok (.getfield 62, 3) := by decide +kernel
theorem dX7_win_72 : decode cX7_win 72 = .ok (.dup2, 1) := by decide +kernel
theorem dX7_win_73 : decode cX7_win 73 = .ok (.iaload, 1) := by decide +kernel
theorem dX7_win_74 : decode cX7_win 74 = .ok (.iconst 1, 1) := by decide +kernel
theorem dX7_win_75 : decode cX7_win 75 = .ok (.iadd, 1) := by decide +kernel
theorem dX7_win_76 : decode cX7_win 76 = .ok (.iastore, 1) := by decide +kernel
theorem dX7_win_77 : decode cX7_win 77 = .ok (.aload_n 0, 1) := by decide +kernel
theorem dX7_win_78 : decode cX7_win 78 = .ok (.iload_n 1, 1) := by decide +kernel
theorem dX7_win_79 : decode cX7_win 79 = .ok (.iload_n 3, 1) := by decide +kernel
theorem dX7_win_80 : decode cX7_win 80 = .ok (.invokevirtual 262, 3) := by decide +kernel
theorem dX7_win_83 : decode cX7_win 83 = .ok (.istore 4, 2) := by decide +kernel
theorem dX7_win_85 : decode cX7_win 85 = .ok (.iconst 0, 1) := by decide +kernel
theorem dX7_win_86 : decode cX7_win 86 = .ok (.istore 5, 2) := by decide +kernel
theorem dX7_win_88 : decode cX7_win 88 = .ok (.iload 5, 2) := by decide +kernel
theorem dX7_win_90 : decode cX7_win 90 = .ok (.iconst 4, 1) := by decide +kernel
theorem dX7_win_91 : decode cX7_win 91 = .ok (.if_icmp .ge 78, 3) := by decide +kernel
theorem dX7_win_94 : decode cX7_win 94 = .ok (.iload 5, 2) := by decide +kernel
theorem dX7_win_96 : decode cX7_win 96 = .ok (.iload_n 1, 1) := by decide +kernel
theorem dX7_win_97 : decode cX7_win 97 = .ok (.if_icmp .ne 7, 3) := by decide +kernel
theorem dX7_win_100 : decode cX7_win 100 = .ok (.iconst 0, 1) := by decide +kernel
theorem dX7_win_101 : decode cX7_win 101 = .ok (.goto 32, 3) := by decide +kernel
theorem dX7_win_104 : decode cX7_win 104 = .ok (.iload_n 3, 1) := by decide +kernel
theorem dX7_win_105 : decode cX7_win 105 = .ok (.ifCond .eq 10, 3) := by decide +kernel
theorem dX7_win_108 : decode cX7_win 108 = .ok (.iconst 4, 1) := by decide +kernel
theorem dX7_win_109 : decode cX7_win 109 = .ok (.iload 4, 2) := by decide +kernel
theorem dX7_win_111 : decode cX7_win 111 = .ok (.imul, 1) := by decide +kernel
theorem dX7_win_112 : decode cX7_win 112 = .ok (.goto 21, 3) := by decide +kernel
theorem dX7_win_115 : decode cX7_win 115 = .ok (.iload 5, 2) := by decide +kernel
theorem dX7_win_117 : decode cX7_win 117 = .ok (.aload_n 0, 1) := by decide +kernel
theorem dX7_win_118 : decode cX7_win 118 = .ok (.getfield 82, 3) := by decide +kernel
theorem dX7_win_121 : decode cX7_win 121 = .ok (.if_icmp .ne 11, 3) := by decide +kernel
theorem dX7_win_124 : decode cX7_win 124 = .ok (.bipush 12, 2) := by decide +kernel
theorem dX7_win_126 : decode cX7_win 126 = .ok (.iload 4, 2) := by decide +kernel
theorem dX7_win_128 : decode cX7_win 128 = .ok (.imul, 1) := by decide +kernel
theorem dX7_win_129 : decode cX7_win 129 = .ok (.goto 4, 3) := by decide +kernel
theorem dX7_win_132 : decode cX7_win 132 = .ok (.iconst 0, 1) := by decide +kernel
theorem dX7_win_133 : decode cX7_win 133 = .ok (.istore 6, 2) := by decide +kernel
theorem dX7_win_135 : decode cX7_win 135 = .ok (.aload_n 0, 1) := by decide +kernel
theorem dX7_win_136 : decode cX7_win 136 = .ok (.getfield 38, 3) := by decide +kernel
theorem dX7_win_139 : decode cX7_win 139 = .ok (.iload 5, 2) := by decide +kernel
theorem dX7_win_141 : decode cX7_win 141 = .ok (.aaload, 1) := by decide +kernel
theorem dX7_win_142 : decode cX7_win 142 = .ok (.dup, 1) := by decide +kernel
theorem dX7_win_143 : decode cX7_win 143 = .ok (.getfield 112, 3) := by decide +kernel
theorem dX7_win_146 : decode cX7_win 146 = .ok (.iload 6, 2) := by decide +kernel
theorem dX7_win_148 : decode cX7_win 148 = .ok (.isub, 1) := by decide +kernel
theorem dX7_win_149 : decode cX7_win 149 = .ok (.putfield 112, 3) := by decide +kernel
theorem dX7_win_152 : decode cX7_win 152 = .ok (.aload_n 2, 1) := by decide +kernel
theorem dX7_win_153 : decode cX7_win 153 = .ok (.dup, 1) := by decide +kernel
theorem dX7_win_154 : decode cX7_win 154 = .ok (.getfield 112, 3) := by decide +kernel
theorem dX7_win_157 : decode cX7_win 157 = .ok (.iload 6, 2) := by decide +kernel
theorem dX7_win_159 : decode cX7_win 159 = .ok (.iadd, 1) := by decide +kernel
theorem dX7_win_160 : decode cX7_win 160 = .ok (.putfield 112, 3) := by decide +kernel
theorem dX7_win_163 : decode cX7_win 163 = .ok (.iinc 5 1, 3) := by decide +kernel
theorem dX7_win_166 : decode cX7_win 166 = .ok (.goto (-78), 3) := by decide +kernel
theorem dX7_win_169 : decode cX7_win 169 = .ok (.aload_n 2, 1) := by decide +kernel
theorem dX7_win_170 : decode cX7_win 170 = .ok (.dup, 1) := by decide +kernel
theorem dX7_win_171 : decode cX7_win 171 = .ok (.getfield 112, 3) := by decide +kernel
theorem dX7_win_174 : decode cX7_win 174 = .ok (.aload_n 0, 1) := by decide +kernel
theorem dX7_win_175 : decode cX7_win 175 = .ok (.getfield 164, 3) := by decide +kernel
theorem dX7_win_178 : decode cX7_win 178 = .ok (.iadd, 1) := by decide +kernel
theorem dX7_win_179 : decode cX7_win 179 = .ok (.putfield 112, 3) := by decide +kernel
theorem dX7_win_182 : decode cX7_win 182 = .ok (.aload_n 0, 1) := by decide +kernel
theorem dX7_win_183 : decode cX7_win 183 = .ok (.iconst 0, 1) := by decide +kernel
theorem dX7_win_184 : decode cX7_win 184 = .ok (.putfield 164, 3) := by decide +kernel
theorem dX7_win_187 : decode cX7_win 187 = .ok (.aload_n 2, 1) := by decide +kernel
theorem dX7_win_188 : decode cX7_win 188 = .ok (.dup, 1) := by decide +kernel
theorem dX7_win_189 : decode cX7_win 189 = .ok (.getfield 266, 3) := by decide +kernel
theorem dX7_win_192 : decode cX7_win 192 = .ok (.iconst 1, 1) := by decide +kernel
theorem dX7_win_193 : decode cX7_win 193 = .ok (.iadd, 1) := by decide +kernel
theorem dX7_win_194 : decode cX7_win 194 = .ok (.putfield 266, 3) := by decide +kernel
theorem dX7_win_197 : decode cX7_win 197 = .ok (.aload_n 0, 1) := by decide +kernel
theorem dX7_win_198 : decode cX7_win 198 = .ok (.iload_n 1, 1) := by decide +kernel
theorem dX7_win_199 : decode cX7_win 199 = .ok (.putfield 56, 3) := by decide +kernel
theorem dX7_win_202 : decode cX7_win 202 = .ok (.aload_n 0, 1) := by decide +kernel
theorem dX7_win_203 : decode cX7_win 203 = .ok (.iconst 3, 1) := by decide +kernel
theorem dX7_win_204 : decode cX7_win 204 = .ok (.putfield 50, 3) := by decide +kernel
theorem dX7_win_207 : decode cX7_win 207 = .ok (.iload 4, 2) := by decide +kernel
theorem dX7_win_209 : decode cX7_win 209 = .ok (.ireturn, 1) := by decide +kernel
def f_X7_win_133 (K88 : Nat → Int32 → Nat → Int32 → Int32 → Int32 → zM → Option (Int32 × zM)) (a0 : Nat) (i1 : Int32) (a2 : Nat) (i3 : Int32) (i4 : Int32) (i5 : Int32) (i_0 : Int32) (M : zM) : Option (Int32 × zM) :=
  (gR 13 1 M a0).bind fun v1 =>
  (lQ 2 M v1 i5).bind fun v2 =>
  (gI 12 0 M v2).bind fun v3 =>
  (pI 12 0 M v2 ((v3 - i_0))).bind fun M4 =>
  (gI 12 0 M4 a2).bind fun v5 =>
  (pI 12 0 M4 a2 ((v5 + i_0))).bind fun M6 =>
  K88 a0 i1 a2 i3 i4 ((i5 + (1 : Int32))) M6
set_option maxRecDepth 20000 in
set_option maxHeartbeats 4000000 in
theorem s_X7_win_133 {L : zL} {X : zX} {M0 : zM} {N : Nat × Nat} {Q : State → Prop} {r : Int32 × zM} {K88 : Nat → Int32 → Nat → Int32 → Int32 → Int32 → zM → Option (Int32 × zM)} (hK88 : ∀ (a0 : Nat) (i1 : Int32) (a2 : Nat) (i3 : Int32) (i4 : Int32) (i5 : Int32) (M : zM), K88 a0 i1 a2 i3 i4 i5 M = some r → V L X yX7_win cX7_win 7 (some FieldType.int) 71 M0 N Q M 88 [(0, .ref (zad L (a0))), (1, .int (i1)), (2, .ref (zad L (a2))), (3, .int (i3)), (4, .int (i4)), (5, .int (i5))] []) (hq : vQ L X M0 N Q (some (.int r.1)) r.2) {a0 : Nat} {i1 : Int32} {a2 : Nat} {i3 : Int32} {i4 : Int32} {i5 : Int32} {i_0 : Int32} {M : zM} (h : f_X7_win_133 K88 a0 i1 a2 i3 i4 i5 i_0 M = some r) : V L X yX7_win cX7_win 7 (some FieldType.int) 71 M0 N Q M 133 [(0, .ref (zad L (a0))), (1, .int (i1)), (2, .ref (zad L (a2))), (3, .int (i3)), (4, .int (i4)), (5, .int (i5))] [.int (i_0)] := by
  unfold f_X7_win_133 at h
  refine V_istore (ls' := [(6, .int (i_0)), (0, .ref (zad L (a0))), (1, .int (i1)), (2, .ref (zad L (a2))), (3, .int (i3)), (4, .int (i4)), (5, .int (i5))]) dX7_win_133 (by decide) rfl ?_
  refine V_aload_n dX7_win_135 rfl 1 rfl ?_
  replace h := ob h
  obtain ⟨v1, e_v1, h⟩ := h
  refine V_getR zf_13_1 zl_X7_38 e_v1 dX7_win_136 ?_
  refine V_pc (pc' := 139) rfl ?_
  refine V_iload dX7_win_139 6 rfl ?_
  replace h := ob h
  obtain ⟨v2, e_v2, h⟩ := h
  refine V_aald (by decide) e_v2 dX7_win_141 ?_
  refine V_pc (pc' := 142) rfl ?_
  refine V_dup dX7_win_142 rfl ?_
  replace h := ob h
  obtain ⟨v3, e_v3, h⟩ := h
  refine V_getI zf_12_0 zl_X7_112 e_v3 dX7_win_143 ?_
  refine V_pc (pc' := 146) rfl ?_
  refine V_iload dX7_win_146 0 rfl ?_
  refine V_isub dX7_win_148 ?_
  replace h := ob h
  obtain ⟨M4, e_M4, h⟩ := h
  refine V_putI zf_12_0 zl_X7_112 (Or.inl rfl) rfl e_M4 dX7_win_149 ?_
  refine V_pc (pc' := 152) rfl ?_
  refine V_aload_n dX7_win_152 rfl 3 rfl ?_
  refine V_dup dX7_win_153 rfl ?_
  replace h := ob h
  obtain ⟨v5, e_v5, h⟩ := h
  refine V_getI zf_12_0 zl_X7_112 e_v5 dX7_win_154 ?_
  refine V_pc (pc' := 157) rfl ?_
  refine V_iload dX7_win_157 0 rfl ?_
  refine V_iadd dX7_win_159 ?_
  replace h := ob h
  obtain ⟨M6, e_M6, h⟩ := h
  refine V_putI zf_12_0 zl_X7_112 (Or.inl rfl) rfl e_M6 dX7_win_160 ?_
  refine V_pc (pc' := 163) rfl ?_
  refine V_iinc (v := i5 + (1 : Int32)) (ls' := [(5, .int ((i5 + (1 : Int32)))), (6, .int (i_0)), (0, .ref (zad L (a0))), (1, .int (i1)), (2, .ref (zad L (a2))), (3, .int (i3)), (4, .int (i4))]) dX7_win_163 6 rfl (by rfl) (by decide) rfl ?_
  refine V_goto (tgt := 88) dX7_win_166 (by decide) ?_
  refine V_sub [2, 3, 4, 5, 6, 0] rfl ?_
  exact hK88 _ _ _ _ _ _ _ h
def f_X7_win_88 (n : Nat) (a0 : Nat) (i1 : Int32) (a2 : Nat) (i3 : Int32) (i4 : Int32) (i5 : Int32) (M : zM) : Option (Int32 × zM) := match n with
  | 0 => none
  | n + 1 =>
    if ((4 : Int32)) ≤ i5 then
    (gI 12 0 M a2).bind fun v1 =>
    (gI 13 11 M a0).bind fun v2 =>
    (pI 12 0 M a2 ((v1 + v2))).bind fun M3 =>
    (pI 13 11 M3 a0 ((0 : Int32))).bind fun M4 =>
    (gI 12 1 M4 a2).bind fun v5 =>
    (pI 12 1 M4 a2 ((v5 + ((1 : Int32))))).bind fun M6 =>
    (pI 13 12 M6 a0 i1).bind fun M7 =>
    (pI 13 6 M7 a0 ((3 : Int32))).bind fun M8 =>
    some (i4, M8)
    else
    if i5 = i1 then
    f_X7_win_133 (f_X7_win_88 n) a0 i1 a2 i3 i4 i5 ((0 : Int32)) M
    else
    if i3 = 0 then
    (gI 13 7 M a0).bind fun v9 =>
    if i5 = v9 then
    f_X7_win_133 (f_X7_win_88 n) a0 i1 a2 i3 i4 i5 ((((12 : Int32)) * i4)) M
    else
    f_X7_win_133 (f_X7_win_88 n) a0 i1 a2 i3 i4 i5 ((0 : Int32)) M
    else
    f_X7_win_133 (f_X7_win_88 n) a0 i1 a2 i3 i4 i5 ((((4 : Int32)) * i4)) M
set_option maxRecDepth 20000 in
set_option maxHeartbeats 4000000 in
theorem s_X7_win_88 {L : zL} {X : zX} {M0 : zM} {N : Nat × Nat} {Q : State → Prop} {r : Int32 × zM} (hq : vQ L X M0 N Q (some (.int r.1)) r.2) {n : Nat} {a0 : Nat} {i1 : Int32} {a2 : Nat} {i3 : Int32} {i4 : Int32} {i5 : Int32} {M : zM} : f_X7_win_88 n a0 i1 a2 i3 i4 i5 M = some r → V L X yX7_win cX7_win 7 (some FieldType.int) 71 M0 N Q M 88 [(0, .ref (zad L (a0))), (1, .int (i1)), (2, .ref (zad L (a2))), (3, .int (i3)), (4, .int (i4)), (5, .int (i5))] [] := by
  induction n generalizing a0 i1 a2 i3 i4 i5 M with
  | zero =>
    intro h
    rw [f_X7_win_88] at h
    cases h
  | succ n ih0 =>
    intro h
    have ih : ∀ (a0 : Nat) (i1 : Int32) (a2 : Nat) (i3 : Int32) (i4 : Int32) (i5 : Int32) (M : zM), f_X7_win_88 n a0 i1 a2 i3 i4 i5 M = some r → V L X yX7_win cX7_win 7 (some FieldType.int) 71 M0 N Q M 88 [(0, .ref (zad L (a0))), (1, .int (i1)), (2, .ref (zad L (a2))), (3, .int (i3)), (4, .int (i4)), (5, .int (i5))] [] := fun a0 i1 a2 i3 i4 i5 M h => ih0 h
    rw [f_X7_win_88] at h
    refine V_iload dX7_win_88 5 rfl ?_
    refine V_iconst (v := 4) dX7_win_90 (by decide) ?_
    refine V_icmp_ge (tgt := 169) dX7_win_91 (by decide) (fun c13 => ?_) (fun c13 => ?_)
    · replace h := (oi h).1 c13
      refine V_aload_n dX7_win_169 rfl 2 rfl ?_
      refine V_dup dX7_win_170 rfl ?_
      replace h := ob h
      obtain ⟨v1, e_v1, h⟩ := h
      refine V_getI zf_12_0 zl_X7_112 e_v1 dX7_win_171 ?_
      refine V_pc (pc' := 174) rfl ?_
      refine V_aload_n dX7_win_174 rfl 0 rfl ?_
      replace h := ob h
      obtain ⟨v2, e_v2, h⟩ := h
      refine V_getI zf_13_11 zl_X7_164 e_v2 dX7_win_175 ?_
      refine V_pc (pc' := 178) rfl ?_
      refine V_iadd dX7_win_178 ?_
      replace h := ob h
      obtain ⟨M3, e_M3, h⟩ := h
      refine V_putI zf_12_0 zl_X7_112 (Or.inl rfl) rfl e_M3 dX7_win_179 ?_
      refine V_pc (pc' := 182) rfl ?_
      refine V_aload_n dX7_win_182 rfl 0 rfl ?_
      refine V_iconst (v := 0) dX7_win_183 (by decide) ?_
      replace h := ob h
      obtain ⟨M4, e_M4, h⟩ := h
      refine V_putI zf_13_11 zl_X7_164 (Or.inl rfl) rfl e_M4 dX7_win_184 ?_
      refine V_pc (pc' := 187) rfl ?_
      refine V_aload_n dX7_win_187 rfl 2 rfl ?_
      refine V_dup dX7_win_188 rfl ?_
      replace h := ob h
      obtain ⟨v5, e_v5, h⟩ := h
      refine V_getI zf_12_1 zl_X7_266 e_v5 dX7_win_189 ?_
      refine V_pc (pc' := 192) rfl ?_
      refine V_iconst (v := 1) dX7_win_192 (by decide) ?_
      refine V_iadd dX7_win_193 ?_
      replace h := ob h
      obtain ⟨M6, e_M6, h⟩ := h
      refine V_putI zf_12_1 zl_X7_266 (Or.inl rfl) rfl e_M6 dX7_win_194 ?_
      refine V_pc (pc' := 197) rfl ?_
      refine V_aload_n dX7_win_197 rfl 0 rfl ?_
      refine V_iload_n dX7_win_198 rfl 1 rfl ?_
      replace h := ob h
      obtain ⟨M7, e_M7, h⟩ := h
      refine V_putI zf_13_12 zl_X7_56 (Or.inl rfl) rfl e_M7 dX7_win_199 ?_
      refine V_pc (pc' := 202) rfl ?_
      refine V_aload_n dX7_win_202 rfl 0 rfl ?_
      refine V_iconst (v := 3) dX7_win_203 (by decide) ?_
      replace h := ob h
      obtain ⟨M8, e_M8, h⟩ := h
      refine V_putI zf_13_6 zl_X7_50 (Or.inl rfl) rfl e_M8 dX7_win_204 ?_
      refine V_pc (pc' := 207) rfl ?_
      refine V_iload dX7_win_207 4 rfl ?_
      obtain rfl := Option.some.inj h
      exact V_iret rfl hq dX7_win_209
    · replace h := (oi h).2 c13
      refine V_iload dX7_win_94 5 rfl ?_
      refine V_iload_n dX7_win_96 rfl 1 rfl ?_
      refine V_icmp_ne (tgt := 104) dX7_win_97 (by decide) (fun c12 => ?_) (fun c12 => ?_)
      · replace h := (oi h).2 c12
        refine V_iload_n dX7_win_104 rfl 3 rfl ?_
        refine V_if_eq (tgt := 115) dX7_win_105 (by decide) (fun c11 => ?_) (fun c11 => ?_)
        · replace h := (oi h).1 c11
          refine V_iload dX7_win_115 5 rfl ?_
          refine V_aload_n dX7_win_117 rfl 0 rfl ?_
          replace h := ob h
          obtain ⟨v9, e_v9, h⟩ := h
          refine V_getI zf_13_7 zl_X7_82 e_v9 dX7_win_118 ?_
          refine V_pc (pc' := 121) rfl ?_
          refine V_icmp_ne (tgt := 132) dX7_win_121 (by decide) (fun c10 => ?_) (fun c10 => ?_)
          · replace h := (oi h).2 c10
            refine V_iconst (v := 0) dX7_win_132 (by decide) ?_
            exact s_X7_win_133 ih hq h
          · replace h := (oi h).1 c10
            refine V_bipush (v := 12) dX7_win_124 (by decide) ?_
            refine V_iload dX7_win_126 4 rfl ?_
            refine V_imul dX7_win_128 ?_
            refine V_goto (tgt := 133) dX7_win_129 (by decide) ?_
            exact s_X7_win_133 ih hq h
        · replace h := (oi h).2 c11
          refine V_iconst (v := 4) dX7_win_108 (by decide) ?_
          refine V_iload dX7_win_109 4 rfl ?_
          refine V_imul dX7_win_111 ?_
          refine V_goto (tgt := 133) dX7_win_112 (by decide) ?_
          exact s_X7_win_133 ih hq h
      · replace h := (oi h).1 c12
        refine V_iconst (v := 0) dX7_win_100 (by decide) ?_
        refine V_goto (tgt := 133) dX7_win_101 (by decide) ?_
        exact s_X7_win_133 ih hq h
def f_X7_win_77 (a0 : Nat) (i1 : Int32) (a2 : Nat) (i3 : Int32) (M : zM) : Option (Int32 × zM) :=
  if mK M a0 = 13 then
  (f_X7_value a0 i1 i3 M).bind fun r1 =>
  f_X7_win_88 zN a0 i1 a2 i3 r1.1 ((0 : Int32)) r1.2
  else none
set_option maxRecDepth 20000 in
set_option maxHeartbeats 4000000 in
theorem s_X7_win_77 {L : zL} {X : zX} {M0 : zM} {N : Nat × Nat} {Q : State → Prop} {r : Int32 × zM} (hq : vQ L X M0 N Q (some (.int r.1)) r.2) {a0 : Nat} {i1 : Int32} {a2 : Nat} {i3 : Int32} {M : zM} (h : f_X7_win_77 a0 i1 a2 i3 M = some r) : V L X yX7_win cX7_win 7 (some FieldType.int) 71 M0 N Q M 77 [(0, .ref (zad L (a0))), (1, .int (i1)), (2, .ref (zad L (a2))), (3, .int (i3))] [] := by
  unfold f_X7_win_77 at h
  refine V_aload_n dX7_win_77 rfl 0 rfl ?_
  refine V_iload_n dX7_win_78 rfl 1 rfl ?_
  refine V_iload_n dX7_win_79 rfl 3 rfl ?_
  replace h := ox h
  obtain ⟨c2, h⟩ := h
  replace h := ob h
  obtain ⟨r1, e_r1, h⟩ := h
  refine V_callV_I (As := [.int (i1), .int (i3)]) (rest := []) (c_X7_value e_r1) zc_X7_value rfl (by decide) rfl (by decide) (Or.inl c2) zm_X7_262 (Nat.le_of_ble_eq_true rfl) rfl dX7_win_80 ?_
  refine V_pc (pc' := 83) rfl ?_
  refine V_istore (ls' := [(4, .int (r1.1)), (0, .ref (zad L (a0))), (1, .int (i1)), (2, .ref (zad L (a2))), (3, .int (i3))]) dX7_win_83 (by decide) rfl ?_
  refine V_iconst (v := 0) dX7_win_85 (by decide) ?_
  refine V_istore (ls' := [(5, .int ((0 : Int32))), (4, .int (r1.1)), (0, .ref (zad L (a0))), (1, .int (i1)), (2, .ref (zad L (a2))), (3, .int (i3))]) dX7_win_86 (by decide) rfl ?_
  refine V_sub [2, 3, 4, 5, 1, 0] rfl ?_
  exact s_X7_win_88 hq h
def f_X7_win_55 (a0 : Nat) (i1 : Int32) (a2 : Nat) (i_0 : Int32) (M : zM) : Option (Int32 × zM) :=
  if i_0 = 0 then
  if mK M a0 = 13 then
  (f_X7_leave a0 M).bind fun r1 =>
  (gR 12 2 r1.2 a2).bind fun v3 =>
  (gI 13 14 r1.2 a0).bind fun v4 =>
  (lA 0 r1.2 v3 v4).bind fun v5 =>
  (tA r1.2 v3 v4 ((v5 + ((1 : Int32))))).bind fun M6 =>
  f_X7_win_77 a0 i1 a2 i_0 M6
  else none
  else
  f_X7_win_77 a0 i1 a2 i_0 M
set_option maxRecDepth 20000 in
set_option maxHeartbeats 4000000 in
theorem s_X7_win_55 {L : zL} {X : zX} {M0 : zM} {N : Nat × Nat} {Q : State → Prop} {r : Int32 × zM} (hq : vQ L X M0 N Q (some (.int r.1)) r.2) {a0 : Nat} {i1 : Int32} {a2 : Nat} {i_0 : Int32} {M : zM} (h : f_X7_win_55 a0 i1 a2 i_0 M = some r) : V L X yX7_win cX7_win 7 (some FieldType.int) 71 M0 N Q M 55 [(0, .ref (zad L (a0))), (1, .int (i1)), (2, .ref (zad L (a2)))] [.int (i_0)] := by
  unfold f_X7_win_55 at h
  refine V_istore_n (ls' := [(3, .int (i_0)), (0, .ref (zad L (a0))), (1, .int (i1)), (2, .ref (zad L (a2)))]) dX7_win_55 rfl (by decide) rfl ?_
  refine V_iload_n dX7_win_56 rfl 0 rfl ?_
  refine V_if_ne (tgt := 77) dX7_win_57 (by decide) (fun c7 => ?_) (fun c7 => ?_)
  · replace h := (oi h).2 c7
    refine V_sub [1, 2, 3, 0] rfl ?_
    exact s_X7_win_77 hq h
  · replace h := (oi h).1 c7
    refine V_aload_n dX7_win_60 rfl 1 rfl ?_
    replace h := ox h
    obtain ⟨c2, h⟩ := h
    replace h := ob h
    obtain ⟨r1, e_r1, h⟩ := h
    refine V_callV_V (As := []) (rest := []) (c_X7_leave e_r1) zc_X7_leave rfl (by decide) rfl (by decide) (Or.inl c2) zm_X7_180 (Nat.le_of_ble_eq_true rfl) rfl dX7_win_61 ?_
    refine V_pc (pc' := 64) rfl ?_
    refine V_aload_n dX7_win_64 rfl 3 rfl ?_
    replace h := ob h
    obtain ⟨v3, e_v3, h⟩ := h
    refine V_getR zf_12_2 zl_X7_94 e_v3 dX7_win_65 ?_
    refine V_pc (pc' := 68) rfl ?_
    refine V_aload_n dX7_win_68 rfl 1 rfl ?_
    replace h := ob h
    obtain ⟨v4, e_v4, h⟩ := h
    refine V_getI zf_13_14 zl_X7_62 e_v4 dX7_win_69 ?_
    refine V_pc (pc' := 72) rfl ?_
    refine V_dup2 dX7_win_72 rfl rfl ?_
    replace h := ob h
    obtain ⟨v5, e_v5, h⟩ := h
    refine V_iald e_v5 dX7_win_73 ?_
    refine V_pc (pc' := 74) rfl ?_
    refine V_iconst (v := 1) dX7_win_74 (by decide) ?_
    refine V_iadd dX7_win_75 ?_
    replace h := ob h
    obtain ⟨M6, e_M6, h⟩ := h
    refine V_iast e_M6 dX7_win_76 ?_
    refine V_sub [1, 2, 3, 0] rfl ?_
    exact s_X7_win_77 hq h
def f_X7_win_26 (a0 : Nat) (i1 : Int32) (i_0 : Int32) (a_1 : Nat) (M : zM) : Option (Int32 × zM) :=
  if mK M a_1 = 13 then
  (f_X7_refuse a_1 i_0 ((2 : Int32)) M).bind fun r1 =>
  if r1.1 = 0 then
  (gR 13 1 r1.2 a0).bind fun v3 =>
  (lQ 2 r1.2 v3 i1).bind fun v4 =>
  (gI 13 6 r1.2 a0).bind fun v5 =>
  if v5 = ((1 : Int32)) then
  f_X7_win_55 a0 i1 v4 ((1 : Int32)) r1.2
  else
  f_X7_win_55 a0 i1 v4 ((0 : Int32)) r1.2
  else
  some ((0 : Int32), r1.2)
  else none
set_option maxRecDepth 20000 in
set_option maxHeartbeats 4000000 in
theorem s_X7_win_26 {L : zL} {X : zX} {M0 : zM} {N : Nat × Nat} {Q : State → Prop} {r : Int32 × zM} (hq : vQ L X M0 N Q (some (.int r.1)) r.2) {a0 : Nat} {i1 : Int32} {i_0 : Int32} {a_1 : Nat} {M : zM} (h : f_X7_win_26 a0 i1 i_0 a_1 M = some r) : V L X yX7_win cX7_win 7 (some FieldType.int) 71 M0 N Q M 26 [(0, .ref (zad L (a0))), (1, .int (i1))] [.int (i_0), .ref (zad L (a_1))] := by
  unfold f_X7_win_26 at h
  refine V_iconst (v := 2) dX7_win_26 (by decide) ?_
  replace h := ox h
  obtain ⟨c2, h⟩ := h
  replace h := ob h
  obtain ⟨r1, e_r1, h⟩ := h
  refine V_callV_I (As := [.int (i_0), .int ((2 : Int32))]) (rest := []) (c_X7_refuse e_r1) zc_X7_refuse rfl (by decide) rfl (by decide) (Or.inl c2) zm_X7_68 (Nat.le_of_ble_eq_true rfl) rfl dX7_win_27 ?_
  refine V_pc (pc' := 30) rfl ?_
  refine V_if_eq (tgt := 35) dX7_win_30 (by decide) (fun c7 => ?_) (fun c7 => ?_)
  · replace h := (oi h).1 c7
    refine V_aload_n dX7_win_35 rfl 0 rfl ?_
    replace h := ob h
    obtain ⟨v3, e_v3, h⟩ := h
    refine V_getR zf_13_1 zl_X7_38 e_v3 dX7_win_36 ?_
    refine V_pc (pc' := 39) rfl ?_
    refine V_iload_n dX7_win_39 rfl 1 rfl ?_
    replace h := ob h
    obtain ⟨v4, e_v4, h⟩ := h
    refine V_aald (by decide) e_v4 dX7_win_40 ?_
    refine V_pc (pc' := 41) rfl ?_
    refine V_astore_n (ls' := [(2, .ref (zad L (v4))), (0, .ref (zad L (a0))), (1, .int (i1))]) dX7_win_41 rfl (by decide) rfl ?_
    refine V_aload_n dX7_win_42 rfl 1 rfl ?_
    replace h := ob h
    obtain ⟨v5, e_v5, h⟩ := h
    refine V_getI zf_13_6 zl_X7_50 e_v5 dX7_win_43 ?_
    refine V_pc (pc' := 46) rfl ?_
    refine V_iconst (v := 1) dX7_win_46 (by decide) ?_
    refine V_icmp_ne (tgt := 54) dX7_win_47 (by decide) (fun c6 => ?_) (fun c6 => ?_)
    · replace h := (oi h).2 c6
      refine V_iconst (v := 0) dX7_win_54 (by decide) ?_
      refine V_sub [1, 2, 0] rfl ?_
      exact s_X7_win_55 hq h
    · replace h := (oi h).1 c6
      refine V_iconst (v := 1) dX7_win_50 (by decide) ?_
      refine V_goto (tgt := 55) dX7_win_51 (by decide) ?_
      refine V_sub [1, 2, 0] rfl ?_
      exact s_X7_win_55 hq h
  · replace h := (oi h).2 c7
    refine V_iconst (v := 0) dX7_win_33 (by decide) ?_
    obtain rfl := Option.some.inj h
    exact V_iret rfl hq dX7_win_34
def f_X7_win_0 (a0 : Nat) (i1 : Int32) (M : zM) : Option (Int32 × zM) :=
  (f_X7_isNoPlayer i1 M).bind fun r1 =>
  if mK r1.2 a0 = 13 then
  (f_X7_start a0 r1.1 ((1 : Int32)) r1.2).bind fun r2 =>
  if r2.1 = 0 then
  if mK r2.2 a0 = 13 then
  (f_X7_mayWin a0 i1 r2.2).bind fun r4 =>
  if r4.1 = 0 then
  f_X7_win_26 a0 i1 ((1 : Int32)) a0 r4.2
  else
  f_X7_win_26 a0 i1 ((0 : Int32)) a0 r4.2
  else none
  else
  some ((0 : Int32), r2.2)
  else none
set_option maxRecDepth 20000 in
set_option maxHeartbeats 4000000 in
theorem s_X7_win_0 {L : zL} {X : zX} {M0 : zM} {N : Nat × Nat} {Q : State → Prop} {r : Int32 × zM} (hq : vQ L X M0 N Q (some (.int r.1)) r.2) {a0 : Nat} {i1 : Int32} {M : zM} (h : f_X7_win_0 a0 i1 M = some r) : V L X yX7_win cX7_win 7 (some FieldType.int) 71 M0 N Q M 0 [(0, .ref (zad L (a0))), (1, .int (i1))] [] := by
  unfold f_X7_win_0 at h
  refine V_aload_n dX7_win_0 rfl 0 rfl ?_
  refine V_iload_n dX7_win_1 rfl 1 rfl ?_
  replace h := ob h
  obtain ⟨r1, e_r1, h⟩ := h
  refine V_callS_I (As := [.int (i1)]) (rest := [.ref (zad L (a0))]) (c_X7_isNoPlayer e_r1) zc_X7_isNoPlayer rfl (by decide) zm_X7_174 (Nat.le_of_ble_eq_true rfl) rfl dX7_win_2 ?_
  refine V_pc (pc' := 5) rfl ?_
  refine V_iconst (v := 1) dX7_win_5 (by decide) ?_
  replace h := ox h
  obtain ⟨c3, h⟩ := h
  replace h := ob h
  obtain ⟨r2, e_r2, h⟩ := h
  refine V_callV_I (As := [.int (r1.1), .int ((1 : Int32))]) (rest := []) (c_X7_start e_r2) zc_X7_start rfl (by decide) rfl (by decide) (Or.inl c3) zm_X7_85 (Nat.le_of_ble_eq_true rfl) rfl dX7_win_6 ?_
  refine V_pc (pc' := 9) rfl ?_
  refine V_if_ne (tgt := 33) dX7_win_9 (by decide) (fun c7 => ?_) (fun c7 => ?_)
  · replace h := (oi h).2 c7
    refine V_iconst (v := 0) dX7_win_33 (by decide) ?_
    obtain rfl := Option.some.inj h
    exact V_iret rfl hq dX7_win_34
  · replace h := (oi h).1 c7
    refine V_aload_n dX7_win_12 rfl 0 rfl ?_
    refine V_aload_n dX7_win_13 rfl 0 rfl ?_
    refine V_iload_n dX7_win_14 rfl 1 rfl ?_
    replace h := ox h
    obtain ⟨c5, h⟩ := h
    replace h := ob h
    obtain ⟨r4, e_r4, h⟩ := h
    refine V_callV_I (As := [.int (i1)]) (rest := [.ref (zad L (a0))]) (c_X7_mayWin e_r4) zc_X7_mayWin rfl (by decide) rfl (by decide) (Or.inl c5) zm_X7_259 (Nat.le_of_ble_eq_true rfl) rfl dX7_win_15 ?_
    refine V_pc (pc' := 18) rfl ?_
    refine V_if_ne (tgt := 25) dX7_win_18 (by decide) (fun c6 => ?_) (fun c6 => ?_)
    · replace h := (oi h).2 c6
      refine V_iconst (v := 0) dX7_win_25 (by decide) ?_
      exact s_X7_win_26 hq h
    · replace h := (oi h).1 c6
      refine V_iconst (v := 1) dX7_win_21 (by decide) ?_
      refine V_goto (tgt := 26) dX7_win_22 (by decide) ?_
      exact s_X7_win_26 hq h
def f_X7_win (a0 : Nat) (i1 : Int32) (M : zM) : Option (Int32 × zM) := f_X7_win_0 a0 i1 M
theorem c_X7_win {L : zL} {l : Launch} {a0 : Nat} {i1 : Int32} {M : zM} {r : Int32 × zM} (h : f_X7_win a0 i1 M = some r) : CP L l yX7_win cX7_win 7 (some FieldType.int) 71 M [.ref (zad L (a0)), .int (i1)] (some (.int r.1)) r.2 :=
  CP.of ⟨by decide +kernel, by decide +kernel⟩ (Nat.le_of_ble_eq_true rfl) fun X Q hq => s_X7_win_0 hq h
/-! WindsparlourModel.has(II)I -/
theorem dX7_has_0 : decode cX7_has 0 = .ok (.aload_n 0, 1) := by decide +kernel
theorem dX7_has_1 : decode cX7_has 1 = .ok (.iload_n 1, 1) := by decide +kernel
theorem dX7_has_2 : decode cX7_has 2 = .ok (.invokestatic 174, 3) := by decide +kernel
theorem dX7_has_5 : decode cX7_has 5 = .ok (.iconst 1, 1) := by decide +kernel
theorem dX7_has_6 : decode cX7_has 6 = .ok (.invokevirtual 85, 3) := by decide +kernel
theorem dX7_has_9 : decode cX7_has 9 = .ok (.ifCond .ne 23, 3) := by decide +kernel
theorem dX7_has_12 : decode cX7_has 12 = .ok (.aload_n 0, 1) := by decide +kernel
theorem dX7_has_13 : decode cX7_has 13 = .ok (.iload_n 2, 1) := by decide +kernel
theorem dX7_has_14 : decode cX7_has 14 = .ok (.invokestatic 147, 3) := by decide +kernel
theorem dX7_has_17 : decode cX7_has 17 = .ok (.ifCond .ne 7, 3) := by decide +kernel
theorem dX7_has_20 : decode cX7_has 20 = .ok (.iconst 1, 1) := by decide +kernel
theorem dX7_has_21 : decode cX7_has 21 = .ok (.goto 4, 3) := by decide +kernel
theorem dX7_has_24 : decode cX7_has 24 = .ok (.iconst 0, 1) := by decide +kernel
theorem dX7_has_25 : decode cX7_has 25 = .ok (.iconst 2, 1) := by decide +kernel
theorem dX7_has_26 : decode cX7_has 26 = .ok (.invokevirtual 68, 3) := by decide +kernel
theorem dX7_has_29 : decode cX7_has 29 = .ok (.ifCond .eq 7, 3) := by decide +kernel
theorem dX7_has_32 : decode cX7_has 32 = .ok (.iconst 0, 1) := by decide +kernel
theorem dX7_has_33 : decode cX7_has 33 = .ok (.goto 14, 3) := by decide +kernel
theorem dX7_has_36 : decode cX7_has 36 = .ok (.aload_n 0, 1) := by decide +kernel
theorem dX7_has_37 : decode cX7_has 37 = .ok (.getfield 38, 3) := by decide +kernel
theorem dX7_has_40 : decode cX7_has 40 = .ok (.iload_n 1, 1) := by decide +kernel
theorem dX7_has_41 : decode cX7_has 41 = .ok (.aaload, 1) := by decide +kernel
theorem dX7_has_42 : decode cX7_has 42 = .ok (.getfield 94, 3) := by decide +kernel
theorem dX7_has_45 : decode cX7_has 45 = .ok (.iload_n 2, 1) := by decide +kernel
theorem dX7_has_46 : decode cX7_has 46 = .ok (.iaload, 1) := by decide +kernel
theorem dX7_has_47 : decode cX7_has 47 = .ok (.ireturn, 1) := by decide +kernel
def f_X7_has_25 (a0 : Nat) (i1 : Int32) (i2 : Int32) (i_0 : Int32) (a_1 : Nat) (M : zM) : Option (Int32 × zM) :=
  if mK M a_1 = 13 then
  (f_X7_refuse a_1 i_0 ((2 : Int32)) M).bind fun r1 =>
  if r1.1 = 0 then
  (gR 13 1 r1.2 a0).bind fun v3 =>
  (lQ 2 r1.2 v3 i1).bind fun v4 =>
  (gR 12 2 r1.2 v4).bind fun v5 =>
  (lA 0 r1.2 v5 i2).bind fun v6 =>
  some (v6, r1.2)
  else
  some ((0 : Int32), r1.2)
  else none
set_option maxRecDepth 20000 in
set_option maxHeartbeats 4000000 in
theorem s_X7_has_25 {L : zL} {X : zX} {M0 : zM} {N : Nat × Nat} {Q : State → Prop} {r : Int32 × zM} (hq : vQ L X M0 N Q (some (.int r.1)) r.2) {a0 : Nat} {i1 : Int32} {i2 : Int32} {i_0 : Int32} {a_1 : Nat} {M : zM} (h : f_X7_has_25 a0 i1 i2 i_0 a_1 M = some r) : V L X yX7_has cX7_has 3 (some FieldType.int) 3 M0 N Q M 25 [(0, .ref (zad L (a0))), (1, .int (i1)), (2, .int (i2))] [.int (i_0), .ref (zad L (a_1))] := by
  unfold f_X7_has_25 at h
  refine V_iconst (v := 2) dX7_has_25 (by decide) ?_
  replace h := ox h
  obtain ⟨c2, h⟩ := h
  replace h := ob h
  obtain ⟨r1, e_r1, h⟩ := h
  refine V_callV_I (As := [.int (i_0), .int ((2 : Int32))]) (rest := []) (c_X7_refuse e_r1) zc_X7_refuse rfl (by decide) rfl (by decide) (Or.inl c2) zm_X7_68 (Nat.le_of_ble_eq_true rfl) rfl dX7_has_26 ?_
  refine V_pc (pc' := 29) rfl ?_
  refine V_if_eq (tgt := 36) dX7_has_29 (by decide) (fun c7 => ?_) (fun c7 => ?_)
  · replace h := (oi h).1 c7
    refine V_aload_n dX7_has_36 rfl 0 rfl ?_
    replace h := ob h
    obtain ⟨v3, e_v3, h⟩ := h
    refine V_getR zf_13_1 zl_X7_38 e_v3 dX7_has_37 ?_
    refine V_pc (pc' := 40) rfl ?_
    refine V_iload_n dX7_has_40 rfl 1 rfl ?_
    replace h := ob h
    obtain ⟨v4, e_v4, h⟩ := h
    refine V_aald (by decide) e_v4 dX7_has_41 ?_
    refine V_pc (pc' := 42) rfl ?_
    replace h := ob h
    obtain ⟨v5, e_v5, h⟩ := h
    refine V_getR zf_12_2 zl_X7_94 e_v5 dX7_has_42 ?_
    refine V_pc (pc' := 45) rfl ?_
    refine V_iload_n dX7_has_45 rfl 2 rfl ?_
    replace h := ob h
    obtain ⟨v6, e_v6, h⟩ := h
    refine V_iald e_v6 dX7_has_46 ?_
    refine V_pc (pc' := 47) rfl ?_
    obtain rfl := Option.some.inj h
    exact V_iret rfl hq dX7_has_47
  · replace h := (oi h).2 c7
    refine V_iconst (v := 0) dX7_has_32 (by decide) ?_
    refine V_goto (tgt := 47) dX7_has_33 (by decide) ?_
    obtain rfl := Option.some.inj h
    exact V_iret rfl hq dX7_has_47
def f_X7_has_0 (a0 : Nat) (i1 : Int32) (i2 : Int32) (M : zM) : Option (Int32 × zM) :=
  (f_X7_isNoPlayer i1 M).bind fun r1 =>
  if mK r1.2 a0 = 13 then
  (f_X7_start a0 r1.1 ((1 : Int32)) r1.2).bind fun r2 =>
  if r2.1 = 0 then
  (f_X7_isKind i2 r2.2).bind fun r4 =>
  if r4.1 = 0 then
  f_X7_has_25 a0 i1 i2 ((1 : Int32)) a0 r4.2
  else
  f_X7_has_25 a0 i1 i2 ((0 : Int32)) a0 r4.2
  else
  some ((0 : Int32), r2.2)
  else none
set_option maxRecDepth 20000 in
set_option maxHeartbeats 4000000 in
theorem s_X7_has_0 {L : zL} {X : zX} {M0 : zM} {N : Nat × Nat} {Q : State → Prop} {r : Int32 × zM} (hq : vQ L X M0 N Q (some (.int r.1)) r.2) {a0 : Nat} {i1 : Int32} {i2 : Int32} {M : zM} (h : f_X7_has_0 a0 i1 i2 M = some r) : V L X yX7_has cX7_has 3 (some FieldType.int) 3 M0 N Q M 0 [(0, .ref (zad L (a0))), (1, .int (i1)), (2, .int (i2))] [] := by
  unfold f_X7_has_0 at h
  refine V_aload_n dX7_has_0 rfl 0 rfl ?_
  refine V_iload_n dX7_has_1 rfl 1 rfl ?_
  replace h := ob h
  obtain ⟨r1, e_r1, h⟩ := h
  refine V_callS_I (As := [.int (i1)]) (rest := [.ref (zad L (a0))]) (c_X7_isNoPlayer e_r1) zc_X7_isNoPlayer rfl (by decide) zm_X7_174 (Nat.le_of_ble_eq_true rfl) rfl dX7_has_2 ?_
  refine V_pc (pc' := 5) rfl ?_
  refine V_iconst (v := 1) dX7_has_5 (by decide) ?_
  replace h := ox h
  obtain ⟨c3, h⟩ := h
  replace h := ob h
  obtain ⟨r2, e_r2, h⟩ := h
  refine V_callV_I (As := [.int (r1.1), .int ((1 : Int32))]) (rest := []) (c_X7_start e_r2) zc_X7_start rfl (by decide) rfl (by decide) (Or.inl c3) zm_X7_85 (Nat.le_of_ble_eq_true rfl) rfl dX7_has_6 ?_
  refine V_pc (pc' := 9) rfl ?_
  refine V_if_ne (tgt := 32) dX7_has_9 (by decide) (fun c6 => ?_) (fun c6 => ?_)
  · replace h := (oi h).2 c6
    refine V_iconst (v := 0) dX7_has_32 (by decide) ?_
    refine V_goto (tgt := 47) dX7_has_33 (by decide) ?_
    obtain rfl := Option.some.inj h
    exact V_iret rfl hq dX7_has_47
  · replace h := (oi h).1 c6
    refine V_aload_n dX7_has_12 rfl 0 rfl ?_
    refine V_iload_n dX7_has_13 rfl 2 rfl ?_
    replace h := ob h
    obtain ⟨r4, e_r4, h⟩ := h
    refine V_callS_I (As := [.int (i2)]) (rest := [.ref (zad L (a0))]) (c_X7_isKind e_r4) zc_X7_isKind rfl (by decide) zm_X7_147 (Nat.le_of_ble_eq_true rfl) rfl dX7_has_14 ?_
    refine V_pc (pc' := 17) rfl ?_
    refine V_if_ne (tgt := 24) dX7_has_17 (by decide) (fun c5 => ?_) (fun c5 => ?_)
    · replace h := (oi h).2 c5
      refine V_iconst (v := 0) dX7_has_24 (by decide) ?_
      exact s_X7_has_25 hq h
    · replace h := (oi h).1 c5
      refine V_iconst (v := 1) dX7_has_20 (by decide) ?_
      refine V_goto (tgt := 25) dX7_has_21 (by decide) ?_
      exact s_X7_has_25 hq h
def f_X7_has (a0 : Nat) (i1 : Int32) (i2 : Int32) (M : zM) : Option (Int32 × zM) := f_X7_has_0 a0 i1 i2 M
theorem c_X7_has {L : zL} {l : Launch} {a0 : Nat} {i1 : Int32} {i2 : Int32} {M : zM} {r : Int32 × zM} (h : f_X7_has a0 i1 i2 M = some r) : CP L l yX7_has cX7_has 3 (some FieldType.int) 3 M [.ref (zad L (a0)), .int (i1), .int (i2)] (some (.int r.1)) r.2 :=
  CP.of ⟨by decide +kernel, by decide +kernel⟩ (Nat.le_of_ble_eq_true rfl) fun X Q hq => s_X7_has_0 hq h
/-! WindsparlourModel.ofPlayerNow(II)I -/
theorem dX7_ofPlayerNow_0 : decode cX7_ofPlayerNow 0 = .ok (.aload_n 0, 1) := by decide +kernel
theorem dX7_ofPlayerNow_1 : decode cX7_ofPlayerNow 1 = .ok (.getfield 38, 3) := by decide +kernel
theorem dX7_ofPlayerNow_4 : decode cX7_ofPlayerNow 4 = .ok (.iload_n 1, 1) := by decide +kernel
theorem dX7_ofPlayerNow_5 : decode cX7_ofPlayerNow 5 = .ok (.aaload, 1) := by decide +kernel
theorem dX7_ofPlayerNow_6 : decode cX7_ofPlayerNow 6 = .ok (.astore_n 3, 1) := by decide +kernel
theorem dX7_ofPlayerNow_7 : decode cX7_ofPlayerNow 7 = .ok (.iload_n 2, 1) := by decide +kernel
theorem dX7_ofPlayerNow_8 : decode cX7_ofPlayerNow 8 = .ok (.tableswitch 124 0 8 #[52, 57, 65, 70, 75, 83, 96, 101, 119], 52) := by decide +kernel
theorem dX7_ofPlayerNow_60 : decode cX7_ofPlayerNow 60 = .ok (.aload_n 3, 1) := by decide +kernel
theorem dX7_ofPlayerNow_61 : decode cX7_ofPlayerNow 61 = .ok (.getfield 112, 3) := by decide +kernel
theorem dX7_ofPlayerNow_64 : decode cX7_ofPlayerNow 64 = .ok (.ireturn, 1) := by decide +kernel
theorem dX7_ofPlayerNow_65 : decode cX7_ofPlayerNow 65 = .ok (.aload_n 3, 1) := by decide +kernel
theorem dX7_ofPlayerNow_66 : decode cX7_ofPlayerNow 66 = .ok (.getfield 183, 3) := by decide +kernel
theorem dX7_ofPlayerNow_69 : decode cX7_ofPlayerNow 69 = .ok (.invokevirtual 144, 3) := by decide +kernel
theorem dX7_ofPlayerNow_72 : decode cX7_ofPlayerNow 72 = .ok (.ireturn, 1) := by decide +kernel
theorem dX7_ofPlayerNow_73 : decode cX7_ofPlayerNow 73 = .ok (.aload_n 3, 1) := by decide +kernel
theorem dX7_ofPlayerNow_74 : decode cX7_ofPlayerNow 74 = .ok (.invokevirtual 158, 3) := by decide +kernel
theorem dX7_ofPlayerNow_77 : decode cX7_ofPlayerNow 77 = .ok (.ireturn, 1) := by decide +kernel
theorem dX7_ofPlayerNow_78 : decode cX7_ofPlayerNow 78 = .ok (.aload_n 3, 1) := by decide +kernel
theorem dX7_ofPlayerNow_79 : decode cX7_ofPlayerNow 79 = .ok (.invokevirtual 269, 3) := by decide +kernel
theorem dX7_ofPlayerNow_82 : decode cX7_ofPlayerNow 82 = .ok (.ireturn, 1) := by decide +kernel
theorem dX7_ofPlayerNow_83 : decode cX7_ofPlayerNow 83 = .ok (.aload_n 3, 1) := by decide +kernel
theorem dX7_ofPlayerNow_84 : decode cX7_ofPlayerNow 84 = .ok (.getfield 124, 3) := by decide +kernel
theorem dX7_ofPlayerNow_87 : decode cX7_ofPlayerNow 87 = .ok (.invokevirtual 144, 3) := by decide +kernel
theorem dX7_ofPlayerNow_90 : decode cX7_ofPlayerNow 90 = .ok (.ireturn, 1) := by decide +kernel
theorem dX7_ofPlayerNow_91 : decode cX7_ofPlayerNow 91 = .ok (.aload_n 3, 1) := by decide +kernel
theorem dX7_ofPlayerNow_92 : decode cX7_ofPlayerNow 92 = .ok (.getfield 151, 3) := by decide +kernel
theorem dX7_ofPlayerNow_95 : decode cX7_ofPlayerNow 95 = .ok (.ifCond .eq 7, 3) := by decide +kernel
theorem dX7_ofPlayerNow_98 : decode cX7_ofPlayerNow 98 = .ok (.iconst 1, 1) := by decide +kernel
theorem dX7_ofPlayerNow_99 : decode cX7_ofPlayerNow 99 = .ok (.goto 4, 3) := by decide +kernel
theorem dX7_ofPlayerNow_102 : decode cX7_ofPlayerNow 102 = .ok (.iconst 0, 1) := by decide +kernel
theorem dX7_ofPlayerNow_103 : decode cX7_ofPlayerNow 103 = .ok (.ireturn, 1) := by decide +kernel
theorem dX7_ofPlayerNow_104 : decode cX7_ofPlayerNow 104 = .ok (.aload_n 3, 1) := by decide +kernel
theorem dX7_ofPlayerNow_105 : decode cX7_ofPlayerNow 105 = .ok (.invokevirtual 272, 3) := by decide +kernel
theorem dX7_ofPlayerNow_108 : decode cX7_ofPlayerNow 108 = .ok (.ireturn, 1) := by decide +kernel
theorem dX7_ofPlayerNow_109 : decode cX7_ofPlayerNow 109 = .ok (.aload_n 0, 1) := by decide +kernel
theorem dX7_ofPlayerNow_110 : decode cX7_ofPlayerNow 110 = .ok (.getfield 53, 3) := by decide +kernel
theorem dX7_ofPlayerNow_113 : decode cX7_ofPlayerNow 113 = .ok (.iconst (-1), 1) := by decide +kernel
theorem dX7_ofPlayerNow_114 : decode cX7_ofPlayerNow 114 = .ok (.if_icmp .ne 7, 3) := by decide +kernel
theorem dX7_ofPlayerNow_117 : decode cX7_ofPlayerNow 117 = .ok (.iconst (-1), 1) := by decide +kernel
theorem dX7_ofPlayerNow_118 : decode cX7_ofPlayerNow 118 = .ok (.goto 8, 3) := by decide +kernel
theorem dX7_ofPlayerNow_121 : decode cX7_ofPlayerNow 121 = .ok (.aload_n 0, 1) := by decide +kernel
theorem dX7_ofPlayerNow_122 : decode cX7_ofPlayerNow 122 = .ok (.iload_n 1, 1) := by decide +kernel
theorem dX7_ofPlayerNow_123 : decode cX7_ofPlayerNow 123 = .ok (.invokevirtual 226, 3) := by decide +kernel
theorem dX7_ofPlayerNow_126 : decode cX7_ofPlayerNow 126 = .ok (.ireturn, 1) := by decide +kernel
theorem dX7_ofPlayerNow_127 : decode cX7_ofPlayerNow 127 = .ok (.aload_n 3, 1) := by decide +kernel
theorem dX7_ofPlayerNow_128 : decode cX7_ofPlayerNow 128 = .ok (.getfield 266, 3) := by decide +kernel
theorem dX7_ofPlayerNow_131 : decode cX7_ofPlayerNow 131 = .ok (.ireturn, 1) := by decide +kernel
theorem dX7_ofPlayerNow_132 : decode cX7_ofPlayerNow 132 = .ok (.aload_n 0, 1) := by decide +kernel
theorem dX7_ofPlayerNow_133 : decode cX7_ofPlayerNow 133 = .ok (.aload_n 3, 1) := by decide +kernel
theorem dX7_ofPlayerNow_134 : decode cX7_ofPlayerNow 134 = .ok (.invokevirtual 255, 3) := by decide +kernel
theorem dX7_ofPlayerNow_137 : decode cX7_ofPlayerNow 137 = .ok (.ifCond .eq 7, 3) := by decide +kernel
theorem dX7_ofPlayerNow_140 : decode cX7_ofPlayerNow 140 = .ok (.iconst 1, 1) := by decide +kernel
theorem dX7_ofPlayerNow_141 : decode cX7_ofPlayerNow 141 = .ok (.goto 4, 3) := by decide +kernel
theorem dX7_ofPlayerNow_144 : decode cX7_ofPlayerNow 144 = .ok (.iconst 0, 1) := by decide +kernel
theorem dX7_ofPlayerNow_145 : decode cX7_ofPlayerNow 145 = .ok (.ireturn, 1) := by decide +kernel
def f_X7_ofPlayerNow_0 (a0 : Nat) (i1 : Int32) (i2 : Int32) (M : zM) : Option (Int32 × zM) :=
  (gR 13 1 M a0).bind fun v1 =>
  (lQ 2 M v1 i1).bind fun v2 =>
  if i2 = 0 then
  (gI 12 0 M v2).bind fun v34 =>
  some (v34, M)
  else
  if i2 = 1 then
  (gR 12 3 M v2).bind fun v31 =>
  if mK M v31 = 5 then
  (f_Jx4a65c_size_8abf5 v31 M).bind fun r32 =>
  some (r32.1, r32.2)
  else none
  else
  if i2 = 2 then
  if mK M v2 = 12 then
  (f_X6_open v2 M).bind fun r29 =>
  some (r29.1, r29.2)
  else none
  else
  if i2 = 3 then
  if mK M v2 = 12 then
  (f_X6_tiles v2 M).bind fun r27 =>
  some (r27.1, r27.2)
  else none
  else
  if i2 = 4 then
  (gR 12 4 M v2).bind fun v24 =>
  if mK M v24 = 5 then
  (f_Jx4a65c_size_8abf5 v24 M).bind fun r25 =>
  some (r25.1, r25.2)
  else none
  else
  if i2 = 5 then
  (gI 12 6 M v2).bind fun v22 =>
  if v22 = 0 then
  some ((0 : Int32), M)
  else
  some ((1 : Int32), M)
  else
  if i2 = 6 then
  if mK M v2 = 12 then
  (f_X6_far v2 M).bind fun r20 =>
  some (r20.1, r20.2)
  else none
  else
  if i2 = 7 then
  (gI 13 8 M a0).bind fun v16 =>
  if v16 = ((-1 : Int32)) then
  some ((-1 : Int32), M)
  else
  if mK M a0 = 13 then
  (f_X7_wind a0 i1 M).bind fun r17 =>
  some (r17.1, r17.2)
  else none
  else
  if i2 = 8 then
  (gI 12 1 M v2).bind fun v15 =>
  some (v15, M)
  else
  if mK M a0 = 13 then
  (f_X7_isBarred a0 v2 M).bind fun r12 =>
  if r12.1 = 0 then
  some ((0 : Int32), r12.2)
  else
  some ((1 : Int32), r12.2)
  else none
set_option maxRecDepth 20000 in
set_option maxHeartbeats 4000000 in
theorem s_X7_ofPlayerNow_0 {L : zL} {X : zX} {M0 : zM} {N : Nat × Nat} {Q : State → Prop} {r : Int32 × zM} (hq : vQ L X M0 N Q (some (.int r.1)) r.2) {a0 : Nat} {i1 : Int32} {i2 : Int32} {M : zM} (h : f_X7_ofPlayerNow_0 a0 i1 i2 M = some r) : V L X yX7_ofPlayerNow cX7_ofPlayerNow 4 (some FieldType.int) 132 M0 N Q M 0 [(0, .ref (zad L (a0))), (1, .int (i1)), (2, .int (i2))] [] := by
  unfold f_X7_ofPlayerNow_0 at h
  refine V_aload_n dX7_ofPlayerNow_0 rfl 0 rfl ?_
  replace h := ob h
  obtain ⟨v1, e_v1, h⟩ := h
  refine V_getR zf_13_1 zl_X7_38 e_v1 dX7_ofPlayerNow_1 ?_
  refine V_pc (pc' := 4) rfl ?_
  refine V_iload_n dX7_ofPlayerNow_4 rfl 1 rfl ?_
  replace h := ob h
  obtain ⟨v2, e_v2, h⟩ := h
  refine V_aald (by decide) e_v2 dX7_ofPlayerNow_5 ?_
  refine V_pc (pc' := 6) rfl ?_
  refine V_astore_n (ls' := [(3, .ref (zad L (v2))), (0, .ref (zad L (a0))), (1, .int (i1)), (2, .int (i2))]) dX7_ofPlayerNow_6 rfl (by decide) rfl ?_
  refine V_iload_n dX7_ofPlayerNow_7 rfl 3 rfl ?_
  by_cases c3 : i2 = 0
  · replace h := (oi h).1 c3
    refine V_tabIn (off := 52) (tgt := 60) dX7_ofPlayerNow_8 (by rw [c3]; decide) (by rw [c3]; decide) (by rw [c3]; decide) (by decide) ?_
    refine V_aload_n dX7_ofPlayerNow_60 rfl 0 rfl ?_
    replace h := ob h
    obtain ⟨v34, e_v34, h⟩ := h
    refine V_getI zf_12_0 zl_X7_112 e_v34 dX7_ofPlayerNow_61 ?_
    refine V_pc (pc' := 64) rfl ?_
    obtain rfl := Option.some.inj h
    exact V_iret rfl hq dX7_ofPlayerNow_64
  · replace h := (oi h).2 c3
    by_cases c4 : i2 = 1
    · replace h := (oi h).1 c4
      refine V_tabIn (off := 57) (tgt := 65) dX7_ofPlayerNow_8 (by rw [c4]; decide) (by rw [c4]; decide) (by rw [c4]; decide) (by decide) ?_
      refine V_aload_n dX7_ofPlayerNow_65 rfl 0 rfl ?_
      replace h := ob h
      obtain ⟨v31, e_v31, h⟩ := h
      refine V_getR zf_12_3 zl_X7_183 e_v31 dX7_ofPlayerNow_66 ?_
      refine V_pc (pc' := 69) rfl ?_
      replace h := ox h
      obtain ⟨c33, h⟩ := h
      replace h := ob h
      obtain ⟨r32, e_r32, h⟩ := h
      refine V_callV_I (As := []) (rest := []) (c_Jx4a65c_size_8abf5 e_r32) zc_Jx4a65c_size_8abf5 rfl (by decide) rfl (by decide) (Or.inl c33) zm_X7_144 (Nat.le_of_ble_eq_true rfl) rfl dX7_ofPlayerNow_69 ?_
      refine V_pc (pc' := 72) rfl ?_
      obtain rfl := Option.some.inj h
      exact V_iret rfl hq dX7_ofPlayerNow_72
    · replace h := (oi h).2 c4
      by_cases c5 : i2 = 2
      · replace h := (oi h).1 c5
        refine V_tabIn (off := 65) (tgt := 73) dX7_ofPlayerNow_8 (by rw [c5]; decide) (by rw [c5]; decide) (by rw [c5]; decide) (by decide) ?_
        refine V_aload_n dX7_ofPlayerNow_73 rfl 0 rfl ?_
        replace h := ox h
        obtain ⟨c30, h⟩ := h
        replace h := ob h
        obtain ⟨r29, e_r29, h⟩ := h
        refine V_callV_I (As := []) (rest := []) (c_X6_open e_r29) zc_X6_open rfl (by decide) rfl (by decide) (Or.inl c30) zm_X7_158 (Nat.le_of_ble_eq_true rfl) rfl dX7_ofPlayerNow_74 ?_
        refine V_pc (pc' := 77) rfl ?_
        obtain rfl := Option.some.inj h
        exact V_iret rfl hq dX7_ofPlayerNow_77
      · replace h := (oi h).2 c5
        by_cases c6 : i2 = 3
        · replace h := (oi h).1 c6
          refine V_tabIn (off := 70) (tgt := 78) dX7_ofPlayerNow_8 (by rw [c6]; decide) (by rw [c6]; decide) (by rw [c6]; decide) (by decide) ?_
          refine V_aload_n dX7_ofPlayerNow_78 rfl 0 rfl ?_
          replace h := ox h
          obtain ⟨c28, h⟩ := h
          replace h := ob h
          obtain ⟨r27, e_r27, h⟩ := h
          refine V_callV_I (As := []) (rest := []) (c_X6_tiles e_r27) zc_X6_tiles rfl (by decide) rfl (by decide) (Or.inl c28) zm_X7_269 (Nat.le_of_ble_eq_true rfl) rfl dX7_ofPlayerNow_79 ?_
          refine V_pc (pc' := 82) rfl ?_
          obtain rfl := Option.some.inj h
          exact V_iret rfl hq dX7_ofPlayerNow_82
        · replace h := (oi h).2 c6
          by_cases c7 : i2 = 4
          · replace h := (oi h).1 c7
            refine V_tabIn (off := 75) (tgt := 83) dX7_ofPlayerNow_8 (by rw [c7]; decide) (by rw [c7]; decide) (by rw [c7]; decide) (by decide) ?_
            refine V_aload_n dX7_ofPlayerNow_83 rfl 0 rfl ?_
            replace h := ob h
            obtain ⟨v24, e_v24, h⟩ := h
            refine V_getR zf_12_4 zl_X7_124 e_v24 dX7_ofPlayerNow_84 ?_
            refine V_pc (pc' := 87) rfl ?_
            replace h := ox h
            obtain ⟨c26, h⟩ := h
            replace h := ob h
            obtain ⟨r25, e_r25, h⟩ := h
            refine V_callV_I (As := []) (rest := []) (c_Jx4a65c_size_8abf5 e_r25) zc_Jx4a65c_size_8abf5 rfl (by decide) rfl (by decide) (Or.inl c26) zm_X7_144 (Nat.le_of_ble_eq_true rfl) rfl dX7_ofPlayerNow_87 ?_
            refine V_pc (pc' := 90) rfl ?_
            obtain rfl := Option.some.inj h
            exact V_iret rfl hq dX7_ofPlayerNow_90
          · replace h := (oi h).2 c7
            by_cases c8 : i2 = 5
            · replace h := (oi h).1 c8
              refine V_tabIn (off := 83) (tgt := 91) dX7_ofPlayerNow_8 (by rw [c8]; decide) (by rw [c8]; decide) (by rw [c8]; decide) (by decide) ?_
              refine V_aload_n dX7_ofPlayerNow_91 rfl 0 rfl ?_
              replace h := ob h
              obtain ⟨v22, e_v22, h⟩ := h
              refine V_getI zf_12_6 zl_X7_151 e_v22 dX7_ofPlayerNow_92 ?_
              refine V_pc (pc' := 95) rfl ?_
              refine V_if_eq (tgt := 102) dX7_ofPlayerNow_95 (by decide) (fun c23 => ?_) (fun c23 => ?_)
              · replace h := (oi h).1 c23
                refine V_iconst (v := 0) dX7_ofPlayerNow_102 (by decide) ?_
                obtain rfl := Option.some.inj h
                exact V_iret rfl hq dX7_ofPlayerNow_103
              · replace h := (oi h).2 c23
                refine V_iconst (v := 1) dX7_ofPlayerNow_98 (by decide) ?_
                refine V_goto (tgt := 103) dX7_ofPlayerNow_99 (by decide) ?_
                obtain rfl := Option.some.inj h
                exact V_iret rfl hq dX7_ofPlayerNow_103
            · replace h := (oi h).2 c8
              by_cases c9 : i2 = 6
              · replace h := (oi h).1 c9
                refine V_tabIn (off := 96) (tgt := 104) dX7_ofPlayerNow_8 (by rw [c9]; decide) (by rw [c9]; decide) (by rw [c9]; decide) (by decide) ?_
                refine V_aload_n dX7_ofPlayerNow_104 rfl 0 rfl ?_
                replace h := ox h
                obtain ⟨c21, h⟩ := h
                replace h := ob h
                obtain ⟨r20, e_r20, h⟩ := h
                refine V_callV_I (As := []) (rest := []) (c_X6_far e_r20) zc_X6_far rfl (by decide) rfl (by decide) (Or.inl c21) zm_X7_272 (Nat.le_of_ble_eq_true rfl) rfl dX7_ofPlayerNow_105 ?_
                refine V_pc (pc' := 108) rfl ?_
                obtain rfl := Option.some.inj h
                exact V_iret rfl hq dX7_ofPlayerNow_108
              · replace h := (oi h).2 c9
                by_cases c10 : i2 = 7
                · replace h := (oi h).1 c10
                  refine V_tabIn (off := 101) (tgt := 109) dX7_ofPlayerNow_8 (by rw [c10]; decide) (by rw [c10]; decide) (by rw [c10]; decide) (by decide) ?_
                  refine V_aload_n dX7_ofPlayerNow_109 rfl 1 rfl ?_
                  replace h := ob h
                  obtain ⟨v16, e_v16, h⟩ := h
                  refine V_getI zf_13_8 zl_X7_53 e_v16 dX7_ofPlayerNow_110 ?_
                  refine V_pc (pc' := 113) rfl ?_
                  refine V_iconst (v := -1) dX7_ofPlayerNow_113 (by decide) ?_
                  refine V_icmp_ne (tgt := 121) dX7_ofPlayerNow_114 (by decide) (fun c19 => ?_) (fun c19 => ?_)
                  · replace h := (oi h).2 c19
                    refine V_aload_n dX7_ofPlayerNow_121 rfl 1 rfl ?_
                    refine V_iload_n dX7_ofPlayerNow_122 rfl 2 rfl ?_
                    replace h := ox h
                    obtain ⟨c18, h⟩ := h
                    replace h := ob h
                    obtain ⟨r17, e_r17, h⟩ := h
                    refine V_callV_I (As := [.int (i1)]) (rest := []) (c_X7_wind e_r17) zc_X7_wind rfl (by decide) rfl (by decide) (Or.inl c18) zm_X7_226 (Nat.le_of_ble_eq_true rfl) rfl dX7_ofPlayerNow_123 ?_
                    refine V_pc (pc' := 126) rfl ?_
                    obtain rfl := Option.some.inj h
                    exact V_iret rfl hq dX7_ofPlayerNow_126
                  · replace h := (oi h).1 c19
                    refine V_iconst (v := -1) dX7_ofPlayerNow_117 (by decide) ?_
                    refine V_goto (tgt := 126) dX7_ofPlayerNow_118 (by decide) ?_
                    obtain rfl := Option.some.inj h
                    exact V_iret rfl hq dX7_ofPlayerNow_126
                · replace h := (oi h).2 c10
                  by_cases c11 : i2 = 8
                  · replace h := (oi h).1 c11
                    refine V_tabIn (off := 119) (tgt := 127) dX7_ofPlayerNow_8 (by rw [c11]; decide) (by rw [c11]; decide) (by rw [c11]; decide) (by decide) ?_
                    refine V_aload_n dX7_ofPlayerNow_127 rfl 0 rfl ?_
                    replace h := ob h
                    obtain ⟨v15, e_v15, h⟩ := h
                    refine V_getI zf_12_1 zl_X7_266 e_v15 dX7_ofPlayerNow_128 ?_
                    refine V_pc (pc' := 131) rfl ?_
                    obtain rfl := Option.some.inj h
                    exact V_iret rfl hq dX7_ofPlayerNow_131
                  · replace h := (oi h).2 c11
                    have hsw : (i2).toInt < 0 ∨ 8 < (i2).toInt := by
                      have q0 : ¬ (i2).toInt = 0 := fun e => c3 (Int32.toInt_inj.mp (e.trans (by decide)))
                      have q1 : ¬ (i2).toInt = 1 := fun e => c4 (Int32.toInt_inj.mp (e.trans (by decide)))
                      have q2 : ¬ (i2).toInt = 2 := fun e => c5 (Int32.toInt_inj.mp (e.trans (by decide)))
                      have q3 : ¬ (i2).toInt = 3 := fun e => c6 (Int32.toInt_inj.mp (e.trans (by decide)))
                      have q4 : ¬ (i2).toInt = 4 := fun e => c7 (Int32.toInt_inj.mp (e.trans (by decide)))
                      have q5 : ¬ (i2).toInt = 5 := fun e => c8 (Int32.toInt_inj.mp (e.trans (by decide)))
                      have q6 : ¬ (i2).toInt = 6 := fun e => c9 (Int32.toInt_inj.mp (e.trans (by decide)))
                      have q7 : ¬ (i2).toInt = 7 := fun e => c10 (Int32.toInt_inj.mp (e.trans (by decide)))
                      have q8 : ¬ (i2).toInt = 8 := fun e => c11 (Int32.toInt_inj.mp (e.trans (by decide)))
                      omega
                    refine V_tabOut (tgt := 132) dX7_ofPlayerNow_8 hsw (by decide) ?_
                    refine V_aload_n dX7_ofPlayerNow_132 rfl 1 rfl ?_
                    refine V_aload_n dX7_ofPlayerNow_133 rfl 0 rfl ?_
                    replace h := ox h
                    obtain ⟨c13, h⟩ := h
                    replace h := ob h
                    obtain ⟨r12, e_r12, h⟩ := h
                    refine V_callV_I (As := [.ref (zad L (v2))]) (rest := []) (c_X7_isBarred e_r12) zc_X7_isBarred rfl (by decide) rfl (by decide) (Or.inl c13) zm_X7_255 (Nat.le_of_ble_eq_true rfl) rfl dX7_ofPlayerNow_134 ?_
                    refine V_pc (pc' := 137) rfl ?_
                    refine V_if_eq (tgt := 144) dX7_ofPlayerNow_137 (by decide) (fun c14 => ?_) (fun c14 => ?_)
                    · replace h := (oi h).1 c14
                      refine V_iconst (v := 0) dX7_ofPlayerNow_144 (by decide) ?_
                      obtain rfl := Option.some.inj h
                      exact V_iret rfl hq dX7_ofPlayerNow_145
                    · replace h := (oi h).2 c14
                      refine V_iconst (v := 1) dX7_ofPlayerNow_140 (by decide) ?_
                      refine V_goto (tgt := 145) dX7_ofPlayerNow_141 (by decide) ?_
                      obtain rfl := Option.some.inj h
                      exact V_iret rfl hq dX7_ofPlayerNow_145
def f_X7_ofPlayerNow (a0 : Nat) (i1 : Int32) (i2 : Int32) (M : zM) : Option (Int32 × zM) := f_X7_ofPlayerNow_0 a0 i1 i2 M
theorem c_X7_ofPlayerNow {L : zL} {l : Launch} {a0 : Nat} {i1 : Int32} {i2 : Int32} {M : zM} {r : Int32 × zM} (h : f_X7_ofPlayerNow a0 i1 i2 M = some r) : CP L l yX7_ofPlayerNow cX7_ofPlayerNow 4 (some FieldType.int) 132 M [.ref (zad L (a0)), .int (i1), .int (i2)] (some (.int r.1)) r.2 :=
  CP.of ⟨by decide +kernel, by decide +kernel⟩ (Nat.le_of_ble_eq_true rfl) fun X Q hq => s_X7_ofPlayerNow_0 hq h
/-! WindsparlourModel.ofPlayer(II)I -/
theorem dX7_ofPlayer_0 : decode cX7_ofPlayer 0 = .ok (.aload_n 0, 1) := by decide +kernel
theorem dX7_ofPlayer_1 : decode cX7_ofPlayer 1 = .ok (.iload_n 1, 1) := by decide +kernel
theorem dX7_ofPlayer_2 : decode cX7_ofPlayer 2 = .ok (.invokestatic 174, 3) := by decide +kernel
theorem dX7_ofPlayer_5 : decode cX7_ofPlayer 5 = .ok (.iconst 1, 1) := by decide +kernel
theorem dX7_ofPlayer_6 : decode cX7_ofPlayer 6 = .ok (.invokevirtual 85, 3) := by decide +kernel
theorem dX7_ofPlayer_9 : decode cX7_ofPlayer 9 = .ok (.ifCond .ne 26, 3) := by decide +kernel
theorem dX7_ofPlayer_12 : decode cX7_ofPlayer 12 = .ok (.aload_n 0, 1) := by decide +kernel
theorem dX7_ofPlayer_13 : decode cX7_ofPlayer 13 = .ok (.iload_n 2, 1) := by decide +kernel
theorem dX7_ofPlayer_14 : decode cX7_ofPlayer 14 = .ok (.iconst 0, 1) := by decide +kernel
theorem dX7_ofPlayer_15 : decode cX7_ofPlayer 15 = .ok (.bipush 9, 2) := by decide +kernel
theorem dX7_ofPlayer_17 : decode cX7_ofPlayer 17 = .ok (.invokestatic 3, 3) := by decide +kernel
theorem dX7_ofPlayer_20 : decode cX7_ofPlayer 20 = .ok (.ifCond .ne 7, 3) := by decide +kernel
theorem dX7_ofPlayer_23 : decode cX7_ofPlayer 23 = .ok (.iconst 1, 1) := by decide +kernel
theorem dX7_ofPlayer_24 : decode cX7_ofPlayer 24 = .ok (.goto 4, 3) := by decide +kernel
theorem dX7_ofPlayer_27 : decode cX7_ofPlayer 27 = .ok (.iconst 0, 1) := by decide +kernel
theorem dX7_ofPlayer_28 : decode cX7_ofPlayer 28 = .ok (.iconst 2, 1) := by decide +kernel
theorem dX7_ofPlayer_29 : decode cX7_ofPlayer 29 = .ok (.invokevirtual 68, 3) := by decide +kernel
theorem dX7_ofPlayer_32 : decode cX7_ofPlayer 32 = .ok (.ifCond .eq 7, 3) := by decide +kernel
theorem dX7_ofPlayer_35 : decode cX7_ofPlayer 35 = .ok (.iconst 0, 1) := by decide +kernel
theorem dX7_ofPlayer_36 : decode cX7_ofPlayer 36 = .ok (.goto 9, 3) := by decide +kernel
theorem dX7_ofPlayer_39 : decode cX7_ofPlayer 39 = .ok (.aload_n 0, 1) := by decide +kernel
theorem dX7_ofPlayer_40 : decode cX7_ofPlayer 40 = .ok (.iload_n 1, 1) := by decide +kernel
theorem dX7_ofPlayer_41 : decode cX7_ofPlayer 41 = .ok (.iload_n 2, 1) := by decide +kernel
theorem dX7_ofPlayer_42 : decode cX7_ofPlayer 42 = .ok (.invokevirtual 274, 3) := by decide +kernel
theorem dX7_ofPlayer_45 : decode cX7_ofPlayer 45 = .ok (.ireturn, 1) := by decide +kernel
def f_X7_ofPlayer_28 (a0 : Nat) (i1 : Int32) (i2 : Int32) (i_0 : Int32) (a_1 : Nat) (M : zM) : Option (Int32 × zM) :=
  if mK M a_1 = 13 then
  (f_X7_refuse a_1 i_0 ((2 : Int32)) M).bind fun r1 =>
  if r1.1 = 0 then
  if mK r1.2 a0 = 13 then
  (f_X7_ofPlayerNow a0 i1 i2 r1.2).bind fun r3 =>
  some (r3.1, r3.2)
  else none
  else
  some ((0 : Int32), r1.2)
  else none
set_option maxRecDepth 20000 in
set_option maxHeartbeats 4000000 in
theorem s_X7_ofPlayer_28 {L : zL} {X : zX} {M0 : zM} {N : Nat × Nat} {Q : State → Prop} {r : Int32 × zM} (hq : vQ L X M0 N Q (some (.int r.1)) r.2) {a0 : Nat} {i1 : Int32} {i2 : Int32} {i_0 : Int32} {a_1 : Nat} {M : zM} (h : f_X7_ofPlayer_28 a0 i1 i2 i_0 a_1 M = some r) : V L X yX7_ofPlayer cX7_ofPlayer 3 (some FieldType.int) 133 M0 N Q M 28 [(0, .ref (zad L (a0))), (1, .int (i1)), (2, .int (i2))] [.int (i_0), .ref (zad L (a_1))] := by
  unfold f_X7_ofPlayer_28 at h
  refine V_iconst (v := 2) dX7_ofPlayer_28 (by decide) ?_
  replace h := ox h
  obtain ⟨c2, h⟩ := h
  replace h := ob h
  obtain ⟨r1, e_r1, h⟩ := h
  refine V_callV_I (As := [.int (i_0), .int ((2 : Int32))]) (rest := []) (c_X7_refuse e_r1) zc_X7_refuse rfl (by decide) rfl (by decide) (Or.inl c2) zm_X7_68 (Nat.le_of_ble_eq_true rfl) rfl dX7_ofPlayer_29 ?_
  refine V_pc (pc' := 32) rfl ?_
  refine V_if_eq (tgt := 39) dX7_ofPlayer_32 (by decide) (fun c5 => ?_) (fun c5 => ?_)
  · replace h := (oi h).1 c5
    refine V_aload_n dX7_ofPlayer_39 rfl 0 rfl ?_
    refine V_iload_n dX7_ofPlayer_40 rfl 1 rfl ?_
    refine V_iload_n dX7_ofPlayer_41 rfl 2 rfl ?_
    replace h := ox h
    obtain ⟨c4, h⟩ := h
    replace h := ob h
    obtain ⟨r3, e_r3, h⟩ := h
    refine V_callV_I (As := [.int (i1), .int (i2)]) (rest := []) (c_X7_ofPlayerNow e_r3) zc_X7_ofPlayerNow rfl (by decide) rfl (by decide) (Or.inl c4) zm_X7_274 (Nat.le_of_ble_eq_true rfl) rfl dX7_ofPlayer_42 ?_
    refine V_pc (pc' := 45) rfl ?_
    obtain rfl := Option.some.inj h
    exact V_iret rfl hq dX7_ofPlayer_45
  · replace h := (oi h).2 c5
    refine V_iconst (v := 0) dX7_ofPlayer_35 (by decide) ?_
    refine V_goto (tgt := 45) dX7_ofPlayer_36 (by decide) ?_
    obtain rfl := Option.some.inj h
    exact V_iret rfl hq dX7_ofPlayer_45
def f_X7_ofPlayer_0 (a0 : Nat) (i1 : Int32) (i2 : Int32) (M : zM) : Option (Int32 × zM) :=
  (f_X7_isNoPlayer i1 M).bind fun r1 =>
  if mK r1.2 a0 = 13 then
  (f_X7_start a0 r1.1 ((1 : Int32)) r1.2).bind fun r2 =>
  if r2.1 = 0 then
  (f_X7_isIn i2 ((0 : Int32)) ((9 : Int32)) r2.2).bind fun r4 =>
  if r4.1 = 0 then
  f_X7_ofPlayer_28 a0 i1 i2 ((1 : Int32)) a0 r4.2
  else
  f_X7_ofPlayer_28 a0 i1 i2 ((0 : Int32)) a0 r4.2
  else
  some ((0 : Int32), r2.2)
  else none
set_option maxRecDepth 20000 in
set_option maxHeartbeats 4000000 in
theorem s_X7_ofPlayer_0 {L : zL} {X : zX} {M0 : zM} {N : Nat × Nat} {Q : State → Prop} {r : Int32 × zM} (hq : vQ L X M0 N Q (some (.int r.1)) r.2) {a0 : Nat} {i1 : Int32} {i2 : Int32} {M : zM} (h : f_X7_ofPlayer_0 a0 i1 i2 M = some r) : V L X yX7_ofPlayer cX7_ofPlayer 3 (some FieldType.int) 133 M0 N Q M 0 [(0, .ref (zad L (a0))), (1, .int (i1)), (2, .int (i2))] [] := by
  unfold f_X7_ofPlayer_0 at h
  refine V_aload_n dX7_ofPlayer_0 rfl 0 rfl ?_
  refine V_iload_n dX7_ofPlayer_1 rfl 1 rfl ?_
  replace h := ob h
  obtain ⟨r1, e_r1, h⟩ := h
  refine V_callS_I (As := [.int (i1)]) (rest := [.ref (zad L (a0))]) (c_X7_isNoPlayer e_r1) zc_X7_isNoPlayer rfl (by decide) zm_X7_174 (Nat.le_of_ble_eq_true rfl) rfl dX7_ofPlayer_2 ?_
  refine V_pc (pc' := 5) rfl ?_
  refine V_iconst (v := 1) dX7_ofPlayer_5 (by decide) ?_
  replace h := ox h
  obtain ⟨c3, h⟩ := h
  replace h := ob h
  obtain ⟨r2, e_r2, h⟩ := h
  refine V_callV_I (As := [.int (r1.1), .int ((1 : Int32))]) (rest := []) (c_X7_start e_r2) zc_X7_start rfl (by decide) rfl (by decide) (Or.inl c3) zm_X7_85 (Nat.le_of_ble_eq_true rfl) rfl dX7_ofPlayer_6 ?_
  refine V_pc (pc' := 9) rfl ?_
  refine V_if_ne (tgt := 35) dX7_ofPlayer_9 (by decide) (fun c6 => ?_) (fun c6 => ?_)
  · replace h := (oi h).2 c6
    refine V_iconst (v := 0) dX7_ofPlayer_35 (by decide) ?_
    refine V_goto (tgt := 45) dX7_ofPlayer_36 (by decide) ?_
    obtain rfl := Option.some.inj h
    exact V_iret rfl hq dX7_ofPlayer_45
  · replace h := (oi h).1 c6
    refine V_aload_n dX7_ofPlayer_12 rfl 0 rfl ?_
    refine V_iload_n dX7_ofPlayer_13 rfl 2 rfl ?_
    refine V_iconst (v := 0) dX7_ofPlayer_14 (by decide) ?_
    refine V_bipush (v := 9) dX7_ofPlayer_15 (by decide) ?_
    replace h := ob h
    obtain ⟨r4, e_r4, h⟩ := h
    refine V_callS_I (As := [.int (i2), .int ((0 : Int32)), .int ((9 : Int32))]) (rest := [.ref (zad L (a0))]) (c_X7_isIn e_r4) zc_X7_isIn rfl (by decide) zm_X7_3 (Nat.le_of_ble_eq_true rfl) rfl dX7_ofPlayer_17 ?_
    refine V_pc (pc' := 20) rfl ?_
    refine V_if_ne (tgt := 27) dX7_ofPlayer_20 (by decide) (fun c5 => ?_) (fun c5 => ?_)
    · replace h := (oi h).2 c5
      refine V_iconst (v := 0) dX7_ofPlayer_27 (by decide) ?_
      exact s_X7_ofPlayer_28 hq h
    · replace h := (oi h).1 c5
      refine V_iconst (v := 1) dX7_ofPlayer_23 (by decide) ?_
      refine V_goto (tgt := 28) dX7_ofPlayer_24 (by decide) ?_
      exact s_X7_ofPlayer_28 hq h
def f_X7_ofPlayer (a0 : Nat) (i1 : Int32) (i2 : Int32) (M : zM) : Option (Int32 × zM) := f_X7_ofPlayer_0 a0 i1 i2 M
theorem c_X7_ofPlayer {L : zL} {l : Launch} {a0 : Nat} {i1 : Int32} {i2 : Int32} {M : zM} {r : Int32 × zM} (h : f_X7_ofPlayer a0 i1 i2 M = some r) : CP L l yX7_ofPlayer cX7_ofPlayer 3 (some FieldType.int) 133 M [.ref (zad L (a0)), .int (i1), .int (i2)] (some (.int r.1)) r.2 :=
  CP.of ⟨by decide +kernel, by decide +kernel⟩ (Nat.le_of_ble_eq_true rfl) fun X Q hq => s_X7_ofPlayer_0 hq h
/-! WindsparlourModel.ofSetNow(LWindsparlourModel$Lying;)I -/
theorem dX7_ofSetNow_0 : decode cX7_ofSetNow 0 = .ok (.aload_n 0, 1) := by decide +kernel
theorem dX7_ofSetNow_1 : decode cX7_ofSetNow 1 = .ok (.getfield 241, 3) := by decide +kernel
theorem dX7_ofSetNow_4 : decode cX7_ofSetNow 4 = .ok (.bipush 100, 2) := by decide +kernel
theorem dX7_ofSetNow_6 : decode cX7_ofSetNow 6 = .ok (.aload_n 0, 1) := by decide +kernel
theorem dX7_ofSetNow_7 : decode cX7_ofSetNow 7 = .ok (.getfield 238, 3) := by decide +kernel
theorem dX7_ofSetNow_10 : decode cX7_ofSetNow 10 = .ok (.imul, 1) := by decide +kernel
theorem dX7_ofSetNow_11 : decode cX7_ofSetNow 11 = .ok (.iadd, 1) := by decide +kernel
theorem dX7_ofSetNow_12 : decode cX7_ofSetNow 12 = .ok (.ireturn, 1) := by decide +kernel
def f_X7_ofSetNow_0 (a0 : Nat) (M : zM) : Option (Int32 × zM) :=
  (gI 11 0 M a0).bind fun v1 =>
  (gI 11 1 M a0).bind fun v2 =>
  some ((v1 + ((((100 : Int32)) * v2))), M)
set_option maxRecDepth 20000 in
set_option maxHeartbeats 4000000 in
theorem s_X7_ofSetNow_0 {L : zL} {X : zX} {M0 : zM} {N : Nat × Nat} {Q : State → Prop} {r : Int32 × zM} (hq : vQ L X M0 N Q (some (.int r.1)) r.2) {a0 : Nat} {M : zM} (h : f_X7_ofSetNow_0 a0 M = some r) : V L X yX7_ofSetNow cX7_ofSetNow 1 (some FieldType.int) 1 M0 N Q M 0 [(0, .ref (zad L (a0)))] [] := by
  unfold f_X7_ofSetNow_0 at h
  refine V_aload_n dX7_ofSetNow_0 rfl 0 rfl ?_
  replace h := ob h
  obtain ⟨v1, e_v1, h⟩ := h
  refine V_getI zf_11_0 zl_X7_241 e_v1 dX7_ofSetNow_1 ?_
  refine V_pc (pc' := 4) rfl ?_
  refine V_bipush (v := 100) dX7_ofSetNow_4 (by decide) ?_
  refine V_aload_n dX7_ofSetNow_6 rfl 0 rfl ?_
  replace h := ob h
  obtain ⟨v2, e_v2, h⟩ := h
  refine V_getI zf_11_1 zl_X7_238 e_v2 dX7_ofSetNow_7 ?_
  refine V_pc (pc' := 10) rfl ?_
  refine V_imul dX7_ofSetNow_10 ?_
  refine V_iadd dX7_ofSetNow_11 ?_
  obtain rfl := Option.some.inj h
  exact V_iret rfl hq dX7_ofSetNow_12
def f_X7_ofSetNow (a0 : Nat) (M : zM) : Option (Int32 × zM) := f_X7_ofSetNow_0 a0 M
theorem c_X7_ofSetNow {L : zL} {l : Launch} {a0 : Nat} {M : zM} {r : Int32 × zM} (h : f_X7_ofSetNow a0 M = some r) : CP L l yX7_ofSetNow cX7_ofSetNow 1 (some FieldType.int) 1 M [.ref (zad L (a0))] (some (.int r.1)) r.2 :=
  CP.of ⟨by decide +kernel, by decide +kernel⟩ (Nat.le_of_ble_eq_true rfl) fun X Q hq => s_X7_ofSetNow_0 hq h
/-! java/util/ArrayList.elementData(I)Ljava/lang/Object; -/
theorem dJx4a65c_elementData_915e3_0 : decode cJx4a65c_elementData_915e3 0 = .ok (.aload_n 0, 1) := by decide +kernel
theorem dJx4a65c_elementData_915e3_1 : decode cJx4a65c_elementData_915e3 1 = .ok (.getfield 9, 3) := by decide +kernel
theorem dJx4a65c_elementData_915e3_4 : decode cJx4a65c_elementData_915e3 4 = .ok (.iload_n 1, 1) := by decide +kernel
theorem dJx4a65c_elementData_915e3_5 : decode cJx4a65c_elementData_915e3 5 = .ok (.aaload, 1) := by decide +kernel
theorem dJx4a65c_elementData_915e3_6 : decode cJx4a65c_elementData_915e3 6 = .ok (.areturn, 1) := by decide +kernel
def f_Jx4a65c_elementData_915e3_0 (a0 : Nat) (i1 : Int32) (M : zM) : Option (Nat × zM) :=
  (gR 5 1 M a0).bind fun v1 =>
  (lQ 0 M v1 i1).bind fun v2 =>
  some (v2, M)
set_option maxRecDepth 20000 in
set_option maxHeartbeats 4000000 in
theorem s_Jx4a65c_elementData_915e3_0 {L : zL} {X : zX} {M0 : zM} {N : Nat × Nat} {Q : State → Prop} {r : Nat × zM} (hq : vQ L X M0 N Q (some (.ref (zad L r.1))) r.2) {a0 : Nat} {i1 : Int32} {M : zM} (h : f_Jx4a65c_elementData_915e3_0 a0 i1 M = some r) : V L X yJx4a65c_elementData_915e3 cJx4a65c_elementData_915e3 2 (Option.some (FieldType.object "java/lang/Object")) 1 M0 N Q M 0 [(0, .ref (zad L (a0))), (1, .int (i1))] [] := by
  unfold f_Jx4a65c_elementData_915e3_0 at h
  refine V_aload_n dJx4a65c_elementData_915e3_0 rfl 0 rfl ?_
  replace h := ob h
  obtain ⟨v1, e_v1, h⟩ := h
  refine V_getR zf_5_1 zl_Jx4a65c_9 e_v1 dJx4a65c_elementData_915e3_1 ?_
  refine V_pc (pc' := 4) rfl ?_
  refine V_iload_n dJx4a65c_elementData_915e3_4 rfl 1 rfl ?_
  replace h := ob h
  obtain ⟨v2, e_v2, h⟩ := h
  refine V_aald (by decide) e_v2 dJx4a65c_elementData_915e3_5 ?_
  refine V_pc (pc' := 6) rfl ?_
  obtain rfl := Option.some.inj h
  exact V_aret rfl (by first | exact Or.inl ⟨_, rfl⟩ | exact Or.inr ⟨_, rfl⟩) hq dJx4a65c_elementData_915e3_6
def f_Jx4a65c_elementData_915e3 (a0 : Nat) (i1 : Int32) (M : zM) : Option (Nat × zM) := f_Jx4a65c_elementData_915e3_0 a0 i1 M
theorem c_Jx4a65c_elementData_915e3 {L : zL} {l : Launch} {a0 : Nat} {i1 : Int32} {M : zM} {r : Nat × zM} (h : f_Jx4a65c_elementData_915e3 a0 i1 M = some r) : CP L l yJx4a65c_elementData_915e3 cJx4a65c_elementData_915e3 2 (Option.some (FieldType.object "java/lang/Object")) 1 M [.ref (zad L (a0)), .int (i1)] (some (.ref (zad L r.1))) r.2 :=
  CP.of ⟨by decide +kernel, by decide +kernel⟩ (Nat.le_of_ble_eq_true rfl) fun X Q hq => s_Jx4a65c_elementData_915e3_0 hq h
/-! java/util/ArrayList.get(I)Ljava/lang/Object; -/
theorem dJx4a65c_get_915e3_0 : decode cJx4a65c_get_915e3 0 = .ok (.iload_n 1, 1) := by decide +kernel
theorem dJx4a65c_get_915e3_1 : decode cJx4a65c_get_915e3 1 = .ok (.aload_n 0, 1) := by decide +kernel
theorem dJx4a65c_get_915e3_2 : decode cJx4a65c_get_915e3 2 = .ok (.getfield 48, 3) := by decide +kernel
theorem dJx4a65c_get_915e3_5 : decode cJx4a65c_get_915e3 5 = .ok (.invokestatic 118, 3) := by decide +kernel
theorem dJx4a65c_get_915e3_8 : decode cJx4a65c_get_915e3 8 = .ok (.pop, 1) := by decide +kernel
theorem dJx4a65c_get_915e3_9 : decode cJx4a65c_get_915e3 9 = .ok (.aload_n 0, 1) := by decide +kernel
theorem dJx4a65c_get_915e3_10 : decode cJx4a65c_get_915e3 10 = .ok (.iload_n 1, 1) := by decide +kernel
theorem dJx4a65c_get_915e3_11 : decode cJx4a65c_get_915e3 11 = .ok (.invokevirtual 123, 3) := by decide +kernel
theorem dJx4a65c_get_915e3_14 : decode cJx4a65c_get_915e3 14 = .ok (.areturn, 1) := by decide +kernel
def f_Jx4a65c_get_915e3_0 (a0 : Nat) (i1 : Int32) (M : zM) : Option (Nat × zM) :=
  (gI 5 2 M a0).bind fun v1 =>
  (f_J15_checkIndex_7cf53 i1 v1 M).bind fun r2 =>
  if mK r2.2 a0 = 5 then
  (f_Jx4a65c_elementData_915e3 a0 i1 r2.2).bind fun r3 =>
  some (r3.1, r3.2)
  else none
set_option maxRecDepth 20000 in
set_option maxHeartbeats 4000000 in
theorem s_Jx4a65c_get_915e3_0 {L : zL} {X : zX} {M0 : zM} {N : Nat × Nat} {Q : State → Prop} {r : Nat × zM} (hq : vQ L X M0 N Q (some (.ref (zad L r.1))) r.2) {a0 : Nat} {i1 : Int32} {M : zM} (h : f_Jx4a65c_get_915e3_0 a0 i1 M = some r) : V L X yJx4a65c_get_915e3 cJx4a65c_get_915e3 2 (Option.some (FieldType.object "java/lang/Object")) 3 M0 N Q M 0 [(0, .ref (zad L (a0))), (1, .int (i1))] [] := by
  unfold f_Jx4a65c_get_915e3_0 at h
  refine V_iload_n dJx4a65c_get_915e3_0 rfl 1 rfl ?_
  refine V_aload_n dJx4a65c_get_915e3_1 rfl 0 rfl ?_
  replace h := ob h
  obtain ⟨v1, e_v1, h⟩ := h
  refine V_getI zf_5_2 zl_Jx4a65c_48 e_v1 dJx4a65c_get_915e3_2 ?_
  refine V_pc (pc' := 5) rfl ?_
  replace h := ob h
  obtain ⟨r2, e_r2, h⟩ := h
  refine V_callS_I (As := [.int (i1), .int (v1)]) (rest := []) (c_J15_checkIndex_7cf53 e_r2) zc_J15_checkIndex_7cf53 rfl (by decide) zm_Jx4a65c_118 (Nat.le_of_ble_eq_true rfl) rfl dJx4a65c_get_915e3_5 ?_
  refine V_pc (pc' := 8) rfl ?_
  refine V_pop dJx4a65c_get_915e3_8 rfl ?_
  refine V_aload_n dJx4a65c_get_915e3_9 rfl 0 rfl ?_
  refine V_iload_n dJx4a65c_get_915e3_10 rfl 1 rfl ?_
  replace h := ox h
  obtain ⟨c4, h⟩ := h
  replace h := ob h
  obtain ⟨r3, e_r3, h⟩ := h
  refine V_callV_A (As := [.int (i1)]) (rest := []) (c_Jx4a65c_elementData_915e3 e_r3) zc_Jx4a65c_elementData_915e3 rfl (by decide) rfl (by decide) (Or.inl c4) zm_Jx4a65c_123 (Nat.le_of_ble_eq_true rfl) rfl dJx4a65c_get_915e3_11 ?_
  refine V_pc (pc' := 14) rfl ?_
  obtain rfl := Option.some.inj h
  exact V_aret rfl (by first | exact Or.inl ⟨_, rfl⟩ | exact Or.inr ⟨_, rfl⟩) hq dJx4a65c_get_915e3_14
def f_Jx4a65c_get_915e3 (a0 : Nat) (i1 : Int32) (M : zM) : Option (Nat × zM) := f_Jx4a65c_get_915e3_0 a0 i1 M
theorem c_Jx4a65c_get_915e3 {L : zL} {l : Launch} {a0 : Nat} {i1 : Int32} {M : zM} {r : Nat × zM} (h : f_Jx4a65c_get_915e3 a0 i1 M = some r) : CP L l yJx4a65c_get_915e3 cJx4a65c_get_915e3 2 (Option.some (FieldType.object "java/lang/Object")) 3 M [.ref (zad L (a0)), .int (i1)] (some (.ref (zad L r.1))) r.2 :=
  CP.of ⟨by decide +kernel, by decide +kernel⟩ (Nat.le_of_ble_eq_true rfl) fun X Q hq => s_Jx4a65c_get_915e3_0 hq h
/-! WindsparlourModel.ofSet(II)I -/
theorem dX7_ofSet_0 : decode cX7_ofSet 0 = .ok (.aload_n 0, 1) := by decide +kernel
theorem dX7_ofSet_1 : decode cX7_ofSet 1 = .ok (.iload_n 1, 1) := by decide +kernel
theorem dX7_ofSet_2 : decode cX7_ofSet 2 = .ok (.invokestatic 174, 3) := by decide +kernel
theorem dX7_ofSet_5 : decode cX7_ofSet 5 = .ok (.ifCond .ne 25, 3) := by decide +kernel
theorem dX7_ofSet_8 : decode cX7_ofSet 8 = .ok (.iload_n 2, 1) := by decide +kernel
theorem dX7_ofSet_9 : decode cX7_ofSet 9 = .ok (.iconst 0, 1) := by decide +kernel
theorem dX7_ofSet_10 : decode cX7_ofSet 10 = .ok (.aload_n 0, 1) := by decide +kernel
theorem dX7_ofSet_11 : decode cX7_ofSet 11 = .ok (.getfield 38, 3) := by decide +kernel
theorem dX7_ofSet_14 : decode cX7_ofSet 14 = .ok (.iload_n 1, 1) := by decide +kernel
theorem dX7_ofSet_15 : decode cX7_ofSet 15 = .ok (.aaload, 1) := by decide +kernel
theorem dX7_ofSet_16 : decode cX7_ofSet 16 = .ok (.getfield 183, 3) := by decide +kernel
theorem dX7_ofSet_19 : decode cX7_ofSet 19 = .ok (.invokevirtual 144, 3) := by decide +kernel
theorem dX7_ofSet_22 : decode cX7_ofSet 22 = .ok (.iconst 1, 1) := by decide +kernel
theorem dX7_ofSet_23 : decode cX7_ofSet 23 = .ok (.isub, 1) := by decide +kernel
theorem dX7_ofSet_24 : decode cX7_ofSet 24 = .ok (.invokestatic 3, 3) := by decide +kernel
theorem dX7_ofSet_27 : decode cX7_ofSet 27 = .ok (.ifCond .ne 7, 3) := by decide +kernel
theorem dX7_ofSet_30 : decode cX7_ofSet 30 = .ok (.iconst 1, 1) := by decide +kernel
theorem dX7_ofSet_31 : decode cX7_ofSet 31 = .ok (.goto 4, 3) := by decide +kernel
theorem dX7_ofSet_34 : decode cX7_ofSet 34 = .ok (.iconst 0, 1) := by decide +kernel
theorem dX7_ofSet_35 : decode cX7_ofSet 35 = .ok (.iconst 1, 1) := by decide +kernel
theorem dX7_ofSet_36 : decode cX7_ofSet 36 = .ok (.invokevirtual 85, 3) := by decide +kernel
theorem dX7_ofSet_39 : decode cX7_ofSet 39 = .ok (.ifCond .eq 7, 3) := by decide +kernel
theorem dX7_ofSet_42 : decode cX7_ofSet 42 = .ok (.iconst 0, 1) := by decide +kernel
theorem dX7_ofSet_43 : decode cX7_ofSet 43 = .ok (.goto 22, 3) := by decide +kernel
theorem dX7_ofSet_46 : decode cX7_ofSet 46 = .ok (.aload_n 0, 1) := by decide +kernel
theorem dX7_ofSet_47 : decode cX7_ofSet 47 = .ok (.getfield 38, 3) := by decide +kernel
theorem dX7_ofSet_50 : decode cX7_ofSet 50 = .ok (.iload_n 1, 1) := by decide +kernel
theorem dX7_ofSet_51 : decode cX7_ofSet 51 = .ok (.aaload, 1) := by decide +kernel
theorem dX7_ofSet_52 : decode cX7_ofSet 52 = .ok (.getfield 183, 3) := by decide +kernel
theorem dX7_ofSet_55 : decode cX7_ofSet 55 = .ok (.iload_n 2, 1) := by decide +kernel
theorem dX7_ofSet_56 : decode cX7_ofSet 56 = .ok (.invokevirtual 277, 3) := by decide +kernel
theorem dX7_ofSet_59 : decode cX7_ofSet 59 = .ok (.checkcast 186, 3) := by decide +kernel
theorem dX7_ofSet_62 : decode cX7_ofSet 62 = .ok (.invokestatic 280, 3) := by decide +kernel
theorem dX7_ofSet_65 : decode cX7_ofSet 65 = .ok (.ireturn, 1) := by decide +kernel
def f_X7_ofSet_35 (a0 : Nat) (i1 : Int32) (i2 : Int32) (i_0 : Int32) (a_1 : Nat) (M : zM) : Option (Int32 × zM) :=
  if mK M a_1 = 13 then
  (f_X7_start a_1 i_0 ((1 : Int32)) M).bind fun r1 =>
  if r1.1 = 0 then
  (gR 13 1 r1.2 a0).bind fun v3 =>
  (lQ 2 r1.2 v3 i1).bind fun v4 =>
  (gR 12 3 r1.2 v4).bind fun v5 =>
  if mK r1.2 v5 = 5 then
  (f_Jx4a65c_get_915e3 v5 i2 r1.2).bind fun r6 =>
  if mK r6.2 r6.1 = 11 ∨ mK r6.2 r6.1 = 311 then
  (f_X7_ofSetNow r6.1 r6.2).bind fun r9 =>
  some (r9.1, r9.2)
  else none
  else none
  else
  some ((0 : Int32), r1.2)
  else none
set_option maxRecDepth 20000 in
set_option maxHeartbeats 4000000 in
theorem s_X7_ofSet_35 {L : zL} {X : zX} {M0 : zM} {N : Nat × Nat} {Q : State → Prop} {r : Int32 × zM} (hq : vQ L X M0 N Q (some (.int r.1)) r.2) {a0 : Nat} {i1 : Int32} {i2 : Int32} {i_0 : Int32} {a_1 : Nat} {M : zM} (h : f_X7_ofSet_35 a0 i1 i2 i_0 a_1 M = some r) : V L X yX7_ofSet cX7_ofSet 3 (some FieldType.int) 4 M0 N Q M 35 [(0, .ref (zad L (a0))), (1, .int (i1)), (2, .int (i2))] [.int (i_0), .ref (zad L (a_1))] := by
  unfold f_X7_ofSet_35 at h
  refine V_iconst (v := 1) dX7_ofSet_35 (by decide) ?_
  replace h := ox h
  obtain ⟨c2, h⟩ := h
  replace h := ob h
  obtain ⟨r1, e_r1, h⟩ := h
  refine V_callV_I (As := [.int (i_0), .int ((1 : Int32))]) (rest := []) (c_X7_start e_r1) zc_X7_start rfl (by decide) rfl (by decide) (Or.inl c2) zm_X7_85 (Nat.le_of_ble_eq_true rfl) rfl dX7_ofSet_36 ?_
  refine V_pc (pc' := 39) rfl ?_
  refine V_if_eq (tgt := 46) dX7_ofSet_39 (by decide) (fun c10 => ?_) (fun c10 => ?_)
  · replace h := (oi h).1 c10
    refine V_aload_n dX7_ofSet_46 rfl 0 rfl ?_
    replace h := ob h
    obtain ⟨v3, e_v3, h⟩ := h
    refine V_getR zf_13_1 zl_X7_38 e_v3 dX7_ofSet_47 ?_
    refine V_pc (pc' := 50) rfl ?_
    refine V_iload_n dX7_ofSet_50 rfl 1 rfl ?_
    replace h := ob h
    obtain ⟨v4, e_v4, h⟩ := h
    refine V_aald (by decide) e_v4 dX7_ofSet_51 ?_
    refine V_pc (pc' := 52) rfl ?_
    replace h := ob h
    obtain ⟨v5, e_v5, h⟩ := h
    refine V_getR zf_12_3 zl_X7_183 e_v5 dX7_ofSet_52 ?_
    refine V_pc (pc' := 55) rfl ?_
    refine V_iload_n dX7_ofSet_55 rfl 2 rfl ?_
    replace h := ox h
    obtain ⟨c7, h⟩ := h
    replace h := ob h
    obtain ⟨r6, e_r6, h⟩ := h
    refine V_callV_A (As := [.int (i2)]) (rest := []) (c_Jx4a65c_get_915e3 e_r6) zc_Jx4a65c_get_915e3 rfl (by decide) rfl (by decide) (Or.inl c7) zm_X7_277 (Nat.le_of_ble_eq_true rfl) rfl dX7_ofSet_56 ?_
    refine V_pc (pc' := 59) rfl ?_
    replace h := ox h
    obtain ⟨c8, h⟩ := h
    refine V_cast (k := 11) rfl (by decide) c8 zk_X7_186 dX7_ofSet_59 ?_
    replace h := ob h
    obtain ⟨r9, e_r9, h⟩ := h
    refine V_callS_I (As := [.ref (zad L (r6.1))]) (rest := []) (c_X7_ofSetNow e_r9) zc_X7_ofSetNow rfl (by decide) zm_X7_280 (Nat.le_of_ble_eq_true rfl) rfl dX7_ofSet_62 ?_
    refine V_pc (pc' := 65) rfl ?_
    obtain rfl := Option.some.inj h
    exact V_iret rfl hq dX7_ofSet_65
  · replace h := (oi h).2 c10
    refine V_iconst (v := 0) dX7_ofSet_42 (by decide) ?_
    refine V_goto (tgt := 65) dX7_ofSet_43 (by decide) ?_
    obtain rfl := Option.some.inj h
    exact V_iret rfl hq dX7_ofSet_65
def f_X7_ofSet_30 (a0 : Nat) (i1 : Int32) (i2 : Int32) (a_0 : Nat) (M : zM) : Option (Int32 × zM) :=
  f_X7_ofSet_35 a0 i1 i2 ((1 : Int32)) a_0 M
set_option maxRecDepth 20000 in
set_option maxHeartbeats 4000000 in
theorem s_X7_ofSet_30 {L : zL} {X : zX} {M0 : zM} {N : Nat × Nat} {Q : State → Prop} {r : Int32 × zM} (hq : vQ L X M0 N Q (some (.int r.1)) r.2) {a0 : Nat} {i1 : Int32} {i2 : Int32} {a_0 : Nat} {M : zM} (h : f_X7_ofSet_30 a0 i1 i2 a_0 M = some r) : V L X yX7_ofSet cX7_ofSet 3 (some FieldType.int) 4 M0 N Q M 30 [(0, .ref (zad L (a0))), (1, .int (i1)), (2, .int (i2))] [.ref (zad L (a_0))] := by
  unfold f_X7_ofSet_30 at h
  refine V_iconst (v := 1) dX7_ofSet_30 (by decide) ?_
  refine V_goto (tgt := 35) dX7_ofSet_31 (by decide) ?_
  exact s_X7_ofSet_35 hq h
def f_X7_ofSet_0 (a0 : Nat) (i1 : Int32) (i2 : Int32) (M : zM) : Option (Int32 × zM) :=
  (f_X7_isNoPlayer i1 M).bind fun r1 =>
  if r1.1 = 0 then
  (gR 13 1 r1.2 a0).bind fun v2 =>
  (lQ 2 r1.2 v2 i1).bind fun v3 =>
  (gR 12 3 r1.2 v3).bind fun v4 =>
  if mK r1.2 v4 = 5 then
  (f_Jx4a65c_size_8abf5 v4 r1.2).bind fun r5 =>
  (f_X7_isIn i2 ((0 : Int32)) ((r5.1 - ((1 : Int32)))) r5.2).bind fun r7 =>
  if r7.1 = 0 then
  f_X7_ofSet_30 a0 i1 i2 a0 r7.2
  else
  f_X7_ofSet_35 a0 i1 i2 ((0 : Int32)) a0 r7.2
  else none
  else
  f_X7_ofSet_30 a0 i1 i2 a0 r1.2
set_option maxRecDepth 20000 in
set_option maxHeartbeats 4000000 in
theorem s_X7_ofSet_0 {L : zL} {X : zX} {M0 : zM} {N : Nat × Nat} {Q : State → Prop} {r : Int32 × zM} (hq : vQ L X M0 N Q (some (.int r.1)) r.2) {a0 : Nat} {i1 : Int32} {i2 : Int32} {M : zM} (h : f_X7_ofSet_0 a0 i1 i2 M = some r) : V L X yX7_ofSet cX7_ofSet 3 (some FieldType.int) 4 M0 N Q M 0 [(0, .ref (zad L (a0))), (1, .int (i1)), (2, .int (i2))] [] := by
  unfold f_X7_ofSet_0 at h
  refine V_aload_n dX7_ofSet_0 rfl 0 rfl ?_
  refine V_iload_n dX7_ofSet_1 rfl 1 rfl ?_
  replace h := ob h
  obtain ⟨r1, e_r1, h⟩ := h
  refine V_callS_I (As := [.int (i1)]) (rest := [.ref (zad L (a0))]) (c_X7_isNoPlayer e_r1) zc_X7_isNoPlayer rfl (by decide) zm_X7_174 (Nat.le_of_ble_eq_true rfl) rfl dX7_ofSet_2 ?_
  refine V_pc (pc' := 5) rfl ?_
  refine V_if_ne (tgt := 30) dX7_ofSet_5 (by decide) (fun c9 => ?_) (fun c9 => ?_)
  · replace h := (oi h).2 c9
    exact s_X7_ofSet_30 hq h
  · replace h := (oi h).1 c9
    refine V_iload_n dX7_ofSet_8 rfl 2 rfl ?_
    refine V_iconst (v := 0) dX7_ofSet_9 (by decide) ?_
    refine V_aload_n dX7_ofSet_10 rfl 0 rfl ?_
    replace h := ob h
    obtain ⟨v2, e_v2, h⟩ := h
    refine V_getR zf_13_1 zl_X7_38 e_v2 dX7_ofSet_11 ?_
    refine V_pc (pc' := 14) rfl ?_
    refine V_iload_n dX7_ofSet_14 rfl 1 rfl ?_
    replace h := ob h
    obtain ⟨v3, e_v3, h⟩ := h
    refine V_aald (by decide) e_v3 dX7_ofSet_15 ?_
    refine V_pc (pc' := 16) rfl ?_
    replace h := ob h
    obtain ⟨v4, e_v4, h⟩ := h
    refine V_getR zf_12_3 zl_X7_183 e_v4 dX7_ofSet_16 ?_
    refine V_pc (pc' := 19) rfl ?_
    replace h := ox h
    obtain ⟨c6, h⟩ := h
    replace h := ob h
    obtain ⟨r5, e_r5, h⟩ := h
    refine V_callV_I (As := []) (rest := [.int ((0 : Int32)), .int (i2), .ref (zad L (a0))]) (c_Jx4a65c_size_8abf5 e_r5) zc_Jx4a65c_size_8abf5 rfl (by decide) rfl (by decide) (Or.inl c6) zm_X7_144 (Nat.le_of_ble_eq_true rfl) rfl dX7_ofSet_19 ?_
    refine V_pc (pc' := 22) rfl ?_
    refine V_iconst (v := 1) dX7_ofSet_22 (by decide) ?_
    refine V_isub dX7_ofSet_23 ?_
    replace h := ob h
    obtain ⟨r7, e_r7, h⟩ := h
    refine V_callS_I (As := [.int (i2), .int ((0 : Int32)), .int ((r5.1 - ((1 : Int32))))]) (rest := [.ref (zad L (a0))]) (c_X7_isIn e_r7) zc_X7_isIn rfl (by decide) zm_X7_3 (Nat.le_of_ble_eq_true rfl) rfl dX7_ofSet_24 ?_
    refine V_pc (pc' := 27) rfl ?_
    refine V_if_ne (tgt := 34) dX7_ofSet_27 (by decide) (fun c8 => ?_) (fun c8 => ?_)
    · replace h := (oi h).2 c8
      refine V_iconst (v := 0) dX7_ofSet_34 (by decide) ?_
      exact s_X7_ofSet_35 hq h
    · replace h := (oi h).1 c8
      exact s_X7_ofSet_30 hq h
def f_X7_ofSet (a0 : Nat) (i1 : Int32) (i2 : Int32) (M : zM) : Option (Int32 × zM) := f_X7_ofSet_0 a0 i1 i2 M
theorem c_X7_ofSet {L : zL} {l : Launch} {a0 : Nat} {i1 : Int32} {i2 : Int32} {M : zM} {r : Int32 × zM} (h : f_X7_ofSet a0 i1 i2 M = some r) : CP L l yX7_ofSet cX7_ofSet 3 (some FieldType.int) 4 M [.ref (zad L (a0)), .int (i1), .int (i2)] (some (.int r.1)) r.2 :=
  CP.of ⟨by decide +kernel, by decide +kernel⟩ (Nat.le_of_ble_eq_true rfl) fun X Q hq => s_X7_ofSet_0 hq h
/-! java/lang/Integer.intValue()I -/
theorem dJ6_intValue_8abf5_0 : decode cJ6_intValue_8abf5 0 = .ok (.aload_n 0, 1) := by decide +kernel
theorem dJ6_intValue_8abf5_1 : decode cJ6_intValue_8abf5 1 = .ok (.getfield 205, 3) := by decide +kernel
theorem dJ6_intValue_8abf5_4 : decode cJ6_intValue_8abf5 4 = .ok (.ireturn, 1) := by decide +kernel
def f_J6_intValue_8abf5_0 (a0 : Nat) (M : zM) : Option (Int32 × zM) :=
  (hI 3 0 M a0).bind fun v1 =>
  some (v1, M)
set_option maxRecDepth 20000 in
set_option maxHeartbeats 4000000 in
theorem s_J6_intValue_8abf5_0 {L : zL} {X : zX} {M0 : zM} {N : Nat × Nat} {Q : State → Prop} {r : Int32 × zM} (hq : vQ L X M0 N Q (some (.int r.1)) r.2) {a0 : Nat} {M : zM} (h : f_J6_intValue_8abf5_0 a0 M = some r) : V L X yJ6_intValue_8abf5 cJ6_intValue_8abf5 1 (some FieldType.int) 1 M0 N Q M 0 [(0, .ref (zad L (a0)))] [] := by
  unfold f_J6_intValue_8abf5_0 at h
  refine V_aload_n dJ6_intValue_8abf5_0 rfl 0 rfl ?_
  replace h := ob h
  obtain ⟨v1, e_v1, h⟩ := h
  refine V_getIx zf_3_0 zl_J6_205 (by decide) e_v1 dJ6_intValue_8abf5_1 ?_
  refine V_pc (pc' := 4) rfl ?_
  obtain rfl := Option.some.inj h
  exact V_iret rfl hq dJ6_intValue_8abf5_4
def f_J6_intValue_8abf5 (a0 : Nat) (M : zM) : Option (Int32 × zM) := f_J6_intValue_8abf5_0 a0 M
theorem c_J6_intValue_8abf5 {L : zL} {l : Launch} {a0 : Nat} {M : zM} {r : Int32 × zM} (h : f_J6_intValue_8abf5 a0 M = some r) : CP L l yJ6_intValue_8abf5 cJ6_intValue_8abf5 1 (some FieldType.int) 1 M [.ref (zad L (a0))] (some (.int r.1)) r.2 :=
  CP.of ⟨by decide +kernel, by decide +kernel⟩ (Nat.le_of_ble_eq_true rfl) fun X Q hq => s_J6_intValue_8abf5_0 hq h
/-! WindsparlourModel.river(II)I -/
theorem dX7_river_0 : decode cX7_river 0 = .ok (.aload_n 0, 1) := by decide +kernel
theorem dX7_river_1 : decode cX7_river 1 = .ok (.iload_n 1, 1) := by decide +kernel
theorem dX7_river_2 : decode cX7_river 2 = .ok (.invokestatic 174, 3) := by decide +kernel
theorem dX7_river_5 : decode cX7_river 5 = .ok (.ifCond .ne 25, 3) := by decide +kernel
theorem dX7_river_8 : decode cX7_river 8 = .ok (.iload_n 2, 1) := by decide +kernel
theorem dX7_river_9 : decode cX7_river 9 = .ok (.iconst 0, 1) := by decide +kernel
theorem dX7_river_10 : decode cX7_river 10 = .ok (.aload_n 0, 1) := by decide +kernel
theorem dX7_river_11 : decode cX7_river 11 = .ok (.getfield 38, 3) := by decide +kernel
theorem dX7_river_14 : decode cX7_river 14 = .ok (.iload_n 1, 1) := by decide +kernel
theorem dX7_river_15 : decode cX7_river 15 = .ok (.aaload, 1) := by decide +kernel
theorem dX7_river_16 : decode cX7_river 16 = .ok (.getfield 124, 3) := by decide +kernel
theorem dX7_river_19 : decode cX7_river 19 = .ok (.invokevirtual 144, 3) := by decide +kernel
theorem dX7_river_22 : decode cX7_river 22 = .ok (.iconst 1, 1) := by decide +kernel
theorem dX7_river_23 : decode cX7_river 23 = .ok (.isub, 1) := by decide +kernel
theorem dX7_river_24 : decode cX7_river 24 = .ok (.invokestatic 3, 3) := by decide +kernel
theorem dX7_river_27 : decode cX7_river 27 = .ok (.ifCond .ne 7, 3) := by decide +kernel
theorem dX7_river_30 : decode cX7_river 30 = .ok (.iconst 1, 1) := by decide +kernel
theorem dX7_river_31 : decode cX7_river 31 = .ok (.goto 4, 3) := by decide +kernel
theorem dX7_river_34 : decode cX7_river 34 = .ok (.iconst 0, 1) := by decide +kernel
theorem dX7_river_35 : decode cX7_river 35 = .ok (.iconst 1, 1) := by decide +kernel
theorem dX7_river_36 : decode cX7_river 36 = .ok (.invokevirtual 85, 3) := by decide +kernel
theorem dX7_river_39 : decode cX7_river 39 = .ok (.ifCond .eq 7, 3) := by decide +kernel
theorem dX7_river_42 : decode cX7_river 42 = .ok (.iconst 0, 1) := by decide +kernel
theorem dX7_river_43 : decode cX7_river 43 = .ok (.goto 22, 3) := by decide +kernel
theorem dX7_river_46 : decode cX7_river 46 = .ok (.aload_n 0, 1) := by decide +kernel
theorem dX7_river_47 : decode cX7_river 47 = .ok (.getfield 38, 3) := by decide +kernel
theorem dX7_river_50 : decode cX7_river 50 = .ok (.iload_n 1, 1) := by decide +kernel
theorem dX7_river_51 : decode cX7_river 51 = .ok (.aaload, 1) := by decide +kernel
theorem dX7_river_52 : decode cX7_river 52 = .ok (.getfield 124, 3) := by decide +kernel
theorem dX7_river_55 : decode cX7_river 55 = .ok (.iload_n 2, 1) := by decide +kernel
theorem dX7_river_56 : decode cX7_river 56 = .ok (.invokevirtual 277, 3) := by decide +kernel
theorem dX7_river_59 : decode cX7_river 59 = .ok (.checkcast 129, 3) := by decide +kernel
theorem dX7_river_62 : decode cX7_river 62 = .ok (.invokevirtual 284, 3) := by decide +kernel
theorem dX7_river_65 : decode cX7_river 65 = .ok (.ireturn, 1) := by decide +kernel
def f_X7_river_35 (a0 : Nat) (i1 : Int32) (i2 : Int32) (i_0 : Int32) (a_1 : Nat) (M : zM) : Option (Int32 × zM) :=
  if mK M a_1 = 13 then
  (f_X7_start a_1 i_0 ((1 : Int32)) M).bind fun r1 =>
  if r1.1 = 0 then
  (gR 13 1 r1.2 a0).bind fun v3 =>
  (lQ 2 r1.2 v3 i1).bind fun v4 =>
  (gR 12 4 r1.2 v4).bind fun v5 =>
  if mK r1.2 v5 = 5 then
  (f_Jx4a65c_get_915e3 v5 i2 r1.2).bind fun r6 =>
  if mK r6.2 r6.1 = 3 ∨ mK r6.2 r6.1 = 303 then
  if mK r6.2 r6.1 = 3 ∨ mK r6.2 r6.1 = 303 then
  (f_J6_intValue_8abf5 r6.1 r6.2).bind fun r9 =>
  some (r9.1, r9.2)
  else none
  else none
  else none
  else
  some ((0 : Int32), r1.2)
  else none
set_option maxRecDepth 20000 in
set_option maxHeartbeats 4000000 in
theorem s_X7_river_35 {L : zL} {X : zX} {M0 : zM} {N : Nat × Nat} {Q : State → Prop} {r : Int32 × zM} (hq : vQ L X M0 N Q (some (.int r.1)) r.2) {a0 : Nat} {i1 : Int32} {i2 : Int32} {i_0 : Int32} {a_1 : Nat} {M : zM} (h : f_X7_river_35 a0 i1 i2 i_0 a_1 M = some r) : V L X yX7_river cX7_river 3 (some FieldType.int) 4 M0 N Q M 35 [(0, .ref (zad L (a0))), (1, .int (i1)), (2, .int (i2))] [.int (i_0), .ref (zad L (a_1))] := by
  unfold f_X7_river_35 at h
  refine V_iconst (v := 1) dX7_river_35 (by decide) ?_
  replace h := ox h
  obtain ⟨c2, h⟩ := h
  replace h := ob h
  obtain ⟨r1, e_r1, h⟩ := h
  refine V_callV_I (As := [.int (i_0), .int ((1 : Int32))]) (rest := []) (c_X7_start e_r1) zc_X7_start rfl (by decide) rfl (by decide) (Or.inl c2) zm_X7_85 (Nat.le_of_ble_eq_true rfl) rfl dX7_river_36 ?_
  refine V_pc (pc' := 39) rfl ?_
  refine V_if_eq (tgt := 46) dX7_river_39 (by decide) (fun c11 => ?_) (fun c11 => ?_)
  · replace h := (oi h).1 c11
    refine V_aload_n dX7_river_46 rfl 0 rfl ?_
    replace h := ob h
    obtain ⟨v3, e_v3, h⟩ := h
    refine V_getR zf_13_1 zl_X7_38 e_v3 dX7_river_47 ?_
    refine V_pc (pc' := 50) rfl ?_
    refine V_iload_n dX7_river_50 rfl 1 rfl ?_
    replace h := ob h
    obtain ⟨v4, e_v4, h⟩ := h
    refine V_aald (by decide) e_v4 dX7_river_51 ?_
    refine V_pc (pc' := 52) rfl ?_
    replace h := ob h
    obtain ⟨v5, e_v5, h⟩ := h
    refine V_getR zf_12_4 zl_X7_124 e_v5 dX7_river_52 ?_
    refine V_pc (pc' := 55) rfl ?_
    refine V_iload_n dX7_river_55 rfl 2 rfl ?_
    replace h := ox h
    obtain ⟨c7, h⟩ := h
    replace h := ob h
    obtain ⟨r6, e_r6, h⟩ := h
    refine V_callV_A (As := [.int (i2)]) (rest := []) (c_Jx4a65c_get_915e3 e_r6) zc_Jx4a65c_get_915e3 rfl (by decide) rfl (by decide) (Or.inl c7) zm_X7_277 (Nat.le_of_ble_eq_true rfl) rfl dX7_river_56 ?_
    refine V_pc (pc' := 59) rfl ?_
    replace h := ox h
    obtain ⟨c8, h⟩ := h
    refine V_cast (k := 3) rfl (by decide) c8 zk_X7_129 dX7_river_59 ?_
    replace h := ox h
    obtain ⟨c10, h⟩ := h
    replace h := ob h
    obtain ⟨r9, e_r9, h⟩ := h
    refine V_callV_I (As := []) (rest := []) (c_J6_intValue_8abf5 e_r9) zc_J6_intValue_8abf5 rfl (by decide) rfl (by decide) (c10) zm_X7_284 (Nat.le_of_ble_eq_true rfl) rfl dX7_river_62 ?_
    refine V_pc (pc' := 65) rfl ?_
    obtain rfl := Option.some.inj h
    exact V_iret rfl hq dX7_river_65
  · replace h := (oi h).2 c11
    refine V_iconst (v := 0) dX7_river_42 (by decide) ?_
    refine V_goto (tgt := 65) dX7_river_43 (by decide) ?_
    obtain rfl := Option.some.inj h
    exact V_iret rfl hq dX7_river_65
def f_X7_river_30 (a0 : Nat) (i1 : Int32) (i2 : Int32) (a_0 : Nat) (M : zM) : Option (Int32 × zM) :=
  f_X7_river_35 a0 i1 i2 ((1 : Int32)) a_0 M
set_option maxRecDepth 20000 in
set_option maxHeartbeats 4000000 in
theorem s_X7_river_30 {L : zL} {X : zX} {M0 : zM} {N : Nat × Nat} {Q : State → Prop} {r : Int32 × zM} (hq : vQ L X M0 N Q (some (.int r.1)) r.2) {a0 : Nat} {i1 : Int32} {i2 : Int32} {a_0 : Nat} {M : zM} (h : f_X7_river_30 a0 i1 i2 a_0 M = some r) : V L X yX7_river cX7_river 3 (some FieldType.int) 4 M0 N Q M 30 [(0, .ref (zad L (a0))), (1, .int (i1)), (2, .int (i2))] [.ref (zad L (a_0))] := by
  unfold f_X7_river_30 at h
  refine V_iconst (v := 1) dX7_river_30 (by decide) ?_
  refine V_goto (tgt := 35) dX7_river_31 (by decide) ?_
  exact s_X7_river_35 hq h
def f_X7_river_0 (a0 : Nat) (i1 : Int32) (i2 : Int32) (M : zM) : Option (Int32 × zM) :=
  (f_X7_isNoPlayer i1 M).bind fun r1 =>
  if r1.1 = 0 then
  (gR 13 1 r1.2 a0).bind fun v2 =>
  (lQ 2 r1.2 v2 i1).bind fun v3 =>
  (gR 12 4 r1.2 v3).bind fun v4 =>
  if mK r1.2 v4 = 5 then
  (f_Jx4a65c_size_8abf5 v4 r1.2).bind fun r5 =>
  (f_X7_isIn i2 ((0 : Int32)) ((r5.1 - ((1 : Int32)))) r5.2).bind fun r7 =>
  if r7.1 = 0 then
  f_X7_river_30 a0 i1 i2 a0 r7.2
  else
  f_X7_river_35 a0 i1 i2 ((0 : Int32)) a0 r7.2
  else none
  else
  f_X7_river_30 a0 i1 i2 a0 r1.2
set_option maxRecDepth 20000 in
set_option maxHeartbeats 4000000 in
theorem s_X7_river_0 {L : zL} {X : zX} {M0 : zM} {N : Nat × Nat} {Q : State → Prop} {r : Int32 × zM} (hq : vQ L X M0 N Q (some (.int r.1)) r.2) {a0 : Nat} {i1 : Int32} {i2 : Int32} {M : zM} (h : f_X7_river_0 a0 i1 i2 M = some r) : V L X yX7_river cX7_river 3 (some FieldType.int) 4 M0 N Q M 0 [(0, .ref (zad L (a0))), (1, .int (i1)), (2, .int (i2))] [] := by
  unfold f_X7_river_0 at h
  refine V_aload_n dX7_river_0 rfl 0 rfl ?_
  refine V_iload_n dX7_river_1 rfl 1 rfl ?_
  replace h := ob h
  obtain ⟨r1, e_r1, h⟩ := h
  refine V_callS_I (As := [.int (i1)]) (rest := [.ref (zad L (a0))]) (c_X7_isNoPlayer e_r1) zc_X7_isNoPlayer rfl (by decide) zm_X7_174 (Nat.le_of_ble_eq_true rfl) rfl dX7_river_2 ?_
  refine V_pc (pc' := 5) rfl ?_
  refine V_if_ne (tgt := 30) dX7_river_5 (by decide) (fun c9 => ?_) (fun c9 => ?_)
  · replace h := (oi h).2 c9
    exact s_X7_river_30 hq h
  · replace h := (oi h).1 c9
    refine V_iload_n dX7_river_8 rfl 2 rfl ?_
    refine V_iconst (v := 0) dX7_river_9 (by decide) ?_
    refine V_aload_n dX7_river_10 rfl 0 rfl ?_
    replace h := ob h
    obtain ⟨v2, e_v2, h⟩ := h
    refine V_getR zf_13_1 zl_X7_38 e_v2 dX7_river_11 ?_
    refine V_pc (pc' := 14) rfl ?_
    refine V_iload_n dX7_river_14 rfl 1 rfl ?_
    replace h := ob h
    obtain ⟨v3, e_v3, h⟩ := h
    refine V_aald (by decide) e_v3 dX7_river_15 ?_
    refine V_pc (pc' := 16) rfl ?_
    replace h := ob h
    obtain ⟨v4, e_v4, h⟩ := h
    refine V_getR zf_12_4 zl_X7_124 e_v4 dX7_river_16 ?_
    refine V_pc (pc' := 19) rfl ?_
    replace h := ox h
    obtain ⟨c6, h⟩ := h
    replace h := ob h
    obtain ⟨r5, e_r5, h⟩ := h
    refine V_callV_I (As := []) (rest := [.int ((0 : Int32)), .int (i2), .ref (zad L (a0))]) (c_Jx4a65c_size_8abf5 e_r5) zc_Jx4a65c_size_8abf5 rfl (by decide) rfl (by decide) (Or.inl c6) zm_X7_144 (Nat.le_of_ble_eq_true rfl) rfl dX7_river_19 ?_
    refine V_pc (pc' := 22) rfl ?_
    refine V_iconst (v := 1) dX7_river_22 (by decide) ?_
    refine V_isub dX7_river_23 ?_
    replace h := ob h
    obtain ⟨r7, e_r7, h⟩ := h
    refine V_callS_I (As := [.int (i2), .int ((0 : Int32)), .int ((r5.1 - ((1 : Int32))))]) (rest := [.ref (zad L (a0))]) (c_X7_isIn e_r7) zc_X7_isIn rfl (by decide) zm_X7_3 (Nat.le_of_ble_eq_true rfl) rfl dX7_river_24 ?_
    refine V_pc (pc' := 27) rfl ?_
    refine V_if_ne (tgt := 34) dX7_river_27 (by decide) (fun c8 => ?_) (fun c8 => ?_)
    · replace h := (oi h).2 c8
      refine V_iconst (v := 0) dX7_river_34 (by decide) ?_
      exact s_X7_river_35 hq h
    · replace h := (oi h).1 c8
      exact s_X7_river_30 hq h
def f_X7_river (a0 : Nat) (i1 : Int32) (i2 : Int32) (M : zM) : Option (Int32 × zM) := f_X7_river_0 a0 i1 i2 M
theorem c_X7_river {L : zL} {l : Launch} {a0 : Nat} {i1 : Int32} {i2 : Int32} {M : zM} {r : Int32 × zM} (h : f_X7_river a0 i1 i2 M = some r) : CP L l yX7_river cX7_river 3 (some FieldType.int) 4 M [.ref (zad L (a0)), .int (i1), .int (i2)] (some (.int r.1)) r.2 :=
  CP.of ⟨by decide +kernel, by decide +kernel⟩ (Nat.le_of_ble_eq_true rfl) fun X Q hq => s_X7_river_0 hq h
/-! WindsparlourModel.seenNow(I)I -/
theorem dX7_seenNow_0 : decode cX7_seenNow 0 = .ok (.iconst 0, 1) := by decide +kernel
theorem dX7_seenNow_1 : decode cX7_seenNow 1 = .ok (.istore_n 2, 1) := by decide +kernel
theorem dX7_seenNow_2 : decode cX7_seenNow 2 = .ok (.aload_n 0, 1) := by decide +kernel
theorem dX7_seenNow_3 : decode cX7_seenNow 3 = .ok (.getfield 38, 3) := by decide +kernel
theorem dX7_seenNow_6 : decode cX7_seenNow 6 = .ok (.astore_n 3, 1) := by decide +kernel
theorem dX7_seenNow_7 : decode cX7_seenNow 7 = .ok (.aload_n 3, 1) := by decide +kernel
theorem dX7_seenNow_8 : decode cX7_seenNow 8 = .ok (.arraylength, 1) := by decide +kernel
theorem dX7_seenNow_9 : decode cX7_seenNow 9 = .ok (.istore 4, 2) := by decide +kernel
theorem dX7_seenNow_11 : decode cX7_seenNow 11 = .ok (.iconst 0, 1) := by decide +kernel
theorem dX7_seenNow_12 : decode cX7_seenNow 12 = .ok (.istore 5, 2) := by decide +kernel
theorem dX7_seenNow_14 : decode cX7_seenNow 14 = .ok (.iload 5, 2) := by decide +kernel
theorem dX7_seenNow_16 : decode cX7_seenNow 16 = .ok (.iload 4, 2) := by decide +kernel
theorem dX7_seenNow_18 : decode cX7_seenNow 18 = .ok (.if_icmp .ge 111, 3) := by decide +kernel
theorem dX7_seenNow_21 : decode cX7_seenNow 21 = .ok (.aload_n 3, 1) := by decide +kernel
theorem dX7_seenNow_22 : decode cX7_seenNow 22 = .ok (.iload 5, 2) := by decide +kernel
theorem dX7_seenNow_24 : decode cX7_seenNow 24 = .ok (.aaload, 1) := by decide +kernel
theorem dX7_seenNow_25 : decode cX7_seenNow 25 = .ok (.astore 6, 2) := by decide +kernel
theorem dX7_seenNow_27 : decode cX7_seenNow 27 = .ok (.aload 6, 2) := by decide +kernel
theorem dX7_seenNow_29 : decode cX7_seenNow 29 = .ok (.getfield 183, 3) := by decide +kernel
theorem dX7_seenNow_32 : decode cX7_seenNow 32 = .ok (.invokevirtual 197, 3) := by decide +kernel
theorem dX7_seenNow_35 : decode cX7_seenNow 35 = .ok (.astore 7, 2) := by decide +kernel
theorem dX7_seenNow_37 : decode cX7_seenNow 37 = .ok (.aload 7, 2) := by decide +kernel
theorem dX7_seenNow_39 : decode cX7_seenNow 39 = .ok (.invokeinterface 201 1, 5) := by decide +kernel
theorem dX7_seenNow_44 : decode cX7_seenNow 44 = .ok (.ifCond .eq 27, 3) := by decide +kernel
theorem dX7_seenNow_47 : decode cX7_seenNow 47 = .ok (.aload 7, 2) := by decide +kernel
theorem dX7_seenNow_49 : decode cX7_seenNow 49 = .ok (.invokeinterface 206 1, 5) := by decide +kernel
theorem dX7_seenNow_54 : decode cX7_seenNow 54 = .ok (.checkcast 186, 3) := by decide +kernel
theorem dX7_seenNow_57 : decode cX7_seenNow 57 = .ok (.astore 8, 2) := by decide +kernel
theorem dX7_seenNow_59 : decode cX7_seenNow 59 = .ok (.iload_n 2, 1) := by decide +kernel
theorem dX7_seenNow_60 : decode cX7_seenNow 60 = .ok (.aload 8, 2) := by decide +kernel
theorem dX7_seenNow_62 : decode cX7_seenNow 62 = .ok (.iload_n 1, 1) := by decide +kernel
theorem dX7_seenNow_63 : decode cX7_seenNow 63 = .ok (.invokevirtual 210, 3) := by decide +kernel
theorem dX7_seenNow_66 : decode cX7_seenNow 66 = .ok (.iadd, 1) := by decide +kernel
theorem dX7_seenNow_67 : decode cX7_seenNow 67 = .ok (.istore_n 2, 1) := by decide +kernel
theorem dX7_seenNow_68 : decode cX7_seenNow 68 = .ok (.goto (-31), 3) := by decide +kernel
theorem dX7_seenNow_71 : decode cX7_seenNow 71 = .ok (.aload 6, 2) := by decide +kernel
theorem dX7_seenNow_73 : decode cX7_seenNow 73 = .ok (.getfield 124, 3) := by decide +kernel
theorem dX7_seenNow_76 : decode cX7_seenNow 76 = .ok (.invokevirtual 197, 3) := by decide +kernel
theorem dX7_seenNow_79 : decode cX7_seenNow 79 = .ok (.astore 7, 2) := by decide +kernel
theorem dX7_seenNow_81 : decode cX7_seenNow 81 = .ok (.aload 7, 2) := by decide +kernel
theorem dX7_seenNow_83 : decode cX7_seenNow 83 = .ok (.invokeinterface 201 1, 5) := by decide +kernel
theorem dX7_seenNow_88 : decode cX7_seenNow 88 = .ok (.ifCond .eq 35, 3) := by decide +kernel
theorem dX7_seenNow_91 : decode cX7_seenNow 91 = .ok (.aload 7, 2) := by decide +kernel
theorem dX7_seenNow_93 : decode cX7_seenNow 93 = .ok (.invokeinterface 206 1, 5) := by decide +kernel
theorem dX7_seenNow_98 : decode cX7_seenNow 98 = .ok (.checkcast 129, 3) := by decide +kernel
theorem dX7_seenNow_101 : decode cX7_seenNow 101 = .ok (.invokevirtual 284, 3) := by decide +kernel
theorem dX7_seenNow_104 : decode cX7_seenNow 104 = .ok (.istore 8, 2) := by decide +kernel
theorem dX7_seenNow_106 : decode cX7_seenNow 106 = .ok (.iload_n 2, 1) := by decide +kernel
theorem dX7_seenNow_107 : decode cX7_seenNow 107 = .ok (.iload 8, 2) := by decide +kernel
theorem dX7_seenNow_109 : decode cX7_seenNow 109 = .ok (.iload_n 1, 1) := by decide +kernel
theorem dX7_seenNow_110 : decode cX7_seenNow 110 = .ok (.if_icmp .ne 7, 3) := by decide +kernel
theorem dX7_seenNow_113 : decode cX7_seenNow 113 = .ok (.iconst 1, 1) := by decide +kernel
theorem dX7_seenNow_114 : decode cX7_seenNow 114 = .ok (.goto 4, 3) := by decide +kernel
theorem dX7_seenNow_117 : decode cX7_seenNow 117 = .ok (.iconst 0, 1) := by decide +kernel
theorem dX7_seenNow_118 : decode cX7_seenNow 118 = .ok (.iadd, 1) := by decide +kernel
theorem dX7_seenNow_119 : decode cX7_seenNow 119 = .ok (.istore_n 2, 1) := by decide +kernel
theorem dX7_seenNow_120 : decode cX7_seenNow 120 = .ok (.goto (-39), 3) := by decide +kernel
theorem dX7_seenNow_123 : decode cX7_seenNow 123 = .ok (.iinc 5 1, 3) := by decide +kernel
theorem dX7_seenNow_126 : decode cX7_seenNow 126 = .ok (.goto (-112), 3) := by decide +kernel
theorem dX7_seenNow_129 : decode cX7_seenNow 129 = .ok (.iload_n 2, 1) := by decide +kernel
theorem dX7_seenNow_130 : decode cX7_seenNow 130 = .ok (.ireturn, 1) := by decide +kernel
def f_X7_seenNow_81 (K14 : Int32 → Int32 → Nat → Int32 → Int32 → zM → Option (Int32 × zM)) (n : Nat) (i1 : Int32) (i2 : Int32) (a3 : Nat) (i4 : Int32) (i5 : Int32) (a7 : Nat) (M : zM) : Option (Int32 × zM) := match n with
  | 0 => none
  | n + 1 =>
    if mK M a7 = 4 then
    (f_Jx35411_hasNext_aae02 a7 M).bind fun r1 =>
    if r1.1 = 0 then
    K14 i1 i2 a3 i4 ((i5 + (1 : Int32))) r1.2
    else
    if mK r1.2 a7 = 4 then
    (f_Jx35411_next_0502b a7 r1.2).bind fun r3 =>
    if mK r3.2 r3.1 = 3 ∨ mK r3.2 r3.1 = 303 then
    if mK r3.2 r3.1 = 3 ∨ mK r3.2 r3.1 = 303 then
    (f_J6_intValue_8abf5 r3.1 r3.2).bind fun r6 =>
    if r6.1 = i1 then
    f_X7_seenNow_81 K14 n i1 ((i2 + ((1 : Int32)))) a3 i4 i5 a7 r6.2
    else
    f_X7_seenNow_81 K14 n i1 ((i2 + ((0 : Int32)))) a3 i4 i5 a7 r6.2
    else none
    else none
    else none
    else none
set_option maxRecDepth 20000 in
set_option maxHeartbeats 4000000 in
theorem s_X7_seenNow_81 {L : zL} {X : zX} {M0 : zM} {N : Nat × Nat} {Q : State → Prop} {r : Int32 × zM} {K14 : Int32 → Int32 → Nat → Int32 → Int32 → zM → Option (Int32 × zM)} (hK14 : ∀ (i1 : Int32) (i2 : Int32) (a3 : Nat) (i4 : Int32) (i5 : Int32) (M : zM), K14 i1 i2 a3 i4 i5 M = some r → V L X yX7_seenNow cX7_seenNow 9 (some FieldType.int) 3 M0 N Q M 14 [(1, .int (i1)), (2, .int (i2)), (3, .ref (zad L (a3))), (4, .int (i4)), (5, .int (i5))] []) (hq : vQ L X M0 N Q (some (.int r.1)) r.2) {n : Nat} {i1 : Int32} {i2 : Int32} {a3 : Nat} {i4 : Int32} {i5 : Int32} {a7 : Nat} {M : zM} : f_X7_seenNow_81 K14 n i1 i2 a3 i4 i5 a7 M = some r → V L X yX7_seenNow cX7_seenNow 9 (some FieldType.int) 3 M0 N Q M 81 [(1, .int (i1)), (2, .int (i2)), (3, .ref (zad L (a3))), (4, .int (i4)), (5, .int (i5)), (7, .ref (zad L (a7)))] [] := by
  induction n generalizing i1 i2 a3 i4 i5 a7 M with
  | zero =>
    intro h
    rw [f_X7_seenNow_81] at h
    cases h
  | succ n ih0 =>
    intro h
    have ih : ∀ (i1 : Int32) (i2 : Int32) (a3 : Nat) (i4 : Int32) (i5 : Int32) (a7 : Nat) (M : zM), f_X7_seenNow_81 K14 n i1 i2 a3 i4 i5 a7 M = some r → V L X yX7_seenNow cX7_seenNow 9 (some FieldType.int) 3 M0 N Q M 81 [(1, .int (i1)), (2, .int (i2)), (3, .ref (zad L (a3))), (4, .int (i4)), (5, .int (i5)), (7, .ref (zad L (a7)))] [] := fun i1 i2 a3 i4 i5 a7 M h => ih0 h
    rw [f_X7_seenNow_81] at h
    refine V_aload dX7_seenNow_81 5 rfl ?_
    replace h := ox h
    obtain ⟨c2, h⟩ := h
    replace h := ob h
    obtain ⟨r1, e_r1, h⟩ := h
    refine V_callF_I (As := []) (rest := []) (c_Jx35411_hasNext_aae02 e_r1) zc_Jx35411_hasNext_aae02 rfl (by decide) rfl (by decide) (Or.inl c2) zm_X7_201 (Nat.le_of_ble_eq_true rfl) rfl dX7_seenNow_83 ?_
    refine V_pc (pc' := 88) rfl ?_
    refine V_if_eq (tgt := 123) dX7_seenNow_88 (by decide) (fun c9 => ?_) (fun c9 => ?_)
    · replace h := (oi h).1 c9
      refine V_iinc (v := i5 + (1 : Int32)) (ls' := [(5, .int ((i5 + (1 : Int32)))), (1, .int (i1)), (2, .int (i2)), (3, .ref (zad L (a3))), (4, .int (i4)), (7, .ref (zad L (a7)))]) dX7_seenNow_123 4 rfl (by rfl) (by decide) rfl ?_
      refine V_goto (tgt := 14) dX7_seenNow_126 (by decide) ?_
      refine V_sub [1, 2, 3, 4, 0] rfl ?_
      exact hK14 _ _ _ _ _ _ h
    · replace h := (oi h).2 c9
      refine V_aload dX7_seenNow_91 5 rfl ?_
      replace h := ox h
      obtain ⟨c4, h⟩ := h
      replace h := ob h
      obtain ⟨r3, e_r3, h⟩ := h
      refine V_callF_A (As := []) (rest := []) (c_Jx35411_next_0502b e_r3) zc_Jx35411_next_0502b rfl (by decide) rfl (by decide) (Or.inl c4) zm_X7_206 (Nat.le_of_ble_eq_true rfl) rfl dX7_seenNow_93 ?_
      refine V_pc (pc' := 98) rfl ?_
      replace h := ox h
      obtain ⟨c5, h⟩ := h
      refine V_cast (k := 3) rfl (by decide) c5 zk_X7_129 dX7_seenNow_98 ?_
      replace h := ox h
      obtain ⟨c7, h⟩ := h
      replace h := ob h
      obtain ⟨r6, e_r6, h⟩ := h
      refine V_callV_I (As := []) (rest := []) (c_J6_intValue_8abf5 e_r6) zc_J6_intValue_8abf5 rfl (by decide) rfl (by decide) (c7) zm_X7_284 (Nat.le_of_ble_eq_true rfl) rfl dX7_seenNow_101 ?_
      refine V_pc (pc' := 104) rfl ?_
      refine V_istore (ls' := [(8, .int (r6.1)), (1, .int (i1)), (2, .int (i2)), (3, .ref (zad L (a3))), (4, .int (i4)), (5, .int (i5)), (7, .ref (zad L (a7)))]) dX7_seenNow_104 (by decide) rfl ?_
      refine V_iload_n dX7_seenNow_106 rfl 2 rfl ?_
      refine V_iload dX7_seenNow_107 0 rfl ?_
      refine V_iload_n dX7_seenNow_109 rfl 1 rfl ?_
      refine V_icmp_ne (tgt := 117) dX7_seenNow_110 (by decide) (fun c8 => ?_) (fun c8 => ?_)
      · replace h := (oi h).2 c8
        refine V_iconst (v := 0) dX7_seenNow_117 (by decide) ?_
        refine V_iadd dX7_seenNow_118 ?_
        refine V_istore_n (ls' := [(2, .int ((i2 + ((0 : Int32))))), (8, .int (r6.1)), (1, .int (i1)), (3, .ref (zad L (a3))), (4, .int (i4)), (5, .int (i5)), (7, .ref (zad L (a7)))]) dX7_seenNow_119 rfl (by decide) rfl ?_
        refine V_goto (tgt := 81) dX7_seenNow_120 (by decide) ?_
        refine V_sub [2, 0, 3, 4, 5, 6] rfl ?_
        exact ih _ _ _ _ _ _ _ h
      · replace h := (oi h).1 c8
        refine V_iconst (v := 1) dX7_seenNow_113 (by decide) ?_
        refine V_goto (tgt := 118) dX7_seenNow_114 (by decide) ?_
        refine V_iadd dX7_seenNow_118 ?_
        refine V_istore_n (ls' := [(2, .int ((i2 + ((1 : Int32))))), (8, .int (r6.1)), (1, .int (i1)), (3, .ref (zad L (a3))), (4, .int (i4)), (5, .int (i5)), (7, .ref (zad L (a7)))]) dX7_seenNow_119 rfl (by decide) rfl ?_
        refine V_goto (tgt := 81) dX7_seenNow_120 (by decide) ?_
        refine V_sub [2, 0, 3, 4, 5, 6] rfl ?_
        exact ih _ _ _ _ _ _ _ h
def f_X7_seenNow_37 (K14 : Int32 → Int32 → Nat → Int32 → Int32 → zM → Option (Int32 × zM)) (n : Nat) (i1 : Int32) (i2 : Int32) (a3 : Nat) (i4 : Int32) (i5 : Int32) (a6 : Nat) (a7 : Nat) (M : zM) : Option (Int32 × zM) := match n with
  | 0 => none
  | n + 1 =>
    if mK M a7 = 4 then
    (f_Jx35411_hasNext_aae02 a7 M).bind fun r1 =>
    if r1.1 = 0 then
    (gR 12 4 r1.2 a6).bind fun v3 =>
    if mK r1.2 v3 = 5 then
    (f_Jx4a65c_iterator_32c93 v3 r1.2).bind fun r4 =>
    f_X7_seenNow_81 K14 zN i1 i2 a3 i4 i5 r4.1 r4.2
    else none
    else
    if mK r1.2 a7 = 4 then
    (f_Jx35411_next_0502b a7 r1.2).bind fun r6 =>
    if mK r6.2 r6.1 = 11 ∨ mK r6.2 r6.1 = 311 then
    if mK r6.2 r6.1 = 11 then
    (f_X5_of r6.1 i1 r6.2).bind fun r9 =>
    f_X7_seenNow_37 K14 n i1 ((i2 + r9.1)) a3 i4 i5 a6 a7 r9.2
    else none
    else none
    else none
    else none
set_option maxRecDepth 20000 in
set_option maxHeartbeats 4000000 in
theorem s_X7_seenNow_37 {L : zL} {X : zX} {M0 : zM} {N : Nat × Nat} {Q : State → Prop} {r : Int32 × zM} {K14 : Int32 → Int32 → Nat → Int32 → Int32 → zM → Option (Int32 × zM)} (hK14 : ∀ (i1 : Int32) (i2 : Int32) (a3 : Nat) (i4 : Int32) (i5 : Int32) (M : zM), K14 i1 i2 a3 i4 i5 M = some r → V L X yX7_seenNow cX7_seenNow 9 (some FieldType.int) 3 M0 N Q M 14 [(1, .int (i1)), (2, .int (i2)), (3, .ref (zad L (a3))), (4, .int (i4)), (5, .int (i5))] []) (hq : vQ L X M0 N Q (some (.int r.1)) r.2) {n : Nat} {i1 : Int32} {i2 : Int32} {a3 : Nat} {i4 : Int32} {i5 : Int32} {a6 : Nat} {a7 : Nat} {M : zM} : f_X7_seenNow_37 K14 n i1 i2 a3 i4 i5 a6 a7 M = some r → V L X yX7_seenNow cX7_seenNow 9 (some FieldType.int) 3 M0 N Q M 37 [(1, .int (i1)), (2, .int (i2)), (3, .ref (zad L (a3))), (4, .int (i4)), (5, .int (i5)), (6, .ref (zad L (a6))), (7, .ref (zad L (a7)))] [] := by
  induction n generalizing i1 i2 a3 i4 i5 a6 a7 M with
  | zero =>
    intro h
    rw [f_X7_seenNow_37] at h
    cases h
  | succ n ih0 =>
    intro h
    have ih : ∀ (i1 : Int32) (i2 : Int32) (a3 : Nat) (i4 : Int32) (i5 : Int32) (a6 : Nat) (a7 : Nat) (M : zM), f_X7_seenNow_37 K14 n i1 i2 a3 i4 i5 a6 a7 M = some r → V L X yX7_seenNow cX7_seenNow 9 (some FieldType.int) 3 M0 N Q M 37 [(1, .int (i1)), (2, .int (i2)), (3, .ref (zad L (a3))), (4, .int (i4)), (5, .int (i5)), (6, .ref (zad L (a6))), (7, .ref (zad L (a7)))] [] := fun i1 i2 a3 i4 i5 a6 a7 M h => ih0 h
    rw [f_X7_seenNow_37] at h
    refine V_aload dX7_seenNow_37 6 rfl ?_
    replace h := ox h
    obtain ⟨c2, h⟩ := h
    replace h := ob h
    obtain ⟨r1, e_r1, h⟩ := h
    refine V_callF_I (As := []) (rest := []) (c_Jx35411_hasNext_aae02 e_r1) zc_Jx35411_hasNext_aae02 rfl (by decide) rfl (by decide) (Or.inl c2) zm_X7_201 (Nat.le_of_ble_eq_true rfl) rfl dX7_seenNow_39 ?_
    refine V_pc (pc' := 44) rfl ?_
    refine V_if_eq (tgt := 71) dX7_seenNow_44 (by decide) (fun c11 => ?_) (fun c11 => ?_)
    · replace h := (oi h).1 c11
      refine V_aload dX7_seenNow_71 5 rfl ?_
      replace h := ob h
      obtain ⟨v3, e_v3, h⟩ := h
      refine V_getR zf_12_4 zl_X7_124 e_v3 dX7_seenNow_73 ?_
      refine V_pc (pc' := 76) rfl ?_
      replace h := ox h
      obtain ⟨c5, h⟩ := h
      replace h := ob h
      obtain ⟨r4, e_r4, h⟩ := h
      refine V_callV_A (As := []) (rest := []) (c_Jx4a65c_iterator_32c93 e_r4) zc_Jx4a65c_iterator_32c93 rfl (by decide) rfl (by decide) (Or.inl c5) zm_X7_197 (Nat.le_of_ble_eq_true rfl) rfl dX7_seenNow_76 ?_
      refine V_pc (pc' := 79) rfl ?_
      refine V_astore (ls' := [(7, .ref (zad L (r4.1))), (1, .int (i1)), (2, .int (i2)), (3, .ref (zad L (a3))), (4, .int (i4)), (5, .int (i5)), (6, .ref (zad L (a6)))]) dX7_seenNow_79 (by decide) rfl ?_
      refine V_sub [1, 2, 3, 4, 5, 0] rfl ?_
      exact s_X7_seenNow_81 hK14 hq h
    · replace h := (oi h).2 c11
      refine V_aload dX7_seenNow_47 6 rfl ?_
      replace h := ox h
      obtain ⟨c7, h⟩ := h
      replace h := ob h
      obtain ⟨r6, e_r6, h⟩ := h
      refine V_callF_A (As := []) (rest := []) (c_Jx35411_next_0502b e_r6) zc_Jx35411_next_0502b rfl (by decide) rfl (by decide) (Or.inl c7) zm_X7_206 (Nat.le_of_ble_eq_true rfl) rfl dX7_seenNow_49 ?_
      refine V_pc (pc' := 54) rfl ?_
      replace h := ox h
      obtain ⟨c8, h⟩ := h
      refine V_cast (k := 11) rfl (by decide) c8 zk_X7_186 dX7_seenNow_54 ?_
      refine V_astore (ls' := [(8, .ref (zad L (r6.1))), (1, .int (i1)), (2, .int (i2)), (3, .ref (zad L (a3))), (4, .int (i4)), (5, .int (i5)), (6, .ref (zad L (a6))), (7, .ref (zad L (a7)))]) dX7_seenNow_57 (by decide) rfl ?_
      refine V_iload_n dX7_seenNow_59 rfl 2 rfl ?_
      refine V_aload dX7_seenNow_60 0 rfl ?_
      refine V_iload_n dX7_seenNow_62 rfl 1 rfl ?_
      replace h := ox h
      obtain ⟨c10, h⟩ := h
      replace h := ob h
      obtain ⟨r9, e_r9, h⟩ := h
      refine V_callV_I (As := [.int (i1)]) (rest := [.int (i2)]) (c_X5_of e_r9) zc_X5_of rfl (by decide) rfl (by decide) (Or.inl c10) zm_X7_210 (Nat.le_of_ble_eq_true rfl) rfl dX7_seenNow_63 ?_
      refine V_pc (pc' := 66) rfl ?_
      refine V_iadd dX7_seenNow_66 ?_
      refine V_istore_n (ls' := [(2, .int ((i2 + r9.1))), (8, .ref (zad L (r6.1))), (1, .int (i1)), (3, .ref (zad L (a3))), (4, .int (i4)), (5, .int (i5)), (6, .ref (zad L (a6))), (7, .ref (zad L (a7)))]) dX7_seenNow_67 rfl (by decide) rfl ?_
      refine V_goto (tgt := 37) dX7_seenNow_68 (by decide) ?_
      refine V_sub [2, 0, 3, 4, 5, 6, 7] rfl ?_
      exact ih _ _ _ _ _ _ _ _ h
def f_X7_seenNow_14 (n : Nat) (i1 : Int32) (i2 : Int32) (a3 : Nat) (i4 : Int32) (i5 : Int32) (M : zM) : Option (Int32 × zM) := match n with
  | 0 => none
  | n + 1 =>
    if i4 ≤ i5 then
    some (i2, M)
    else
    (lQ 2 M a3 i5).bind fun v1 =>
    (gR 12 3 M v1).bind fun v2 =>
    if mK M v2 = 5 then
    (f_Jx4a65c_iterator_32c93 v2 M).bind fun r3 =>
    f_X7_seenNow_37 (f_X7_seenNow_14 n) zN i1 i2 a3 i4 i5 v1 r3.1 r3.2
    else none
set_option maxRecDepth 20000 in
set_option maxHeartbeats 4000000 in
theorem s_X7_seenNow_14 {L : zL} {X : zX} {M0 : zM} {N : Nat × Nat} {Q : State → Prop} {r : Int32 × zM} (hq : vQ L X M0 N Q (some (.int r.1)) r.2) {n : Nat} {i1 : Int32} {i2 : Int32} {a3 : Nat} {i4 : Int32} {i5 : Int32} {M : zM} : f_X7_seenNow_14 n i1 i2 a3 i4 i5 M = some r → V L X yX7_seenNow cX7_seenNow 9 (some FieldType.int) 3 M0 N Q M 14 [(1, .int (i1)), (2, .int (i2)), (3, .ref (zad L (a3))), (4, .int (i4)), (5, .int (i5))] [] := by
  induction n generalizing i1 i2 a3 i4 i5 M with
  | zero =>
    intro h
    rw [f_X7_seenNow_14] at h
    cases h
  | succ n ih0 =>
    intro h
    have ih : ∀ (i1 : Int32) (i2 : Int32) (a3 : Nat) (i4 : Int32) (i5 : Int32) (M : zM), f_X7_seenNow_14 n i1 i2 a3 i4 i5 M = some r → V L X yX7_seenNow cX7_seenNow 9 (some FieldType.int) 3 M0 N Q M 14 [(1, .int (i1)), (2, .int (i2)), (3, .ref (zad L (a3))), (4, .int (i4)), (5, .int (i5))] [] := fun i1 i2 a3 i4 i5 M h => ih0 h
    rw [f_X7_seenNow_14] at h
    refine V_iload dX7_seenNow_14 4 rfl ?_
    refine V_iload dX7_seenNow_16 3 rfl ?_
    refine V_icmp_ge (tgt := 129) dX7_seenNow_18 (by decide) (fun c5 => ?_) (fun c5 => ?_)
    · replace h := (oi h).1 c5
      refine V_iload_n dX7_seenNow_129 rfl 1 rfl ?_
      obtain rfl := Option.some.inj h
      exact V_iret rfl hq dX7_seenNow_130
    · replace h := (oi h).2 c5
      refine V_aload_n dX7_seenNow_21 rfl 2 rfl ?_
      refine V_iload dX7_seenNow_22 4 rfl ?_
      replace h := ob h
      obtain ⟨v1, e_v1, h⟩ := h
      refine V_aald (by decide) e_v1 dX7_seenNow_24 ?_
      refine V_pc (pc' := 25) rfl ?_
      refine V_astore (ls' := [(6, .ref (zad L (v1))), (1, .int (i1)), (2, .int (i2)), (3, .ref (zad L (a3))), (4, .int (i4)), (5, .int (i5))]) dX7_seenNow_25 (by decide) rfl ?_
      refine V_aload dX7_seenNow_27 0 rfl ?_
      replace h := ob h
      obtain ⟨v2, e_v2, h⟩ := h
      refine V_getR zf_12_3 zl_X7_183 e_v2 dX7_seenNow_29 ?_
      refine V_pc (pc' := 32) rfl ?_
      replace h := ox h
      obtain ⟨c4, h⟩ := h
      replace h := ob h
      obtain ⟨r3, e_r3, h⟩ := h
      refine V_callV_A (As := []) (rest := []) (c_Jx4a65c_iterator_32c93 e_r3) zc_Jx4a65c_iterator_32c93 rfl (by decide) rfl (by decide) (Or.inl c4) zm_X7_197 (Nat.le_of_ble_eq_true rfl) rfl dX7_seenNow_32 ?_
      refine V_pc (pc' := 35) rfl ?_
      refine V_astore (ls' := [(7, .ref (zad L (r3.1))), (6, .ref (zad L (v1))), (1, .int (i1)), (2, .int (i2)), (3, .ref (zad L (a3))), (4, .int (i4)), (5, .int (i5))]) dX7_seenNow_35 (by decide) rfl ?_
      refine V_sub [2, 3, 4, 5, 6, 1, 0] rfl ?_
      exact s_X7_seenNow_37 ih hq h
def f_X7_seenNow_0 (a0 : Nat) (i1 : Int32) (M : zM) : Option (Int32 × zM) :=
  (gR 13 1 M a0).bind fun v1 =>
  (gL M v1).bind fun v2 =>
  f_X7_seenNow_14 zN i1 ((0 : Int32)) v1 v2 ((0 : Int32)) M
set_option maxRecDepth 20000 in
set_option maxHeartbeats 4000000 in
theorem s_X7_seenNow_0 {L : zL} {X : zX} {M0 : zM} {N : Nat × Nat} {Q : State → Prop} {r : Int32 × zM} (hq : vQ L X M0 N Q (some (.int r.1)) r.2) {a0 : Nat} {i1 : Int32} {M : zM} (h : f_X7_seenNow_0 a0 i1 M = some r) : V L X yX7_seenNow cX7_seenNow 9 (some FieldType.int) 3 M0 N Q M 0 [(0, .ref (zad L (a0))), (1, .int (i1))] [] := by
  unfold f_X7_seenNow_0 at h
  refine V_iconst (v := 0) dX7_seenNow_0 (by decide) ?_
  refine V_istore_n (ls' := [(2, .int ((0 : Int32))), (0, .ref (zad L (a0))), (1, .int (i1))]) dX7_seenNow_1 rfl (by decide) rfl ?_
  refine V_aload_n dX7_seenNow_2 rfl 1 rfl ?_
  replace h := ob h
  obtain ⟨v1, e_v1, h⟩ := h
  refine V_getR zf_13_1 zl_X7_38 e_v1 dX7_seenNow_3 ?_
  refine V_pc (pc' := 6) rfl ?_
  refine V_astore_n (ls' := [(3, .ref (zad L (v1))), (2, .int ((0 : Int32))), (0, .ref (zad L (a0))), (1, .int (i1))]) dX7_seenNow_6 rfl (by decide) rfl ?_
  refine V_aload_n dX7_seenNow_7 rfl 0 rfl ?_
  replace h := ob h
  obtain ⟨v2, e_v2, h⟩ := h
  refine V_alen e_v2 dX7_seenNow_8 ?_
  refine V_pc (pc' := 9) rfl ?_
  refine V_istore (ls' := [(4, .int (v2)), (3, .ref (zad L (v1))), (2, .int ((0 : Int32))), (0, .ref (zad L (a0))), (1, .int (i1))]) dX7_seenNow_9 (by decide) rfl ?_
  refine V_iconst (v := 0) dX7_seenNow_11 (by decide) ?_
  refine V_istore (ls' := [(5, .int ((0 : Int32))), (4, .int (v2)), (3, .ref (zad L (v1))), (2, .int ((0 : Int32))), (0, .ref (zad L (a0))), (1, .int (i1))]) dX7_seenNow_12 (by decide) rfl ?_
  refine V_sub [5, 3, 2, 1, 0] rfl ?_
  exact s_X7_seenNow_14 hq h
def f_X7_seenNow (a0 : Nat) (i1 : Int32) (M : zM) : Option (Int32 × zM) := f_X7_seenNow_0 a0 i1 M
theorem c_X7_seenNow {L : zL} {l : Launch} {a0 : Nat} {i1 : Int32} {M : zM} {r : Int32 × zM} (h : f_X7_seenNow a0 i1 M = some r) : CP L l yX7_seenNow cX7_seenNow 9 (some FieldType.int) 3 M [.ref (zad L (a0)), .int (i1)] (some (.int r.1)) r.2 :=
  CP.of ⟨by decide +kernel, by decide +kernel⟩ (Nat.le_of_ble_eq_true rfl) fun X Q hq => s_X7_seenNow_0 hq h
/-! WindsparlourModel.seen(I)I -/
theorem dX7_seen_0 : decode cX7_seen 0 = .ok (.aload_n 0, 1) := by decide +kernel
theorem dX7_seen_1 : decode cX7_seen 1 = .ok (.iload_n 1, 1) := by decide +kernel
theorem dX7_seen_2 : decode cX7_seen 2 = .ok (.invokestatic 147, 3) := by decide +kernel
theorem dX7_seen_5 : decode cX7_seen 5 = .ok (.ifCond .ne 7, 3) := by decide +kernel
theorem dX7_seen_8 : decode cX7_seen 8 = .ok (.iconst 1, 1) := by decide +kernel
theorem dX7_seen_9 : decode cX7_seen 9 = .ok (.goto 4, 3) := by decide +kernel
theorem dX7_seen_12 : decode cX7_seen 12 = .ok (.iconst 0, 1) := by decide +kernel
theorem dX7_seen_13 : decode cX7_seen 13 = .ok (.iconst 1, 1) := by decide +kernel
theorem dX7_seen_14 : decode cX7_seen 14 = .ok (.invokevirtual 85, 3) := by decide +kernel
theorem dX7_seen_17 : decode cX7_seen 17 = .ok (.ifCond .eq 7, 3) := by decide +kernel
theorem dX7_seen_20 : decode cX7_seen 20 = .ok (.iconst 0, 1) := by decide +kernel
theorem dX7_seen_21 : decode cX7_seen 21 = .ok (.goto 8, 3) := by decide +kernel
theorem dX7_seen_24 : decode cX7_seen 24 = .ok (.aload_n 0, 1) := by decide +kernel
theorem dX7_seen_25 : decode cX7_seen 25 = .ok (.iload_n 1, 1) := by decide +kernel
theorem dX7_seen_26 : decode cX7_seen 26 = .ok (.invokevirtual 287, 3) := by decide +kernel
theorem dX7_seen_29 : decode cX7_seen 29 = .ok (.ireturn, 1) := by decide +kernel
def f_X7_seen_13 (a0 : Nat) (i1 : Int32) (i_0 : Int32) (a_1 : Nat) (M : zM) : Option (Int32 × zM) :=
  if mK M a_1 = 13 then
  (f_X7_start a_1 i_0 ((1 : Int32)) M).bind fun r1 =>
  if r1.1 = 0 then
  if mK r1.2 a0 = 13 then
  (f_X7_seenNow a0 i1 r1.2).bind fun r3 =>
  some (r3.1, r3.2)
  else none
  else
  some ((0 : Int32), r1.2)
  else none
set_option maxRecDepth 20000 in
set_option maxHeartbeats 4000000 in
theorem s_X7_seen_13 {L : zL} {X : zX} {M0 : zM} {N : Nat × Nat} {Q : State → Prop} {r : Int32 × zM} (hq : vQ L X M0 N Q (some (.int r.1)) r.2) {a0 : Nat} {i1 : Int32} {i_0 : Int32} {a_1 : Nat} {M : zM} (h : f_X7_seen_13 a0 i1 i_0 a_1 M = some r) : V L X yX7_seen cX7_seen 2 (some FieldType.int) 4 M0 N Q M 13 [(0, .ref (zad L (a0))), (1, .int (i1))] [.int (i_0), .ref (zad L (a_1))] := by
  unfold f_X7_seen_13 at h
  refine V_iconst (v := 1) dX7_seen_13 (by decide) ?_
  replace h := ox h
  obtain ⟨c2, h⟩ := h
  replace h := ob h
  obtain ⟨r1, e_r1, h⟩ := h
  refine V_callV_I (As := [.int (i_0), .int ((1 : Int32))]) (rest := []) (c_X7_start e_r1) zc_X7_start rfl (by decide) rfl (by decide) (Or.inl c2) zm_X7_85 (Nat.le_of_ble_eq_true rfl) rfl dX7_seen_14 ?_
  refine V_pc (pc' := 17) rfl ?_
  refine V_if_eq (tgt := 24) dX7_seen_17 (by decide) (fun c5 => ?_) (fun c5 => ?_)
  · replace h := (oi h).1 c5
    refine V_aload_n dX7_seen_24 rfl 0 rfl ?_
    refine V_iload_n dX7_seen_25 rfl 1 rfl ?_
    replace h := ox h
    obtain ⟨c4, h⟩ := h
    replace h := ob h
    obtain ⟨r3, e_r3, h⟩ := h
    refine V_callV_I (As := [.int (i1)]) (rest := []) (c_X7_seenNow e_r3) zc_X7_seenNow rfl (by decide) rfl (by decide) (Or.inl c4) zm_X7_287 (Nat.le_of_ble_eq_true rfl) rfl dX7_seen_26 ?_
    refine V_pc (pc' := 29) rfl ?_
    obtain rfl := Option.some.inj h
    exact V_iret rfl hq dX7_seen_29
  · replace h := (oi h).2 c5
    refine V_iconst (v := 0) dX7_seen_20 (by decide) ?_
    refine V_goto (tgt := 29) dX7_seen_21 (by decide) ?_
    obtain rfl := Option.some.inj h
    exact V_iret rfl hq dX7_seen_29
def f_X7_seen_0 (a0 : Nat) (i1 : Int32) (M : zM) : Option (Int32 × zM) :=
  (f_X7_isKind i1 M).bind fun r1 =>
  if r1.1 = 0 then
  f_X7_seen_13 a0 i1 ((1 : Int32)) a0 r1.2
  else
  f_X7_seen_13 a0 i1 ((0 : Int32)) a0 r1.2
set_option maxRecDepth 20000 in
set_option maxHeartbeats 4000000 in
theorem s_X7_seen_0 {L : zL} {X : zX} {M0 : zM} {N : Nat × Nat} {Q : State → Prop} {r : Int32 × zM} (hq : vQ L X M0 N Q (some (.int r.1)) r.2) {a0 : Nat} {i1 : Int32} {M : zM} (h : f_X7_seen_0 a0 i1 M = some r) : V L X yX7_seen cX7_seen 2 (some FieldType.int) 4 M0 N Q M 0 [(0, .ref (zad L (a0))), (1, .int (i1))] [] := by
  unfold f_X7_seen_0 at h
  refine V_aload_n dX7_seen_0 rfl 0 rfl ?_
  refine V_iload_n dX7_seen_1 rfl 1 rfl ?_
  replace h := ob h
  obtain ⟨r1, e_r1, h⟩ := h
  refine V_callS_I (As := [.int (i1)]) (rest := [.ref (zad L (a0))]) (c_X7_isKind e_r1) zc_X7_isKind rfl (by decide) zm_X7_147 (Nat.le_of_ble_eq_true rfl) rfl dX7_seen_2 ?_
  refine V_pc (pc' := 5) rfl ?_
  refine V_if_ne (tgt := 12) dX7_seen_5 (by decide) (fun c2 => ?_) (fun c2 => ?_)
  · replace h := (oi h).2 c2
    refine V_iconst (v := 0) dX7_seen_12 (by decide) ?_
    exact s_X7_seen_13 hq h
  · replace h := (oi h).1 c2
    refine V_iconst (v := 1) dX7_seen_8 (by decide) ?_
    refine V_goto (tgt := 13) dX7_seen_9 (by decide) ?_
    exact s_X7_seen_13 hq h
def f_X7_seen (a0 : Nat) (i1 : Int32) (M : zM) : Option (Int32 × zM) := f_X7_seen_0 a0 i1 M
theorem c_X7_seen {L : zL} {l : Launch} {a0 : Nat} {i1 : Int32} {M : zM} {r : Int32 × zM} (h : f_X7_seen a0 i1 M = some r) : CP L l yX7_seen cX7_seen 2 (some FieldType.int) 4 M [.ref (zad L (a0)), .int (i1)] (some (.int r.1)) r.2 :=
  CP.of ⟨by decide +kernel, by decide +kernel⟩ (Nat.le_of_ble_eq_true rfl) fun X Q hq => s_X7_seen_0 hq h
/-! WindsparlourModel.waits(I)J -/
theorem dX7_waits_0 : decode cX7_waits 0 = .ok (.aload_n 0, 1) := by decide +kernel
theorem dX7_waits_1 : decode cX7_waits 1 = .ok (.iload_n 1, 1) := by decide +kernel
theorem dX7_waits_2 : decode cX7_waits 2 = .ok (.invokestatic 174, 3) := by decide +kernel
theorem dX7_waits_5 : decode cX7_waits 5 = .ok (.iconst 1, 1) := by decide +kernel
theorem dX7_waits_6 : decode cX7_waits 6 = .ok (.invokevirtual 85, 3) := by decide +kernel
theorem dX7_waits_9 : decode cX7_waits 9 = .ok (.ifCond .eq 7, 3) := by decide +kernel
theorem dX7_waits_12 : decode cX7_waits 12 = .ok (.lconst 0, 1) := by decide +kernel
theorem dX7_waits_13 : decode cX7_waits 13 = .ok (.goto 12, 3) := by decide +kernel
theorem dX7_waits_16 : decode cX7_waits 16 = .ok (.aload_n 0, 1) := by decide +kernel
theorem dX7_waits_17 : decode cX7_waits 17 = .ok (.getfield 38, 3) := by decide +kernel
theorem dX7_waits_20 : decode cX7_waits 20 = .ok (.iload_n 1, 1) := by decide +kernel
theorem dX7_waits_21 : decode cX7_waits 21 = .ok (.aaload, 1) := by decide +kernel
theorem dX7_waits_22 : decode cX7_waits 22 = .ok (.invokevirtual 248, 3) := by decide +kernel
theorem dX7_waits_25 : decode cX7_waits 25 = .ok (.lreturn, 1) := by decide +kernel
def f_X7_waits_0 (a0 : Nat) (i1 : Int32) (M : zM) : Option (Int64 × zM) :=
  (f_X7_isNoPlayer i1 M).bind fun r1 =>
  if mK r1.2 a0 = 13 then
  (f_X7_start a0 r1.1 ((1 : Int32)) r1.2).bind fun r2 =>
  if r2.1 = 0 then
  (gR 13 1 r2.2 a0).bind fun v4 =>
  (lQ 2 r2.2 v4 i1).bind fun v5 =>
  if mK r2.2 v5 = 12 then
  (f_X6_waits v5 r2.2).bind fun r6 =>
  some (r6.1, r6.2)
  else none
  else
  some ((0 : Int64), r2.2)
  else none
set_option maxRecDepth 20000 in
set_option maxHeartbeats 4000000 in
theorem s_X7_waits_0 {L : zL} {X : zX} {M0 : zM} {N : Nat × Nat} {Q : State → Prop} {r : Int64 × zM} (hq : vQ L X M0 N Q (some (.long r.1)) r.2) {a0 : Nat} {i1 : Int32} {M : zM} (h : f_X7_waits_0 a0 i1 M = some r) : V L X yX7_waits cX7_waits 2 (some FieldType.long) 69 M0 N Q M 0 [(0, .ref (zad L (a0))), (1, .int (i1))] [] := by
  unfold f_X7_waits_0 at h
  refine V_aload_n dX7_waits_0 rfl 0 rfl ?_
  refine V_iload_n dX7_waits_1 rfl 1 rfl ?_
  replace h := ob h
  obtain ⟨r1, e_r1, h⟩ := h
  refine V_callS_I (As := [.int (i1)]) (rest := [.ref (zad L (a0))]) (c_X7_isNoPlayer e_r1) zc_X7_isNoPlayer rfl (by decide) zm_X7_174 (Nat.le_of_ble_eq_true rfl) rfl dX7_waits_2 ?_
  refine V_pc (pc' := 5) rfl ?_
  refine V_iconst (v := 1) dX7_waits_5 (by decide) ?_
  replace h := ox h
  obtain ⟨c3, h⟩ := h
  replace h := ob h
  obtain ⟨r2, e_r2, h⟩ := h
  refine V_callV_I (As := [.int (r1.1), .int ((1 : Int32))]) (rest := []) (c_X7_start e_r2) zc_X7_start rfl (by decide) rfl (by decide) (Or.inl c3) zm_X7_85 (Nat.le_of_ble_eq_true rfl) rfl dX7_waits_6 ?_
  refine V_pc (pc' := 9) rfl ?_
  refine V_if_eq (tgt := 16) dX7_waits_9 (by decide) (fun c8 => ?_) (fun c8 => ?_)
  · replace h := (oi h).1 c8
    refine V_aload_n dX7_waits_16 rfl 0 rfl ?_
    replace h := ob h
    obtain ⟨v4, e_v4, h⟩ := h
    refine V_getR zf_13_1 zl_X7_38 e_v4 dX7_waits_17 ?_
    refine V_pc (pc' := 20) rfl ?_
    refine V_iload_n dX7_waits_20 rfl 1 rfl ?_
    replace h := ob h
    obtain ⟨v5, e_v5, h⟩ := h
    refine V_aald (by decide) e_v5 dX7_waits_21 ?_
    refine V_pc (pc' := 22) rfl ?_
    replace h := ox h
    obtain ⟨c7, h⟩ := h
    replace h := ob h
    obtain ⟨r6, e_r6, h⟩ := h
    refine V_callV_J (As := []) (rest := []) (c_X6_waits e_r6) zc_X6_waits rfl (by decide) rfl (by decide) (Or.inl c7) zm_X7_248 (Nat.le_of_ble_eq_true rfl) rfl dX7_waits_22 ?_
    refine V_pc (pc' := 25) rfl ?_
    obtain rfl := Option.some.inj h
    exact V_lret rfl hq dX7_waits_25
  · replace h := (oi h).2 c8
    refine V_lconst (v := 0) dX7_waits_12 (by decide) ?_
    refine V_goto (tgt := 25) dX7_waits_13 (by decide) ?_
    obtain rfl := Option.some.inj h
    exact V_lret rfl hq dX7_waits_25
def f_X7_waits (a0 : Nat) (i1 : Int32) (M : zM) : Option (Int64 × zM) := f_X7_waits_0 a0 i1 M
theorem c_X7_waits {L : zL} {l : Launch} {a0 : Nat} {i1 : Int32} {M : zM} {r : Int64 × zM} (h : f_X7_waits a0 i1 M = some r) : CP L l yX7_waits cX7_waits 2 (some FieldType.long) 69 M [.ref (zad L (a0)), .int (i1)] (some (.long r.1)) r.2 :=
  CP.of ⟨by decide +kernel, by decide +kernel⟩ (Nat.le_of_ble_eq_true rfl) fun X Q hq => s_X7_waits_0 hq h
/-! java/lang/AbstractStringBuilder.charAt(I)C -/
theorem dJ5_charAt_5068e_0 : decode cJ5_charAt_5068e 0 = .ok (.aload_n 0, 1) := by decide +kernel
theorem dJ5_charAt_5068e_1 : decode cJ5_charAt_5068e 1 = .ok (.getfield 22, 3) := by decide +kernel
theorem dJ5_charAt_5068e_4 : decode cJ5_charAt_5068e 4 = .ok (.istore_n 2, 1) := by decide +kernel
theorem dJ5_charAt_5068e_5 : decode cJ5_charAt_5068e 5 = .ok (.aload_n 0, 1) := by decide +kernel
theorem dJ5_charAt_5068e_6 : decode cJ5_charAt_5068e 6 = .ok (.getfield 15, 3) := by decide +kernel
theorem dJ5_charAt_5068e_9 : decode cJ5_charAt_5068e 9 = .ok (.astore_n 3, 1) := by decide +kernel
theorem dJ5_charAt_5068e_10 : decode cJ5_charAt_5068e 10 = .ok (.aload_n 0, 1) := by decide +kernel
theorem dJ5_charAt_5068e_11 : decode cJ5_charAt_5068e 11 = .ok (.getfield 79, 3) := by decide +kernel
theorem dJ5_charAt_5068e_14 : decode cJ5_charAt_5068e 14 = .ok (.aload_n 3, 1) := by decide +kernel
theorem dJ5_charAt_5068e_15 : decode cJ5_charAt_5068e 15 = .ok (.arraylength, 1) := by decide +kernel
theorem dJ5_charAt_5068e_16 : decode cJ5_charAt_5068e 16 = .ok (.iload_n 2, 1) := by decide +kernel
theorem dJ5_charAt_5068e_17 : decode cJ5_charAt_5068e 17 = .ok (.ishr, 1) := by decide +kernel
theorem dJ5_charAt_5068e_18 : decode cJ5_charAt_5068e 18 = .ok (.invokestatic 138, 3) := by decide +kernel
theorem dJ5_charAt_5068e_21 : decode cJ5_charAt_5068e 21 = .ok (.istore 4, 2) := by decide +kernel
theorem dJ5_charAt_5068e_23 : decode cJ5_charAt_5068e 23 = .ok (.iload_n 1, 1) := by decide +kernel
theorem dJ5_charAt_5068e_24 : decode cJ5_charAt_5068e 24 = .ok (.iload 4, 2) := by decide +kernel
theorem dJ5_charAt_5068e_26 : decode cJ5_charAt_5068e 26 = .ok (.invokestatic 144, 3) := by decide +kernel
theorem dJ5_charAt_5068e_29 : decode cJ5_charAt_5068e 29 = .ok (.iload_n 2, 1) := by decide +kernel
theorem dJ5_charAt_5068e_30 : decode cJ5_charAt_5068e 30 = .ok (.ifCond .ne 12, 3) := by decide +kernel
theorem dJ5_charAt_5068e_33 : decode cJ5_charAt_5068e 33 = .ok (.aload_n 3, 1) := by decide +kernel
theorem dJ5_charAt_5068e_34 : decode cJ5_charAt_5068e 34 = .ok (.iload_n 1, 1) := by decide +kernel
theorem dJ5_charAt_5068e_35 : decode cJ5_charAt_5068e 35 = .ok (.baload, 1) := by decide +kernel
theorem dJ5_charAt_5068e_36 : decode cJ5_charAt_5068e 36 = .ok (.sipush 255, 3) := by decide +kernel
theorem dJ5_charAt_5068e_39 : decode cJ5_charAt_5068e 39 = .ok (.iand, 1) := by decide +kernel
theorem dJ5_charAt_5068e_40 : decode cJ5_charAt_5068e 40 = .ok (.i2c, 1) := by decide +kernel
theorem dJ5_charAt_5068e_41 : decode cJ5_charAt_5068e 41 = .ok (.ireturn, 1) := by decide +kernel
theorem dJ5_charAt_5068e_42 : decode cJ5_charAt_5068e 42 = .ok (.aload_n 3, 1) := by decide +kernel
theorem dJ5_charAt_5068e_43 : decode cJ5_charAt_5068e 43 = .ok (.iload_n 1, 1) := by decide +kernel
theorem dJ5_charAt_5068e_44 : decode cJ5_charAt_5068e 44 = .ok (.invokestatic 148, 3) := by decide +kernel
theorem dJ5_charAt_5068e_47 : decode cJ5_charAt_5068e 47 = .ok (.ireturn, 1) := by decide +kernel
def f_J5_charAt_5068e_0 (a0 : Nat) (i1 : Int32) (M : zM) : Option (Int32 × zM) :=
  (gI 2 1 M a0).bind fun v1 =>
  (gR 2 0 M a0).bind fun v2 =>
  (gI 2 3 M a0).bind fun v3 =>
  (gL M v2).bind fun v4 =>
  (f_J9_min_7cf53 v3 ((v4 >>> (v1 &&& 31))) M).bind fun r5 =>
  (f_J0_checkIndex_df160 i1 r5.1 r5.2).bind fun r6 =>
  if v1 = 0 then
  (lA 1 r6.2 v2 i1).bind fun v7 =>
  if vp_nar .char (((((v7 &&& ((255 : Int32)))).toUInt32 % 65536).toInt32)) = (((((v7 &&& ((255 : Int32)))).toUInt32 % 65536).toInt32)) then some (((((v7 &&& ((255 : Int32)))).toUInt32 % 65536).toInt32), r6.2) else none
  else
  none
set_option maxRecDepth 20000 in
set_option maxHeartbeats 4000000 in
theorem s_J5_charAt_5068e_0 {L : zL} {X : zX} {M0 : zM} {N : Nat × Nat} {Q : State → Prop} {r : Int32 × zM} (hq : vQ L X M0 N Q (some (.int r.1)) r.2) {a0 : Nat} {i1 : Int32} {M : zM} (h : f_J5_charAt_5068e_0 a0 i1 M = some r) : V L X yJ5_charAt_5068e cJ5_charAt_5068e 5 (some FieldType.char) 3 M0 N Q M 0 [(0, .ref (zad L (a0))), (1, .int (i1))] [] := by
  unfold f_J5_charAt_5068e_0 at h
  refine V_aload_n dJ5_charAt_5068e_0 rfl 0 rfl ?_
  replace h := ob h
  obtain ⟨v1, e_v1, h⟩ := h
  refine V_getI zf_2_1 zl_J5_22 e_v1 dJ5_charAt_5068e_1 ?_
  refine V_pc (pc' := 4) rfl ?_
  refine V_istore_n (ls' := [(2, .int (v1)), (0, .ref (zad L (a0))), (1, .int (i1))]) dJ5_charAt_5068e_4 rfl (by decide) rfl ?_
  refine V_aload_n dJ5_charAt_5068e_5 rfl 1 rfl ?_
  replace h := ob h
  obtain ⟨v2, e_v2, h⟩ := h
  refine V_getR zf_2_0 zl_J5_15 e_v2 dJ5_charAt_5068e_6 ?_
  refine V_pc (pc' := 9) rfl ?_
  refine V_astore_n (ls' := [(3, .ref (zad L (v2))), (2, .int (v1)), (0, .ref (zad L (a0))), (1, .int (i1))]) dJ5_charAt_5068e_9 rfl (by decide) rfl ?_
  refine V_aload_n dJ5_charAt_5068e_10 rfl 2 rfl ?_
  replace h := ob h
  obtain ⟨v3, e_v3, h⟩ := h
  refine V_getI zf_2_3 zl_J5_79 e_v3 dJ5_charAt_5068e_11 ?_
  refine V_pc (pc' := 14) rfl ?_
  refine V_aload_n dJ5_charAt_5068e_14 rfl 0 rfl ?_
  replace h := ob h
  obtain ⟨v4, e_v4, h⟩ := h
  refine V_alen e_v4 dJ5_charAt_5068e_15 ?_
  refine V_pc (pc' := 16) rfl ?_
  refine V_iload_n dJ5_charAt_5068e_16 rfl 1 rfl ?_
  refine V_ishr dJ5_charAt_5068e_17 ?_
  replace h := ob h
  obtain ⟨r5, e_r5, h⟩ := h
  refine V_callS_I (As := [.int (v3), .int ((v4 >>> (v1 &&& 31)))]) (rest := []) (c_J9_min_7cf53 e_r5) zc_J9_min_7cf53 rfl (by decide) zm_J5_138 (Nat.le_of_ble_eq_true rfl) rfl dJ5_charAt_5068e_18 ?_
  refine V_pc (pc' := 21) rfl ?_
  refine V_istore (ls' := [(4, .int (r5.1)), (3, .ref (zad L (v2))), (2, .int (v1)), (0, .ref (zad L (a0))), (1, .int (i1))]) dJ5_charAt_5068e_21 (by decide) rfl ?_
  refine V_iload_n dJ5_charAt_5068e_23 rfl 4 rfl ?_
  refine V_iload dJ5_charAt_5068e_24 0 rfl ?_
  replace h := ob h
  obtain ⟨r6, e_r6, h⟩ := h
  refine V_callS_V (As := [.int (i1), .int (r5.1)]) (rest := []) (c_J0_checkIndex_df160 e_r6) zc_J0_checkIndex_df160 rfl (by decide) zm_J5_144 (Nat.le_of_ble_eq_true rfl) rfl dJ5_charAt_5068e_26 ?_
  refine V_pc (pc' := 29) rfl ?_
  refine V_iload_n dJ5_charAt_5068e_29 rfl 2 rfl ?_
  refine V_if_ne (tgt := 42) dJ5_charAt_5068e_30 (by decide) (fun c9 => ?_) (fun c9 => ?_)
  · replace h := (oi h).2 c9
    refine V_aload_n dJ5_charAt_5068e_42 rfl 1 rfl ?_
    refine V_iload_n dJ5_charAt_5068e_43 rfl 4 rfl ?_
    cases h
  · replace h := (oi h).1 c9
    refine V_aload_n dJ5_charAt_5068e_33 rfl 1 rfl ?_
    refine V_iload_n dJ5_charAt_5068e_34 rfl 4 rfl ?_
    replace h := ob h
    obtain ⟨v7, e_v7, h⟩ := h
    refine V_bald e_v7 dJ5_charAt_5068e_35 ?_
    refine V_pc (pc' := 36) rfl ?_
    refine V_sipush (v := 255) dJ5_charAt_5068e_36 (by decide) ?_
    refine V_iand dJ5_charAt_5068e_39 ?_
    refine V_i2c dJ5_charAt_5068e_40 ?_
    replace h := ox h
    obtain ⟨c8, h⟩ := h
    obtain rfl := Option.some.inj h
    exact V_zret (ty := .char) rfl (zna_char c8) hq dJ5_charAt_5068e_41
def f_J5_charAt_5068e (a0 : Nat) (i1 : Int32) (M : zM) : Option (Int32 × zM) := f_J5_charAt_5068e_0 a0 i1 M
theorem c_J5_charAt_5068e {L : zL} {l : Launch} {a0 : Nat} {i1 : Int32} {M : zM} {r : Int32 × zM} (h : f_J5_charAt_5068e a0 i1 M = some r) : CP L l yJ5_charAt_5068e cJ5_charAt_5068e 5 (some FieldType.char) 3 M [.ref (zad L (a0)), .int (i1)] (some (.int r.1)) r.2 :=
  CP.of ⟨by decide +kernel, by decide +kernel⟩ (Nat.le_of_ble_eq_true rfl) fun X Q hq => s_J5_charAt_5068e_0 hq h
/-! java/lang/StringBuilder.charAt(I)C -/
theorem dJ4_charAt_5068e_0 : decode cJ4_charAt_5068e 0 = .ok (.aload_n 0, 1) := by decide +kernel
theorem dJ4_charAt_5068e_1 : decode cJ4_charAt_5068e 1 = .ok (.iload_n 1, 1) := by decide +kernel
theorem dJ4_charAt_5068e_2 : decode cJ4_charAt_5068e 2 = .ok (.invokespecial 329, 3) := by decide +kernel
theorem dJ4_charAt_5068e_5 : decode cJ4_charAt_5068e 5 = .ok (.ireturn, 1) := by decide +kernel
def f_J4_charAt_5068e_0 (a0 : Nat) (i1 : Int32) (M : zM) : Option (Int32 × zM) :=
  if mK M a0 = 2 then
  (f_J5_charAt_5068e a0 i1 M).bind fun r1 =>
  if vp_nar .char r1.1 = r1.1 then some (r1.1, r1.2) else none
  else none
set_option maxRecDepth 20000 in
set_option maxHeartbeats 4000000 in
theorem s_J4_charAt_5068e_0 {L : zL} {X : zX} {M0 : zM} {N : Nat × Nat} {Q : State → Prop} {r : Int32 × zM} (hq : vQ L X M0 N Q (some (.int r.1)) r.2) {a0 : Nat} {i1 : Int32} {M : zM} (h : f_J4_charAt_5068e_0 a0 i1 M = some r) : V L X yJ4_charAt_5068e cJ4_charAt_5068e 2 (some FieldType.char) 4 M0 N Q M 0 [(0, .ref (zad L (a0))), (1, .int (i1))] [] := by
  unfold f_J4_charAt_5068e_0 at h
  refine V_aload_n dJ4_charAt_5068e_0 rfl 0 rfl ?_
  refine V_iload_n dJ4_charAt_5068e_1 rfl 1 rfl ?_
  replace h := ox h
  obtain ⟨c2, h⟩ := h
  replace h := ob h
  obtain ⟨r1, e_r1, h⟩ := h
  refine V_callU_I (As := [.int (i1)]) (rest := []) (c_J5_charAt_5068e e_r1) zc_J5_charAt_5068e rfl (by decide) rfl (by decide) (Or.inl c2) zm_J4_329 (Nat.le_of_ble_eq_true rfl) rfl dJ4_charAt_5068e_2 ?_
  refine V_pc (pc' := 5) rfl ?_
  replace h := ox h
  obtain ⟨c3, h⟩ := h
  obtain rfl := Option.some.inj h
  exact V_zret (ty := .char) rfl (zna_char c3) hq dJ4_charAt_5068e_5
def f_J4_charAt_5068e (a0 : Nat) (i1 : Int32) (M : zM) : Option (Int32 × zM) := f_J4_charAt_5068e_0 a0 i1 M
theorem c_J4_charAt_5068e {L : zL} {l : Launch} {a0 : Nat} {i1 : Int32} {M : zM} {r : Int32 × zM} (h : f_J4_charAt_5068e a0 i1 M = some r) : CP L l yJ4_charAt_5068e cJ4_charAt_5068e 2 (some FieldType.char) 4 M [.ref (zad L (a0)), .int (i1)] (some (.int r.1)) r.2 :=
  CP.of ⟨by decide +kernel, by decide +kernel⟩ (Nat.le_of_ble_eq_true rfl) fun X Q hq => s_J4_charAt_5068e_0 hq h
