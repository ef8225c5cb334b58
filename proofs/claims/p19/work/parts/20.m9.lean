/-! ===== METHODS, by program ===== -/
/-! WindsparlourModel.claim(III)I -/
theorem dX7_claim_0 : decode cX7_claim 0 = .ok (.aload_n 0, 1) := by decide +kernel
theorem dX7_claim_1 : decode cX7_claim 1 = .ok (.iload_n 1, 1) := by decide +kernel
theorem dX7_claim_2 : decode cX7_claim 2 = .ok (.invokestatic 174, 3) := by decide +kernel
theorem dX7_claim_5 : decode cX7_claim 5 = .ok (.iconst 1, 1) := by decide +kernel
theorem dX7_claim_6 : decode cX7_claim 6 = .ok (.invokevirtual 85, 3) := by decide +kernel
theorem dX7_claim_9 : decode cX7_claim 9 = .ok (.ifCond .ne 48, 3) := by decide +kernel
theorem dX7_claim_12 : decode cX7_claim 12 = .ok (.aload_n 0, 1) := by decide +kernel
theorem dX7_claim_13 : decode cX7_claim 13 = .ok (.iload_n 2, 1) := by decide +kernel
theorem dX7_claim_14 : decode cX7_claim 14 = .ok (.iconst 0, 1) := by decide +kernel
theorem dX7_claim_15 : decode cX7_claim 15 = .ok (.iconst 2, 1) := by decide +kernel
theorem dX7_claim_16 : decode cX7_claim 16 = .ok (.invokestatic 3, 3) := by decide +kernel
theorem dX7_claim_19 : decode cX7_claim 19 = .ok (.ifCond .ne 7, 3) := by decide +kernel
theorem dX7_claim_22 : decode cX7_claim 22 = .ok (.iconst 1, 1) := by decide +kernel
theorem dX7_claim_23 : decode cX7_claim 23 = .ok (.goto 4, 3) := by decide +kernel
theorem dX7_claim_26 : decode cX7_claim 26 = .ok (.iconst 0, 1) := by decide +kernel
theorem dX7_claim_27 : decode cX7_claim 27 = .ok (.iconst 2, 1) := by decide +kernel
theorem dX7_claim_28 : decode cX7_claim 28 = .ok (.invokevirtual 68, 3) := by decide +kernel
theorem dX7_claim_31 : decode cX7_claim 31 = .ok (.ifCond .ne 26, 3) := by decide +kernel
theorem dX7_claim_34 : decode cX7_claim 34 = .ok (.aload_n 0, 1) := by decide +kernel
theorem dX7_claim_35 : decode cX7_claim 35 = .ok (.aload_n 0, 1) := by decide +kernel
theorem dX7_claim_36 : decode cX7_claim 36 = .ok (.iload_n 1, 1) := by decide +kernel
theorem dX7_claim_37 : decode cX7_claim 37 = .ok (.iload_n 2, 1) := by decide +kernel
theorem dX7_claim_38 : decode cX7_claim 38 = .ok (.iload_n 3, 1) := by decide +kernel
theorem dX7_claim_39 : decode cX7_claim 39 = .ok (.invokevirtual 177, 3) := by decide +kernel
theorem dX7_claim_42 : decode cX7_claim 42 = .ok (.ifCond .ne 7, 3) := by decide +kernel
theorem dX7_claim_45 : decode cX7_claim 45 = .ok (.iconst 1, 1) := by decide +kernel
theorem dX7_claim_46 : decode cX7_claim 46 = .ok (.goto 4, 3) := by decide +kernel
theorem dX7_claim_49 : decode cX7_claim 49 = .ok (.iconst 0, 1) := by decide +kernel
theorem dX7_claim_50 : decode cX7_claim 50 = .ok (.iconst 3, 1) := by decide +kernel
theorem dX7_claim_51 : decode cX7_claim 51 = .ok (.invokevirtual 68, 3) := by decide +kernel
theorem dX7_claim_54 : decode cX7_claim 54 = .ok (.ifCond .eq 5, 3) := by decide +kernel
theorem dX7_claim_57 : decode cX7_claim 57 = .ok (.iconst 0, 1) := by decide +kernel
theorem dX7_claim_58 : decode cX7_claim 58 = .ok (.ireturn, 1) := by decide +kernel
theorem dX7_claim_59 : decode cX7_claim 59 = .ok (.aload_n 0, 1) := by decide +kernel
theorem dX7_claim_60 : decode cX7_claim 60 = .ok (.invokevirtual 180, 3) := by decide +kernel
theorem dX7_claim_63 : decode cX7_claim 63 = .ok (.aload_n 0, 1) := by decide +kernel
theorem dX7_claim_64 : decode cX7_claim 64 = .ok (.getfield 38, 3) := by decide +kernel
theorem dX7_claim_67 : decode cX7_claim 67 = .ok (.iload_n 1, 1) := by decide +kernel
theorem dX7_claim_68 : decode cX7_claim 68 = .ok (.aaload, 1) := by decide +kernel
theorem dX7_claim_69 : decode cX7_claim 69 = .ok (.astore 4, 2) := by decide +kernel
theorem dX7_claim_71 : decode cX7_claim 71 = .ok (.aload 4, 2) := by decide +kernel
theorem dX7_claim_73 : decode cX7_claim 73 = .ok (.getfield 94, 3) := by decide +kernel
theorem dX7_claim_76 : decode cX7_claim 76 = .ok (.aload_n 0, 1) := by decide +kernel
theorem dX7_claim_77 : decode cX7_claim 77 = .ok (.getfield 62, 3) := by decide +kernel
theorem dX7_claim_80 : decode cX7_claim 80 = .ok (.dup2, 1) := by decide +kernel
theorem dX7_claim_81 : decode cX7_claim 81 = .ok (.iaload, 1) := by decide +kernel
theorem dX7_claim_82 : decode cX7_claim 82 = .ok (.iconst 1, 1) := by decide +kernel
theorem dX7_claim_83 : decode cX7_claim 83 = .ok (.iadd, 1) := by decide +kernel
theorem dX7_claim_84 : decode cX7_claim 84 = .ok (.iastore, 1) := by decide +kernel
theorem dX7_claim_85 : decode cX7_claim 85 = .ok (.iload_n 2, 1) := by decide +kernel
theorem dX7_claim_86 : decode cX7_claim 86 = .ok (.iconst 1, 1) := by decide +kernel
theorem dX7_claim_87 : decode cX7_claim 87 = .ok (.if_icmp .ne 7, 3) := by decide +kernel
theorem dX7_claim_90 : decode cX7_claim 90 = .ok (.iload_n 3, 1) := by decide +kernel
theorem dX7_claim_91 : decode cX7_claim 91 = .ok (.goto 7, 3) := by decide +kernel
theorem dX7_claim_94 : decode cX7_claim 94 = .ok (.aload_n 0, 1) := by decide +kernel
theorem dX7_claim_95 : decode cX7_claim 95 = .ok (.getfield 62, 3) := by decide +kernel
theorem dX7_claim_98 : decode cX7_claim 98 = .ok (.istore 5, 2) := by decide +kernel
theorem dX7_claim_100 : decode cX7_claim 100 = .ok (.aload 4, 2) := by decide +kernel
theorem dX7_claim_102 : decode cX7_claim 102 = .ok (.getfield 183, 3) := by decide +kernel
theorem dX7_claim_105 : decode cX7_claim 105 = .ok (.new 186, 3) := by decide +kernel
theorem dX7_claim_108 : decode cX7_claim 108 = .ok (.dup, 1) := by decide +kernel
theorem dX7_claim_109 : decode cX7_claim 109 = .ok (.iload 5, 2) := by decide +kernel
theorem dX7_claim_111 : decode cX7_claim 111 = .ok (.iload_n 2, 1) := by decide +kernel
theorem dX7_claim_112 : decode cX7_claim 112 = .ok (.invokespecial 188, 3) := by decide +kernel
theorem dX7_claim_115 : decode cX7_claim 115 = .ok (.invokevirtual 134, 3) := by decide +kernel
theorem dX7_claim_118 : decode cX7_claim 118 = .ok (.pop, 1) := by decide +kernel
theorem dX7_claim_119 : decode cX7_claim 119 = .ok (.iconst 0, 1) := by decide +kernel
theorem dX7_claim_120 : decode cX7_claim 120 = .ok (.istore 6, 2) := by decide +kernel
theorem dX7_claim_122 : decode cX7_claim 122 = .ok (.iload 6, 2) := by decide +kernel
theorem dX7_claim_124 : decode cX7_claim 124 = .ok (.iload_n 2, 1) := by decide +kernel
theorem dX7_claim_125 : decode cX7_claim 125 = .ok (.iconst 2, 1) := by decide +kernel
theorem dX7_claim_126 : decode cX7_claim 126 = .ok (.if_icmp .ne 7, 3) := by decide +kernel
theorem dX7_claim_129 : decode cX7_claim 129 = .ok (.iconst 4, 1) := by decide +kernel
theorem dX7_claim_130 : decode cX7_claim 130 = .ok (.goto 4, 3) := by decide +kernel
theorem dX7_claim_133 : decode cX7_claim 133 = .ok (.iconst 3, 1) := by decide +kernel
theorem dX7_claim_134 : decode cX7_claim 134 = .ok (.if_icmp .ge 34, 3) := by decide +kernel
theorem dX7_claim_137 : decode cX7_claim 137 = .ok (.aload 4, 2) := by decide +kernel
theorem dX7_claim_139 : decode cX7_claim 139 = .ok (.getfield 94, 3) := by decide +kernel
theorem dX7_claim_142 : decode cX7_claim 142 = .ok (.iload_n 2, 1) := by decide +kernel
theorem dX7_claim_143 : decode cX7_claim 143 = .ok (.iconst 1, 1) := by decide +kernel
theorem dX7_claim_144 : decode cX7_claim 144 = .ok (.if_icmp .ne 11, 3) := by decide +kernel
theorem dX7_claim_147 : decode cX7_claim 147 = .ok (.iload 5, 2) := by decide +kernel
theorem dX7_claim_149 : decode cX7_claim 149 = .ok (.iload 6, 2) := by decide +kernel
theorem dX7_claim_151 : decode cX7_claim 151 = .ok (.iadd, 1) := by decide +kernel
theorem dX7_claim_152 : decode cX7_claim 152 = .ok (.goto 5, 3) := by decide +kernel
theorem dX7_claim_155 : decode cX7_claim 155 = .ok (.iload 5, 2) := by decide +kernel
theorem dX7_claim_157 : decode cX7_claim 157 = .ok (.dup2, 1) := by decide +kernel
theorem dX7_claim_158 : decode cX7_claim 158 = .ok (.iaload, 1) := by decide +kernel
theorem dX7_claim_159 : decode cX7_claim 159 = .ok (.iconst 1, 1) := by decide +kernel
theorem dX7_claim_160 : decode cX7_claim 160 = .ok (.isub, 1) := by decide +kernel
theorem dX7_claim_161 : decode cX7_claim 161 = .ok (.iastore, 1) := by decide +kernel
theorem dX7_claim_162 : decode cX7_claim 162 = .ok (.iinc 6 1, 3) := by decide +kernel
theorem dX7_claim_165 : decode cX7_claim 165 = .ok (.goto (-43), 3) := by decide +kernel
theorem dX7_claim_168 : decode cX7_claim 168 = .ok (.aload_n 0, 1) := by decide +kernel
theorem dX7_claim_169 : decode cX7_claim 169 = .ok (.iload_n 1, 1) := by decide +kernel
theorem dX7_claim_170 : decode cX7_claim 170 = .ok (.putfield 82, 3) := by decide +kernel
theorem dX7_claim_173 : decode cX7_claim 173 = .ok (.aload_n 0, 1) := by decide +kernel
theorem dX7_claim_174 : decode cX7_claim 174 = .ok (.iconst (-1), 1) := by decide +kernel
theorem dX7_claim_175 : decode cX7_claim 175 = .ok (.putfield 59, 3) := by decide +kernel
theorem dX7_claim_178 : decode cX7_claim 178 = .ok (.aload_n 0, 1) := by decide +kernel
theorem dX7_claim_179 : decode cX7_claim 179 = .ok (.iconst 1, 1) := by decide +kernel
theorem dX7_claim_180 : decode cX7_claim 180 = .ok (.putfield 50, 3) := by decide +kernel
theorem dX7_claim_183 : decode cX7_claim 183 = .ok (.iload_n 2, 1) := by decide +kernel
theorem dX7_claim_184 : decode cX7_claim 184 = .ok (.iconst 2, 1) := by decide +kernel
theorem dX7_claim_185 : decode cX7_claim 185 = .ok (.if_icmp .ne 8, 3) := by decide +kernel
theorem dX7_claim_188 : decode cX7_claim 188 = .ok (.aload_n 0, 1) := by decide +kernel
theorem dX7_claim_189 : decode cX7_claim 189 = .ok (.invokevirtual 191, 3) := by decide +kernel
theorem dX7_claim_192 : decode cX7_claim 192 = .ok (.pop, 1) := by decide +kernel
theorem dX7_claim_193 : decode cX7_claim 193 = .ok (.aload 4, 2) := by decide +kernel
theorem dX7_claim_195 : decode cX7_claim 195 = .ok (.getfield 183, 3) := by decide +kernel
theorem dX7_claim_198 : decode cX7_claim 198 = .ok (.invokevirtual 144, 3) := by decide +kernel
theorem dX7_claim_201 : decode cX7_claim 201 = .ok (.ireturn, 1) := by decide +kernel
def f_X7_claim_193 (a4 : Nat) (M : zM) : Option (Int32 × zM) :=
  (gR 12 3 M a4).bind fun v1 =>
  if mK M v1 = 5 then
  (f_Jx4a65c_size_8abf5 v1 M).bind fun r2 =>
  some (r2.1, r2.2)
  else none
set_option maxRecDepth 20000 in
set_option maxHeartbeats 4000000 in
theorem s_X7_claim_193 {L : zL} {X : zX} {M0 : zM} {N : Nat × Nat} {Q : State → Prop} {r : Int32 × zM} (hq : vQ L X M0 N Q (some (.int r.1)) r.2) {a4 : Nat} {M : zM} (h : f_X7_claim_193 a4 M = some r) : V L X yX7_claim cX7_claim 7 (some FieldType.int) 8 M0 N Q M 193 [(4, .ref (zad L (a4)))] [] := by
  unfold f_X7_claim_193 at h
  refine V_aload dX7_claim_193 0 rfl ?_
  replace h := ob h
  obtain ⟨v1, e_v1, h⟩ := h
  refine V_getR zf_12_3 zl_X7_183 e_v1 dX7_claim_195 ?_
  refine V_pc (pc' := 198) rfl ?_
  replace h := ox h
  obtain ⟨c3, h⟩ := h
  replace h := ob h
  obtain ⟨r2, e_r2, h⟩ := h
  refine V_callV_I (As := []) (rest := []) (c_Jx4a65c_size_8abf5 e_r2) zc_Jx4a65c_size_8abf5 rfl (by decide) rfl (by decide) (Or.inl c3) zm_X7_144 (Nat.le_of_ble_eq_true rfl) rfl dX7_claim_198 ?_
  refine V_pc (pc' := 201) rfl ?_
  obtain rfl := Option.some.inj h
  exact V_iret rfl hq dX7_claim_201
def f_X7_claim_157 (K122 : Nat → Int32 → Int32 → Nat → Int32 → Int32 → zM → Option (Int32 × zM)) (a0 : Nat) (i1 : Int32) (i2 : Int32) (a4 : Nat) (i5 : Int32) (i6 : Int32) (i_0 : Int32) (a_1 : Nat) (M : zM) : Option (Int32 × zM) :=
  (lA 0 M a_1 i_0).bind fun v1 =>
  (tA M a_1 i_0 ((v1 - ((1 : Int32))))).bind fun M2 =>
  K122 a0 i1 i2 a4 i5 ((i6 + (1 : Int32))) M2
set_option maxRecDepth 20000 in
set_option maxHeartbeats 4000000 in
theorem s_X7_claim_157 {L : zL} {X : zX} {M0 : zM} {N : Nat × Nat} {Q : State → Prop} {r : Int32 × zM} {K122 : Nat → Int32 → Int32 → Nat → Int32 → Int32 → zM → Option (Int32 × zM)} (hK122 : ∀ (a0 : Nat) (i1 : Int32) (i2 : Int32) (a4 : Nat) (i5 : Int32) (i6 : Int32) (M : zM), K122 a0 i1 i2 a4 i5 i6 M = some r → V L X yX7_claim cX7_claim 7 (some FieldType.int) 8 M0 N Q M 122 [(0, .ref (zad L (a0))), (1, .int (i1)), (2, .int (i2)), (4, .ref (zad L (a4))), (5, .int (i5)), (6, .int (i6))] []) (hq : vQ L X M0 N Q (some (.int r.1)) r.2) {a0 : Nat} {i1 : Int32} {i2 : Int32} {a4 : Nat} {i5 : Int32} {i6 : Int32} {i_0 : Int32} {a_1 : Nat} {M : zM} (h : f_X7_claim_157 K122 a0 i1 i2 a4 i5 i6 i_0 a_1 M = some r) : V L X yX7_claim cX7_claim 7 (some FieldType.int) 8 M0 N Q M 157 [(0, .ref (zad L (a0))), (1, .int (i1)), (2, .int (i2)), (4, .ref (zad L (a4))), (5, .int (i5)), (6, .int (i6))] [.int (i_0), .ref (zad L (a_1))] := by
  unfold f_X7_claim_157 at h
  refine V_dup2 dX7_claim_157 rfl rfl ?_
  replace h := ob h
  obtain ⟨v1, e_v1, h⟩ := h
  refine V_iald e_v1 dX7_claim_158 ?_
  refine V_pc (pc' := 159) rfl ?_
  refine V_iconst (v := 1) dX7_claim_159 (by decide) ?_
  refine V_isub dX7_claim_160 ?_
  replace h := ob h
  obtain ⟨M2, e_M2, h⟩ := h
  refine V_iast e_M2 dX7_claim_161 ?_
  refine V_iinc (v := i6 + (1 : Int32)) (ls' := [(6, .int ((i6 + (1 : Int32)))), (0, .ref (zad L (a0))), (1, .int (i1)), (2, .int (i2)), (4, .ref (zad L (a4))), (5, .int (i5))]) dX7_claim_162 5 rfl (by rfl) (by decide) rfl ?_
  refine V_goto (tgt := 122) dX7_claim_165 (by decide) ?_
  refine V_sub [1, 2, 3, 4, 5, 0] rfl ?_
  exact hK122 _ _ _ _ _ _ _ h
def f_X7_claim_134 (K122 : Nat → Int32 → Int32 → Nat → Int32 → Int32 → zM → Option (Int32 × zM)) (a0 : Nat) (i1 : Int32) (i2 : Int32) (a4 : Nat) (i5 : Int32) (i6 : Int32) (i_0 : Int32) (i_1 : Int32) (M : zM) : Option (Int32 × zM) :=
  if i_0 ≤ i_1 then
  (pI 13 7 M a0 i1).bind fun M1 =>
  (pI 13 13 M1 a0 ((-1 : Int32))).bind fun M2 =>
  (pI 13 6 M2 a0 ((1 : Int32))).bind fun M3 =>
  if i2 = ((2 : Int32)) then
  if mK M3 a0 = 13 then
  (f_X7_drawLast a0 M3).bind fun r4 =>
  f_X7_claim_193 a4 r4.2
  else none
  else
  f_X7_claim_193 a4 M3
  else
  (gR 12 2 M a4).bind fun v7 =>
  if i2 = ((1 : Int32)) then
  f_X7_claim_157 K122 a0 i1 i2 a4 i5 i6 ((i5 + i6)) v7 M
  else
  f_X7_claim_157 K122 a0 i1 i2 a4 i5 i6 i5 v7 M
set_option maxRecDepth 20000 in
set_option maxHeartbeats 4000000 in
theorem s_X7_claim_134 {L : zL} {X : zX} {M0 : zM} {N : Nat × Nat} {Q : State → Prop} {r : Int32 × zM} {K122 : Nat → Int32 → Int32 → Nat → Int32 → Int32 → zM → Option (Int32 × zM)} (hK122 : ∀ (a0 : Nat) (i1 : Int32) (i2 : Int32) (a4 : Nat) (i5 : Int32) (i6 : Int32) (M : zM), K122 a0 i1 i2 a4 i5 i6 M = some r → V L X yX7_claim cX7_claim 7 (some FieldType.int) 8 M0 N Q M 122 [(0, .ref (zad L (a0))), (1, .int (i1)), (2, .int (i2)), (4, .ref (zad L (a4))), (5, .int (i5)), (6, .int (i6))] []) (hq : vQ L X M0 N Q (some (.int r.1)) r.2) {a0 : Nat} {i1 : Int32} {i2 : Int32} {a4 : Nat} {i5 : Int32} {i6 : Int32} {i_0 : Int32} {i_1 : Int32} {M : zM} (h : f_X7_claim_134 K122 a0 i1 i2 a4 i5 i6 i_0 i_1 M = some r) : V L X yX7_claim cX7_claim 7 (some FieldType.int) 8 M0 N Q M 134 [(0, .ref (zad L (a0))), (1, .int (i1)), (2, .int (i2)), (4, .ref (zad L (a4))), (5, .int (i5)), (6, .int (i6))] [.int (i_0), .int (i_1)] := by
  unfold f_X7_claim_134 at h
  refine V_icmp_ge (tgt := 168) dX7_claim_134 (by decide) (fun c9 => ?_) (fun c9 => ?_)
  · replace h := (oi h).1 c9
    refine V_aload_n dX7_claim_168 rfl 0 rfl ?_
    refine V_iload_n dX7_claim_169 rfl 1 rfl ?_
    replace h := ob h
    obtain ⟨M1, e_M1, h⟩ := h
    refine V_putI zf_13_7 zl_X7_82 (Or.inl rfl) rfl e_M1 dX7_claim_170 ?_
    refine V_pc (pc' := 173) rfl ?_
    refine V_aload_n dX7_claim_173 rfl 0 rfl ?_
    refine V_iconst (v := -1) dX7_claim_174 (by decide) ?_
    replace h := ob h
    obtain ⟨M2, e_M2, h⟩ := h
    refine V_putI zf_13_13 zl_X7_59 (Or.inl rfl) rfl e_M2 dX7_claim_175 ?_
    refine V_pc (pc' := 178) rfl ?_
    refine V_aload_n dX7_claim_178 rfl 0 rfl ?_
    refine V_iconst (v := 1) dX7_claim_179 (by decide) ?_
    replace h := ob h
    obtain ⟨M3, e_M3, h⟩ := h
    refine V_putI zf_13_6 zl_X7_50 (Or.inl rfl) rfl e_M3 dX7_claim_180 ?_
    refine V_pc (pc' := 183) rfl ?_
    refine V_iload_n dX7_claim_183 rfl 2 rfl ?_
    refine V_iconst (v := 2) dX7_claim_184 (by decide) ?_
    refine V_icmp_ne (tgt := 193) dX7_claim_185 (by decide) (fun c6 => ?_) (fun c6 => ?_)
    · replace h := (oi h).2 c6
      refine V_sub [3] rfl ?_
      exact s_X7_claim_193 hq h
    · replace h := (oi h).1 c6
      refine V_aload_n dX7_claim_188 rfl 0 rfl ?_
      replace h := ox h
      obtain ⟨c5, h⟩ := h
      replace h := ob h
      obtain ⟨r4, e_r4, h⟩ := h
      refine V_callV_I (As := []) (rest := []) (c_X7_drawLast e_r4) zc_X7_drawLast rfl (by decide) rfl (by decide) (Or.inl c5) zm_X7_191 (Nat.le_of_ble_eq_true rfl) rfl dX7_claim_189 ?_
      refine V_pc (pc' := 192) rfl ?_
      refine V_pop dX7_claim_192 rfl ?_
      refine V_sub [3] rfl ?_
      exact s_X7_claim_193 hq h
  · replace h := (oi h).2 c9
    refine V_aload dX7_claim_137 3 rfl ?_
    replace h := ob h
    obtain ⟨v7, e_v7, h⟩ := h
    refine V_getR zf_12_2 zl_X7_94 e_v7 dX7_claim_139 ?_
    refine V_pc (pc' := 142) rfl ?_
    refine V_iload_n dX7_claim_142 rfl 2 rfl ?_
    refine V_iconst (v := 1) dX7_claim_143 (by decide) ?_
    refine V_icmp_ne (tgt := 155) dX7_claim_144 (by decide) (fun c8 => ?_) (fun c8 => ?_)
    · replace h := (oi h).2 c8
      refine V_iload dX7_claim_155 4 rfl ?_
      exact s_X7_claim_157 hK122 hq h
    · replace h := (oi h).1 c8
      refine V_iload dX7_claim_147 4 rfl ?_
      refine V_iload dX7_claim_149 5 rfl ?_
      refine V_iadd dX7_claim_151 ?_
      refine V_goto (tgt := 157) dX7_claim_152 (by decide) ?_
      exact s_X7_claim_157 hK122 hq h
def f_X7_claim_122 (n : Nat) (a0 : Nat) (i1 : Int32) (i2 : Int32) (a4 : Nat) (i5 : Int32) (i6 : Int32) (M : zM) : Option (Int32 × zM) := match n with
  | 0 => none
  | n + 1 =>
    if i2 = ((2 : Int32)) then
    f_X7_claim_134 (f_X7_claim_122 n) a0 i1 i2 a4 i5 i6 ((4 : Int32)) i6 M
    else
    f_X7_claim_134 (f_X7_claim_122 n) a0 i1 i2 a4 i5 i6 ((3 : Int32)) i6 M
set_option maxRecDepth 20000 in
set_option maxHeartbeats 4000000 in
theorem s_X7_claim_122 {L : zL} {X : zX} {M0 : zM} {N : Nat × Nat} {Q : State → Prop} {r : Int32 × zM} (hq : vQ L X M0 N Q (some (.int r.1)) r.2) {n : Nat} {a0 : Nat} {i1 : Int32} {i2 : Int32} {a4 : Nat} {i5 : Int32} {i6 : Int32} {M : zM} : f_X7_claim_122 n a0 i1 i2 a4 i5 i6 M = some r → V L X yX7_claim cX7_claim 7 (some FieldType.int) 8 M0 N Q M 122 [(0, .ref (zad L (a0))), (1, .int (i1)), (2, .int (i2)), (4, .ref (zad L (a4))), (5, .int (i5)), (6, .int (i6))] [] := by
  induction n generalizing a0 i1 i2 a4 i5 i6 M with
  | zero =>
    intro h
    rw [f_X7_claim_122] at h
    cases h
  | succ n ih0 =>
    intro h
    have ih : ∀ (a0 : Nat) (i1 : Int32) (i2 : Int32) (a4 : Nat) (i5 : Int32) (i6 : Int32) (M : zM), f_X7_claim_122 n a0 i1 i2 a4 i5 i6 M = some r → V L X yX7_claim cX7_claim 7 (some FieldType.int) 8 M0 N Q M 122 [(0, .ref (zad L (a0))), (1, .int (i1)), (2, .int (i2)), (4, .ref (zad L (a4))), (5, .int (i5)), (6, .int (i6))] [] := fun a0 i1 i2 a4 i5 i6 M h => ih0 h
    rw [f_X7_claim_122] at h
    refine V_iload dX7_claim_122 5 rfl ?_
    refine V_iload_n dX7_claim_124 rfl 2 rfl ?_
    refine V_iconst (v := 2) dX7_claim_125 (by decide) ?_
    refine V_icmp_ne (tgt := 133) dX7_claim_126 (by decide) (fun c1 => ?_) (fun c1 => ?_)
    · replace h := (oi h).2 c1
      refine V_iconst (v := 3) dX7_claim_133 (by decide) ?_
      exact s_X7_claim_134 ih hq h
    · replace h := (oi h).1 c1
      refine V_iconst (v := 4) dX7_claim_129 (by decide) ?_
      refine V_goto (tgt := 134) dX7_claim_130 (by decide) ?_
      exact s_X7_claim_134 ih hq h
def f_X7_claim_98 (a0 : Nat) (i1 : Int32) (i2 : Int32) (a4 : Nat) (i_0 : Int32) (M : zM) : Option (Int32 × zM) :=
  (gR 12 3 M a4).bind fun v1 =>
  (f_X5_init (mX M) i_0 i2 (nO M 11 2)).bind fun r2 =>
  if mK r2.2 v1 = 5 then
  (f_Jx4a65c_add_9ea2d v1 (mX M) r2.2).bind fun r3 =>
  f_X7_claim_122 zN a0 i1 i2 a4 i_0 ((0 : Int32)) r3.2
  else none
set_option maxRecDepth 20000 in
set_option maxHeartbeats 4000000 in
theorem s_X7_claim_98 {L : zL} {X : zX} {M0 : zM} {N : Nat × Nat} {Q : State → Prop} {r : Int32 × zM} (hq : vQ L X M0 N Q (some (.int r.1)) r.2) {a0 : Nat} {i1 : Int32} {i2 : Int32} {a4 : Nat} {i_0 : Int32} {M : zM} (h : f_X7_claim_98 a0 i1 i2 a4 i_0 M = some r) : V L X yX7_claim cX7_claim 7 (some FieldType.int) 8 M0 N Q M 98 [(0, .ref (zad L (a0))), (1, .int (i1)), (2, .int (i2)), (4, .ref (zad L (a4)))] [.int (i_0)] := by
  unfold f_X7_claim_98 at h
  refine V_istore (ls' := [(5, .int (i_0)), (0, .ref (zad L (a0))), (1, .int (i1)), (2, .int (i2)), (4, .ref (zad L (a4)))]) dX7_claim_98 (by decide) rfl ?_
  refine V_aload dX7_claim_100 4 rfl ?_
  replace h := ob h
  obtain ⟨v1, e_v1, h⟩ := h
  refine V_getR zf_12_3 zl_X7_183 e_v1 dX7_claim_102 ?_
  refine V_pc (pc' := 105) rfl ?_
  refine V_new (by decide) rfl zin11 zty11 zdf11 zn_X7_186 dX7_claim_105 ?_
  refine V_dup dX7_claim_108 rfl ?_
  refine V_iload dX7_claim_109 0 rfl ?_
  refine V_iload_n dX7_claim_111 rfl 3 rfl ?_
  replace h := ob h
  obtain ⟨r2, e_r2, h⟩ := h
  refine V_callI_V (As := [.int (i_0), .int (i2)]) (rest := [.ref (zad L (mX M)), .ref (zad L (v1))]) (c_X5_init e_r2) zc_X5_init rfl (by decide) zm_X7_188 rfl (Nat.le_of_ble_eq_true rfl) rfl dX7_claim_112 ?_
  refine V_pc (pc' := 115) rfl ?_
  replace h := ox h
  obtain ⟨c4, h⟩ := h
  replace h := ob h
  obtain ⟨r3, e_r3, h⟩ := h
  refine V_callV_I (As := [.ref (zad L (mX M))]) (rest := []) (c_Jx4a65c_add_9ea2d e_r3) zc_Jx4a65c_add_9ea2d rfl (by decide) rfl (by decide) (Or.inl c4) zm_X7_134 (Nat.le_of_ble_eq_true rfl) rfl dX7_claim_115 ?_
  refine V_pc (pc' := 118) rfl ?_
  refine V_pop dX7_claim_118 rfl ?_
  refine V_iconst (v := 0) dX7_claim_119 (by decide) ?_
  refine V_istore (ls' := [(6, .int ((0 : Int32))), (5, .int (i_0)), (0, .ref (zad L (a0))), (1, .int (i1)), (2, .int (i2)), (4, .ref (zad L (a4)))]) dX7_claim_120 (by decide) rfl ?_
  refine V_sub [2, 3, 4, 5, 1, 0] rfl ?_
  exact s_X7_claim_122 hq h
def f_X7_claim_50 (a0 : Nat) (i1 : Int32) (i2 : Int32) (i3 : Int32) (i_0 : Int32) (a_1 : Nat) (M : zM) : Option (Int32 × zM) :=
  if mK M a_1 = 13 then
  (f_X7_refuse a_1 i_0 ((3 : Int32)) M).bind fun r1 =>
  if r1.1 = 0 then
  if mK r1.2 a0 = 13 then
  (f_X7_leave a0 r1.2).bind fun r3 =>
  (gR 13 1 r3.2 a0).bind fun v5 =>
  (lQ 2 r3.2 v5 i1).bind fun v6 =>
  (gR 12 2 r3.2 v6).bind fun v7 =>
  (gI 13 14 r3.2 a0).bind fun v8 =>
  (lA 0 r3.2 v7 v8).bind fun v9 =>
  (tA r3.2 v7 v8 ((v9 + ((1 : Int32))))).bind fun M10 =>
  if i2 = ((1 : Int32)) then
  f_X7_claim_98 a0 i1 i2 v6 i3 M10
  else
  (gI 13 14 M10 a0).bind fun v11 =>
  f_X7_claim_98 a0 i1 i2 v6 v11 M10
  else none
  else
  some ((0 : Int32), r1.2)
  else none
set_option maxRecDepth 20000 in
set_option maxHeartbeats 4000000 in
theorem s_X7_claim_50 {L : zL} {X : zX} {M0 : zM} {N : Nat × Nat} {Q : State → Prop} {r : Int32 × zM} (hq : vQ L X M0 N Q (some (.int r.1)) r.2) {a0 : Nat} {i1 : Int32} {i2 : Int32} {i3 : Int32} {i_0 : Int32} {a_1 : Nat} {M : zM} (h : f_X7_claim_50 a0 i1 i2 i3 i_0 a_1 M = some r) : V L X yX7_claim cX7_claim 7 (some FieldType.int) 8 M0 N Q M 50 [(0, .ref (zad L (a0))), (1, .int (i1)), (2, .int (i2)), (3, .int (i3))] [.int (i_0), .ref (zad L (a_1))] := by
  unfold f_X7_claim_50 at h
  refine V_iconst (v := 3) dX7_claim_50 (by decide) ?_
  replace h := ox h
  obtain ⟨c2, h⟩ := h
  replace h := ob h
  obtain ⟨r1, e_r1, h⟩ := h
  refine V_callV_I (As := [.int (i_0), .int ((3 : Int32))]) (rest := []) (c_X7_refuse e_r1) zc_X7_refuse rfl (by decide) rfl (by decide) (Or.inl c2) zm_X7_68 (Nat.le_of_ble_eq_true rfl) rfl dX7_claim_51 ?_
  refine V_pc (pc' := 54) rfl ?_
  refine V_if_eq (tgt := 59) dX7_claim_54 (by decide) (fun c13 => ?_) (fun c13 => ?_)
  · replace h := (oi h).1 c13
    refine V_aload_n dX7_claim_59 rfl 0 rfl ?_
    replace h := ox h
    obtain ⟨c4, h⟩ := h
    replace h := ob h
    obtain ⟨r3, e_r3, h⟩ := h
    refine V_callV_V (As := []) (rest := []) (c_X7_leave e_r3) zc_X7_leave rfl (by decide) rfl (by decide) (Or.inl c4) zm_X7_180 (Nat.le_of_ble_eq_true rfl) rfl dX7_claim_60 ?_
    refine V_pc (pc' := 63) rfl ?_
    refine V_aload_n dX7_claim_63 rfl 0 rfl ?_
    replace h := ob h
    obtain ⟨v5, e_v5, h⟩ := h
    refine V_getR zf_13_1 zl_X7_38 e_v5 dX7_claim_64 ?_
    refine V_pc (pc' := 67) rfl ?_
    refine V_iload_n dX7_claim_67 rfl 1 rfl ?_
    replace h := ob h
    obtain ⟨v6, e_v6, h⟩ := h
    refine V_aald (by decide) e_v6 dX7_claim_68 ?_
    refine V_pc (pc' := 69) rfl ?_
    refine V_astore (ls' := [(4, .ref (zad L (v6))), (0, .ref (zad L (a0))), (1, .int (i1)), (2, .int (i2)), (3, .int (i3))]) dX7_claim_69 (by decide) rfl ?_
    refine V_aload dX7_claim_71 0 rfl ?_
    replace h := ob h
    obtain ⟨v7, e_v7, h⟩ := h
    refine V_getR zf_12_2 zl_X7_94 e_v7 dX7_claim_73 ?_
    refine V_pc (pc' := 76) rfl ?_
    refine V_aload_n dX7_claim_76 rfl 1 rfl ?_
    replace h := ob h
    obtain ⟨v8, e_v8, h⟩ := h
    refine V_getI zf_13_14 zl_X7_62 e_v8 dX7_claim_77 ?_
    refine V_pc (pc' := 80) rfl ?_
    refine V_dup2 dX7_claim_80 rfl rfl ?_
    replace h := ob h
    obtain ⟨v9, e_v9, h⟩ := h
    refine V_iald e_v9 dX7_claim_81 ?_
    refine V_pc (pc' := 82) rfl ?_
    refine V_iconst (v := 1) dX7_claim_82 (by decide) ?_
    refine V_iadd dX7_claim_83 ?_
    replace h := ob h
    obtain ⟨M10, e_M10, h⟩ := h
    refine V_iast e_M10 dX7_claim_84 ?_
    refine V_iload_n dX7_claim_85 rfl 3 rfl ?_
    refine V_iconst (v := 1) dX7_claim_86 (by decide) ?_
    refine V_icmp_ne (tgt := 94) dX7_claim_87 (by decide) (fun c12 => ?_) (fun c12 => ?_)
    · replace h := (oi h).2 c12
      refine V_aload_n dX7_claim_94 rfl 1 rfl ?_
      replace h := ob h
      obtain ⟨v11, e_v11, h⟩ := h
      refine V_getI zf_13_14 zl_X7_62 e_v11 dX7_claim_95 ?_
      refine V_pc (pc' := 98) rfl ?_
      refine V_sub [1, 2, 3, 0] rfl ?_
      exact s_X7_claim_98 hq h
    · replace h := (oi h).1 c12
      refine V_iload_n dX7_claim_90 rfl 4 rfl ?_
      refine V_goto (tgt := 98) dX7_claim_91 (by decide) ?_
      refine V_sub [1, 2, 3, 0] rfl ?_
      exact s_X7_claim_98 hq h
  · replace h := (oi h).2 c13
    refine V_iconst (v := 0) dX7_claim_57 (by decide) ?_
    obtain rfl := Option.some.inj h
    exact V_iret rfl hq dX7_claim_58
def f_X7_claim_27 (a0 : Nat) (i1 : Int32) (i2 : Int32) (i3 : Int32) (i_0 : Int32) (a_1 : Nat) (M : zM) : Option (Int32 × zM) :=
  if mK M a_1 = 13 then
  (f_X7_refuse a_1 i_0 ((2 : Int32)) M).bind fun r1 =>
  if r1.1 = 0 then
  if mK r1.2 a0 = 13 then
  (f_X7_mayClaim a0 i1 i2 i3 r1.2).bind fun r3 =>
  if r3.1 = 0 then
  f_X7_claim_50 a0 i1 i2 i3 ((1 : Int32)) a0 r3.2
  else
  f_X7_claim_50 a0 i1 i2 i3 ((0 : Int32)) a0 r3.2
  else none
  else
  some ((0 : Int32), r1.2)
  else none
set_option maxRecDepth 20000 in
set_option maxHeartbeats 4000000 in
theorem s_X7_claim_27 {L : zL} {X : zX} {M0 : zM} {N : Nat × Nat} {Q : State → Prop} {r : Int32 × zM} (hq : vQ L X M0 N Q (some (.int r.1)) r.2) {a0 : Nat} {i1 : Int32} {i2 : Int32} {i3 : Int32} {i_0 : Int32} {a_1 : Nat} {M : zM} (h : f_X7_claim_27 a0 i1 i2 i3 i_0 a_1 M = some r) : V L X yX7_claim cX7_claim 7 (some FieldType.int) 8 M0 N Q M 27 [(0, .ref (zad L (a0))), (1, .int (i1)), (2, .int (i2)), (3, .int (i3))] [.int (i_0), .ref (zad L (a_1))] := by
  unfold f_X7_claim_27 at h
  refine V_iconst (v := 2) dX7_claim_27 (by decide) ?_
  replace h := ox h
  obtain ⟨c2, h⟩ := h
  replace h := ob h
  obtain ⟨r1, e_r1, h⟩ := h
  refine V_callV_I (As := [.int (i_0), .int ((2 : Int32))]) (rest := []) (c_X7_refuse e_r1) zc_X7_refuse rfl (by decide) rfl (by decide) (Or.inl c2) zm_X7_68 (Nat.le_of_ble_eq_true rfl) rfl dX7_claim_28 ?_
  refine V_pc (pc' := 31) rfl ?_
  refine V_if_ne (tgt := 57) dX7_claim_31 (by decide) (fun c6 => ?_) (fun c6 => ?_)
  · replace h := (oi h).2 c6
    refine V_iconst (v := 0) dX7_claim_57 (by decide) ?_
    obtain rfl := Option.some.inj h
    exact V_iret rfl hq dX7_claim_58
  · replace h := (oi h).1 c6
    refine V_aload_n dX7_claim_34 rfl 0 rfl ?_
    refine V_aload_n dX7_claim_35 rfl 0 rfl ?_
    refine V_iload_n dX7_claim_36 rfl 1 rfl ?_
    refine V_iload_n dX7_claim_37 rfl 2 rfl ?_
    refine V_iload_n dX7_claim_38 rfl 3 rfl ?_
    replace h := ox h
    obtain ⟨c4, h⟩ := h
    replace h := ob h
    obtain ⟨r3, e_r3, h⟩ := h
    refine V_callV_I (As := [.int (i1), .int (i2), .int (i3)]) (rest := [.ref (zad L (a0))]) (c_X7_mayClaim e_r3) zc_X7_mayClaim rfl (by decide) rfl (by decide) (Or.inl c4) zm_X7_177 (Nat.le_of_ble_eq_true rfl) rfl dX7_claim_39 ?_
    refine V_pc (pc' := 42) rfl ?_
    refine V_if_ne (tgt := 49) dX7_claim_42 (by decide) (fun c5 => ?_) (fun c5 => ?_)
    · replace h := (oi h).2 c5
      refine V_iconst (v := 0) dX7_claim_49 (by decide) ?_
      exact s_X7_claim_50 hq h
    · replace h := (oi h).1 c5
      refine V_iconst (v := 1) dX7_claim_45 (by decide) ?_
      refine V_goto (tgt := 50) dX7_claim_46 (by decide) ?_
      exact s_X7_claim_50 hq h
def f_X7_claim_0 (a0 : Nat) (i1 : Int32) (i2 : Int32) (i3 : Int32) (M : zM) : Option (Int32 × zM) :=
  (f_X7_isNoPlayer i1 M).bind fun r1 =>
  if mK r1.2 a0 = 13 then
  (f_X7_start a0 r1.1 ((1 : Int32)) r1.2).bind fun r2 =>
  if r2.1 = 0 then
  (f_X7_isIn i2 ((0 : Int32)) ((2 : Int32)) r2.2).bind fun r4 =>
  if r4.1 = 0 then
  f_X7_claim_27 a0 i1 i2 i3 ((1 : Int32)) a0 r4.2
  else
  f_X7_claim_27 a0 i1 i2 i3 ((0 : Int32)) a0 r4.2
  else
  some ((0 : Int32), r2.2)
  else none
set_option maxRecDepth 20000 in
set_option maxHeartbeats 4000000 in
theorem s_X7_claim_0 {L : zL} {X : zX} {M0 : zM} {N : Nat × Nat} {Q : State → Prop} {r : Int32 × zM} (hq : vQ L X M0 N Q (some (.int r.1)) r.2) {a0 : Nat} {i1 : Int32} {i2 : Int32} {i3 : Int32} {M : zM} (h : f_X7_claim_0 a0 i1 i2 i3 M = some r) : V L X yX7_claim cX7_claim 7 (some FieldType.int) 8 M0 N Q M 0 [(0, .ref (zad L (a0))), (1, .int (i1)), (2, .int (i2)), (3, .int (i3))] [] := by
  unfold f_X7_claim_0 at h
  refine V_aload_n dX7_claim_0 rfl 0 rfl ?_
  refine V_iload_n dX7_claim_1 rfl 1 rfl ?_
  replace h := ob h
  obtain ⟨r1, e_r1, h⟩ := h
  refine V_callS_I (As := [.int (i1)]) (rest := [.ref (zad L (a0))]) (c_X7_isNoPlayer e_r1) zc_X7_isNoPlayer rfl (by decide) zm_X7_174 (Nat.le_of_ble_eq_true rfl) rfl dX7_claim_2 ?_
  refine V_pc (pc' := 5) rfl ?_
  refine V_iconst (v := 1) dX7_claim_5 (by decide) ?_
  replace h := ox h
  obtain ⟨c3, h⟩ := h
  replace h := ob h
  obtain ⟨r2, e_r2, h⟩ := h
  refine V_callV_I (As := [.int (r1.1), .int ((1 : Int32))]) (rest := []) (c_X7_start e_r2) zc_X7_start rfl (by decide) rfl (by decide) (Or.inl c3) zm_X7_85 (Nat.le_of_ble_eq_true rfl) rfl dX7_claim_6 ?_
  refine V_pc (pc' := 9) rfl ?_
  refine V_if_ne (tgt := 57) dX7_claim_9 (by decide) (fun c6 => ?_) (fun c6 => ?_)
  · replace h := (oi h).2 c6
    refine V_iconst (v := 0) dX7_claim_57 (by decide) ?_
    obtain rfl := Option.some.inj h
    exact V_iret rfl hq dX7_claim_58
  · replace h := (oi h).1 c6
    refine V_aload_n dX7_claim_12 rfl 0 rfl ?_
    refine V_iload_n dX7_claim_13 rfl 2 rfl ?_
    refine V_iconst (v := 0) dX7_claim_14 (by decide) ?_
    refine V_iconst (v := 2) dX7_claim_15 (by decide) ?_
    replace h := ob h
    obtain ⟨r4, e_r4, h⟩ := h
    refine V_callS_I (As := [.int (i2), .int ((0 : Int32)), .int ((2 : Int32))]) (rest := [.ref (zad L (a0))]) (c_X7_isIn e_r4) zc_X7_isIn rfl (by decide) zm_X7_3 (Nat.le_of_ble_eq_true rfl) rfl dX7_claim_16 ?_
    refine V_pc (pc' := 19) rfl ?_
    refine V_if_ne (tgt := 26) dX7_claim_19 (by decide) (fun c5 => ?_) (fun c5 => ?_)
    · replace h := (oi h).2 c5
      refine V_iconst (v := 0) dX7_claim_26 (by decide) ?_
      exact s_X7_claim_27 hq h
    · replace h := (oi h).1 c5
      refine V_iconst (v := 1) dX7_claim_22 (by decide) ?_
      refine V_goto (tgt := 27) dX7_claim_23 (by decide) ?_
      exact s_X7_claim_27 hq h
def f_X7_claim (a0 : Nat) (i1 : Int32) (i2 : Int32) (i3 : Int32) (M : zM) : Option (Int32 × zM) := f_X7_claim_0 a0 i1 i2 i3 M
theorem c_X7_claim {L : zL} {l : Launch} {a0 : Nat} {i1 : Int32} {i2 : Int32} {i3 : Int32} {M : zM} {r : Int32 × zM} (h : f_X7_claim a0 i1 i2 i3 M = some r) : CP L l yX7_claim cX7_claim 7 (some FieldType.int) 8 M [.ref (zad L (a0)), .int (i1), .int (i2), .int (i3)] (some (.int r.1)) r.2 :=
  CP.of ⟨by decide +kernel, by decide +kernel⟩ (Nat.le_of_ble_eq_true rfl) fun X Q hq => s_X7_claim_0 hq h
/-! WindsparlourModel.four(I)I -/
theorem dX7_four_0 : decode cX7_four 0 = .ok (.aload_n 0, 1) := by decide +kernel
theorem dX7_four_1 : decode cX7_four 1 = .ok (.iload_n 1, 1) := by decide +kernel
theorem dX7_four_2 : decode cX7_four 2 = .ok (.invokestatic 147, 3) := by decide +kernel
theorem dX7_four_5 : decode cX7_four 5 = .ok (.ifCond .ne 7, 3) := by decide +kernel
theorem dX7_four_8 : decode cX7_four 8 = .ok (.iconst 1, 1) := by decide +kernel
theorem dX7_four_9 : decode cX7_four 9 = .ok (.goto 4, 3) := by decide +kernel
theorem dX7_four_12 : decode cX7_four 12 = .ok (.iconst 0, 1) := by decide +kernel
theorem dX7_four_13 : decode cX7_four 13 = .ok (.iconst 1, 1) := by decide +kernel
theorem dX7_four_14 : decode cX7_four 14 = .ok (.invokevirtual 85, 3) := by decide +kernel
theorem dX7_four_17 : decode cX7_four 17 = .ok (.ifCond .eq 5, 3) := by decide +kernel
theorem dX7_four_20 : decode cX7_four 20 = .ok (.iconst 0, 1) := by decide +kernel
theorem dX7_four_21 : decode cX7_four 21 = .ok (.ireturn, 1) := by decide +kernel
theorem dX7_four_22 : decode cX7_four 22 = .ok (.aload_n 0, 1) := by decide +kernel
theorem dX7_four_23 : decode cX7_four 23 = .ok (.getfield 50, 3) := by decide +kernel
theorem dX7_four_26 : decode cX7_four 26 = .ok (.iconst 1, 1) := by decide +kernel
theorem dX7_four_27 : decode cX7_four 27 = .ok (.if_icmp .ne 37, 3) := by decide +kernel
theorem dX7_four_30 : decode cX7_four 30 = .ok (.aload_n 0, 1) := by decide +kernel
theorem dX7_four_31 : decode cX7_four 31 = .ok (.invokevirtual 104, 3) := by decide +kernel
theorem dX7_four_34 : decode cX7_four 34 = .ok (.getfield 151, 3) := by decide +kernel
theorem dX7_four_37 : decode cX7_four 37 = .ok (.ifCond .ne 27, 3) := by decide +kernel
theorem dX7_four_40 : decode cX7_four 40 = .ok (.aload_n 0, 1) := by decide +kernel
theorem dX7_four_41 : decode cX7_four 41 = .ok (.invokevirtual 104, 3) := by decide +kernel
theorem dX7_four_44 : decode cX7_four 44 = .ok (.getfield 94, 3) := by decide +kernel
theorem dX7_four_47 : decode cX7_four 47 = .ok (.iload_n 1, 1) := by decide +kernel
theorem dX7_four_48 : decode cX7_four 48 = .ok (.iaload, 1) := by decide +kernel
theorem dX7_four_49 : decode cX7_four 49 = .ok (.iconst 4, 1) := by decide +kernel
theorem dX7_four_50 : decode cX7_four 50 = .ok (.if_icmp .ne 14, 3) := by decide +kernel
theorem dX7_four_53 : decode cX7_four 53 = .ok (.aload_n 0, 1) := by decide +kernel
theorem dX7_four_54 : decode cX7_four 54 = .ok (.invokevirtual 167, 3) := by decide +kernel
theorem dX7_four_57 : decode cX7_four 57 = .ok (.ifCond .eq 7, 3) := by decide +kernel
theorem dX7_four_60 : decode cX7_four 60 = .ok (.iconst 1, 1) := by decide +kernel
theorem dX7_four_61 : decode cX7_four 61 = .ok (.goto 4, 3) := by decide +kernel
theorem dX7_four_64 : decode cX7_four 64 = .ok (.iconst 0, 1) := by decide +kernel
theorem dX7_four_65 : decode cX7_four 65 = .ok (.istore_n 2, 1) := by decide +kernel
theorem dX7_four_66 : decode cX7_four 66 = .ok (.aload_n 0, 1) := by decide +kernel
theorem dX7_four_67 : decode cX7_four 67 = .ok (.iload_n 2, 1) := by decide +kernel
theorem dX7_four_68 : decode cX7_four 68 = .ok (.ifCond .ne 7, 3) := by decide +kernel
theorem dX7_four_71 : decode cX7_four 71 = .ok (.iconst 1, 1) := by decide +kernel
theorem dX7_four_72 : decode cX7_four 72 = .ok (.goto 4, 3) := by decide +kernel
theorem dX7_four_75 : decode cX7_four 75 = .ok (.iconst 0, 1) := by decide +kernel
theorem dX7_four_76 : decode cX7_four 76 = .ok (.iconst 2, 1) := by decide +kernel
theorem dX7_four_77 : decode cX7_four 77 = .ok (.invokevirtual 68, 3) := by decide +kernel
theorem dX7_four_80 : decode cX7_four 80 = .ok (.ifCond .eq 5, 3) := by decide +kernel
theorem dX7_four_83 : decode cX7_four 83 = .ok (.iconst 0, 1) := by decide +kernel
theorem dX7_four_84 : decode cX7_four 84 = .ok (.ireturn, 1) := by decide +kernel
theorem dX7_four_85 : decode cX7_four 85 = .ok (.aload_n 0, 1) := by decide +kernel
theorem dX7_four_86 : decode cX7_four 86 = .ok (.invokevirtual 104, 3) := by decide +kernel
theorem dX7_four_89 : decode cX7_four 89 = .ok (.getfield 94, 3) := by decide +kernel
theorem dX7_four_92 : decode cX7_four 92 = .ok (.iload_n 1, 1) := by decide +kernel
theorem dX7_four_93 : decode cX7_four 93 = .ok (.dup2, 1) := by decide +kernel
theorem dX7_four_94 : decode cX7_four 94 = .ok (.iaload, 1) := by decide +kernel
theorem dX7_four_95 : decode cX7_four 95 = .ok (.iconst 4, 1) := by decide +kernel
theorem dX7_four_96 : decode cX7_four 96 = .ok (.isub, 1) := by decide +kernel
theorem dX7_four_97 : decode cX7_four 97 = .ok (.iastore, 1) := by decide +kernel
theorem dX7_four_98 : decode cX7_four 98 = .ok (.aload_n 0, 1) := by decide +kernel
theorem dX7_four_99 : decode cX7_four 99 = .ok (.invokevirtual 104, 3) := by decide +kernel
theorem dX7_four_102 : decode cX7_four 102 = .ok (.getfield 183, 3) := by decide +kernel
theorem dX7_four_105 : decode cX7_four 105 = .ok (.new 186, 3) := by decide +kernel
theorem dX7_four_108 : decode cX7_four 108 = .ok (.dup, 1) := by decide +kernel
theorem dX7_four_109 : decode cX7_four 109 = .ok (.iload_n 1, 1) := by decide +kernel
theorem dX7_four_110 : decode cX7_four 110 = .ok (.iconst 3, 1) := by decide +kernel
theorem dX7_four_111 : decode cX7_four 111 = .ok (.invokespecial 188, 3) := by decide +kernel
theorem dX7_four_114 : decode cX7_four 114 = .ok (.invokevirtual 134, 3) := by decide +kernel
theorem dX7_four_117 : decode cX7_four 117 = .ok (.pop, 1) := by decide +kernel
theorem dX7_four_118 : decode cX7_four 118 = .ok (.aload_n 0, 1) := by decide +kernel
theorem dX7_four_119 : decode cX7_four 119 = .ok (.invokevirtual 191, 3) := by decide +kernel
theorem dX7_four_122 : decode cX7_four 122 = .ok (.ireturn, 1) := by decide +kernel
def f_X7_four_76 (a0 : Nat) (i1 : Int32) (i_0 : Int32) (a_1 : Nat) (M : zM) : Option (Int32 × zM) :=
  if mK M a_1 = 13 then
  (f_X7_refuse a_1 i_0 ((2 : Int32)) M).bind fun r1 =>
  if r1.1 = 0 then
  if mK r1.2 a0 = 13 then
  (f_X7_its a0 r1.2).bind fun r3 =>
  (gR 12 2 r3.2 r3.1).bind fun v5 =>
  (lA 0 r3.2 v5 i1).bind fun v6 =>
  (tA r3.2 v5 i1 ((v6 - ((4 : Int32))))).bind fun M7 =>
  if mK M7 a0 = 13 then
  (f_X7_its a0 M7).bind fun r8 =>
  (gR 12 3 r8.2 r8.1).bind fun v10 =>
  (f_X5_init (mX r8.2) i1 ((3 : Int32)) (nO r8.2 11 2)).bind fun r11 =>
  if mK r11.2 v10 = 5 then
  (f_Jx4a65c_add_9ea2d v10 (mX r8.2) r11.2).bind fun r12 =>
  if mK r12.2 a0 = 13 then
  (f_X7_drawLast a0 r12.2).bind fun r14 =>
  some (r14.1, r14.2)
  else none
  else none
  else none
  else none
  else
  some ((0 : Int32), r1.2)
  else none
set_option maxRecDepth 20000 in
set_option maxHeartbeats 4000000 in
theorem s_X7_four_76 {L : zL} {X : zX} {M0 : zM} {N : Nat × Nat} {Q : State → Prop} {r : Int32 × zM} (hq : vQ L X M0 N Q (some (.int r.1)) r.2) {a0 : Nat} {i1 : Int32} {i_0 : Int32} {a_1 : Nat} {M : zM} (h : f_X7_four_76 a0 i1 i_0 a_1 M = some r) : V L X yX7_four cX7_four 3 (some FieldType.int) 8 M0 N Q M 76 [(0, .ref (zad L (a0))), (1, .int (i1))] [.int (i_0), .ref (zad L (a_1))] := by
  unfold f_X7_four_76 at h
  refine V_iconst (v := 2) dX7_four_76 (by decide) ?_
  replace h := ox h
  obtain ⟨c2, h⟩ := h
  replace h := ob h
  obtain ⟨r1, e_r1, h⟩ := h
  refine V_callV_I (As := [.int (i_0), .int ((2 : Int32))]) (rest := []) (c_X7_refuse e_r1) zc_X7_refuse rfl (by decide) rfl (by decide) (Or.inl c2) zm_X7_68 (Nat.le_of_ble_eq_true rfl) rfl dX7_four_77 ?_
  refine V_pc (pc' := 80) rfl ?_
  refine V_if_eq (tgt := 85) dX7_four_80 (by decide) (fun c16 => ?_) (fun c16 => ?_)
  · replace h := (oi h).1 c16
    refine V_aload_n dX7_four_85 rfl 0 rfl ?_
    replace h := ox h
    obtain ⟨c4, h⟩ := h
    replace h := ob h
    obtain ⟨r3, e_r3, h⟩ := h
    refine V_callV_A (As := []) (rest := []) (c_X7_its e_r3) zc_X7_its rfl (by decide) rfl (by decide) (Or.inl c4) zm_X7_104 (Nat.le_of_ble_eq_true rfl) rfl dX7_four_86 ?_
    refine V_pc (pc' := 89) rfl ?_
    replace h := ob h
    obtain ⟨v5, e_v5, h⟩ := h
    refine V_getR zf_12_2 zl_X7_94 e_v5 dX7_four_89 ?_
    refine V_pc (pc' := 92) rfl ?_
    refine V_iload_n dX7_four_92 rfl 1 rfl ?_
    refine V_dup2 dX7_four_93 rfl rfl ?_
    replace h := ob h
    obtain ⟨v6, e_v6, h⟩ := h
    refine V_iald e_v6 dX7_four_94 ?_
    refine V_pc (pc' := 95) rfl ?_
    refine V_iconst (v := 4) dX7_four_95 (by decide) ?_
    refine V_isub dX7_four_96 ?_
    replace h := ob h
    obtain ⟨M7, e_M7, h⟩ := h
    refine V_iast e_M7 dX7_four_97 ?_
    refine V_aload_n dX7_four_98 rfl 0 rfl ?_
    replace h := ox h
    obtain ⟨c9, h⟩ := h
    replace h := ob h
    obtain ⟨r8, e_r8, h⟩ := h
    refine V_callV_A (As := []) (rest := []) (c_X7_its e_r8) zc_X7_its rfl (by decide) rfl (by decide) (Or.inl c9) zm_X7_104 (Nat.le_of_ble_eq_true rfl) rfl dX7_four_99 ?_
    refine V_pc (pc' := 102) rfl ?_
    replace h := ob h
    obtain ⟨v10, e_v10, h⟩ := h
    refine V_getR zf_12_3 zl_X7_183 e_v10 dX7_four_102 ?_
    refine V_pc (pc' := 105) rfl ?_
    refine V_new (by decide) rfl zin11 zty11 zdf11 zn_X7_186 dX7_four_105 ?_
    refine V_dup dX7_four_108 rfl ?_
    refine V_iload_n dX7_four_109 rfl 1 rfl ?_
    refine V_iconst (v := 3) dX7_four_110 (by decide) ?_
    replace h := ob h
    obtain ⟨r11, e_r11, h⟩ := h
    refine V_callI_V (As := [.int (i1), .int ((3 : Int32))]) (rest := [.ref (zad L (mX r8.2)), .ref (zad L (v10))]) (c_X5_init e_r11) zc_X5_init rfl (by decide) zm_X7_188 rfl (Nat.le_of_ble_eq_true rfl) rfl dX7_four_111 ?_
    refine V_pc (pc' := 114) rfl ?_
    replace h := ox h
    obtain ⟨c13, h⟩ := h
    replace h := ob h
    obtain ⟨r12, e_r12, h⟩ := h
    refine V_callV_I (As := [.ref (zad L (mX r8.2))]) (rest := []) (c_Jx4a65c_add_9ea2d e_r12) zc_Jx4a65c_add_9ea2d rfl (by decide) rfl (by decide) (Or.inl c13) zm_X7_134 (Nat.le_of_ble_eq_true rfl) rfl dX7_four_114 ?_
    refine V_pc (pc' := 117) rfl ?_
    refine V_pop dX7_four_117 rfl ?_
    refine V_aload_n dX7_four_118 rfl 0 rfl ?_
    replace h := ox h
    obtain ⟨c15, h⟩ := h
    replace h := ob h
    obtain ⟨r14, e_r14, h⟩ := h
    refine V_callV_I (As := []) (rest := []) (c_X7_drawLast e_r14) zc_X7_drawLast rfl (by decide) rfl (by decide) (Or.inl c15) zm_X7_191 (Nat.le_of_ble_eq_true rfl) rfl dX7_four_119 ?_
    refine V_pc (pc' := 122) rfl ?_
    obtain rfl := Option.some.inj h
    exact V_iret rfl hq dX7_four_122
  · replace h := (oi h).2 c16
    refine V_iconst (v := 0) dX7_four_83 (by decide) ?_
    obtain rfl := Option.some.inj h
    exact V_iret rfl hq dX7_four_84
def f_X7_four_65 (a0 : Nat) (i1 : Int32) (i_0 : Int32) (M : zM) : Option (Int32 × zM) :=
  if i_0 = 0 then
  f_X7_four_76 a0 i1 ((1 : Int32)) a0 M
  else
  f_X7_four_76 a0 i1 ((0 : Int32)) a0 M
set_option maxRecDepth 20000 in
set_option maxHeartbeats 4000000 in
theorem s_X7_four_65 {L : zL} {X : zX} {M0 : zM} {N : Nat × Nat} {Q : State → Prop} {r : Int32 × zM} (hq : vQ L X M0 N Q (some (.int r.1)) r.2) {a0 : Nat} {i1 : Int32} {i_0 : Int32} {M : zM} (h : f_X7_four_65 a0 i1 i_0 M = some r) : V L X yX7_four cX7_four 3 (some FieldType.int) 8 M0 N Q M 65 [(0, .ref (zad L (a0))), (1, .int (i1))] [.int (i_0)] := by
  unfold f_X7_four_65 at h
  refine V_istore_n (ls' := [(2, .int (i_0)), (0, .ref (zad L (a0))), (1, .int (i1))]) dX7_four_65 rfl (by decide) rfl ?_
  refine V_aload_n dX7_four_66 rfl 1 rfl ?_
  refine V_iload_n dX7_four_67 rfl 0 rfl ?_
  refine V_if_ne (tgt := 75) dX7_four_68 (by decide) (fun c1 => ?_) (fun c1 => ?_)
  · replace h := (oi h).2 c1
    refine V_iconst (v := 0) dX7_four_75 (by decide) ?_
    refine V_sub [1, 2] rfl ?_
    exact s_X7_four_76 hq h
  · replace h := (oi h).1 c1
    refine V_iconst (v := 1) dX7_four_71 (by decide) ?_
    refine V_goto (tgt := 76) dX7_four_72 (by decide) ?_
    refine V_sub [1, 2] rfl ?_
    exact s_X7_four_76 hq h
def f_X7_four_64 (a0 : Nat) (i1 : Int32) (M : zM) : Option (Int32 × zM) :=
  f_X7_four_65 a0 i1 ((0 : Int32)) M
set_option maxRecDepth 20000 in
set_option maxHeartbeats 4000000 in
theorem s_X7_four_64 {L : zL} {X : zX} {M0 : zM} {N : Nat × Nat} {Q : State → Prop} {r : Int32 × zM} (hq : vQ L X M0 N Q (some (.int r.1)) r.2) {a0 : Nat} {i1 : Int32} {M : zM} (h : f_X7_four_64 a0 i1 M = some r) : V L X yX7_four cX7_four 3 (some FieldType.int) 8 M0 N Q M 64 [(0, .ref (zad L (a0))), (1, .int (i1))] [] := by
  unfold f_X7_four_64 at h
  refine V_iconst (v := 0) dX7_four_64 (by decide) ?_
  exact s_X7_four_65 hq h
def f_X7_four_13 (a0 : Nat) (i1 : Int32) (i_0 : Int32) (a_1 : Nat) (M : zM) : Option (Int32 × zM) :=
  if mK M a_1 = 13 then
  (f_X7_start a_1 i_0 ((1 : Int32)) M).bind fun r1 =>
  if r1.1 = 0 then
  (gI 13 6 r1.2 a0).bind fun v3 =>
  if v3 = ((1 : Int32)) then
  if mK r1.2 a0 = 13 then
  (f_X7_its a0 r1.2).bind fun r4 =>
  (gI 12 6 r4.2 r4.1).bind fun v6 =>
  if v6 = 0 then
  if mK r4.2 a0 = 13 then
  (f_X7_its a0 r4.2).bind fun r7 =>
  (gR 12 2 r7.2 r7.1).bind fun v9 =>
  (lA 0 r7.2 v9 i1).bind fun v10 =>
  if v10 = ((4 : Int32)) then
  if mK r7.2 a0 = 13 then
  (f_X7_mayFour a0 r7.2).bind fun r11 =>
  if r11.1 = 0 then
  f_X7_four_64 a0 i1 r11.2
  else
  f_X7_four_65 a0 i1 ((1 : Int32)) r11.2
  else none
  else
  f_X7_four_64 a0 i1 r7.2
  else none
  else
  f_X7_four_64 a0 i1 r4.2
  else none
  else
  f_X7_four_64 a0 i1 r1.2
  else
  some ((0 : Int32), r1.2)
  else none
set_option maxRecDepth 20000 in
set_option maxHeartbeats 4000000 in
theorem s_X7_four_13 {L : zL} {X : zX} {M0 : zM} {N : Nat × Nat} {Q : State → Prop} {r : Int32 × zM} (hq : vQ L X M0 N Q (some (.int r.1)) r.2) {a0 : Nat} {i1 : Int32} {i_0 : Int32} {a_1 : Nat} {M : zM} (h : f_X7_four_13 a0 i1 i_0 a_1 M = some r) : V L X yX7_four cX7_four 3 (some FieldType.int) 8 M0 N Q M 13 [(0, .ref (zad L (a0))), (1, .int (i1))] [.int (i_0), .ref (zad L (a_1))] := by
  unfold f_X7_four_13 at h
  refine V_iconst (v := 1) dX7_four_13 (by decide) ?_
  replace h := ox h
  obtain ⟨c2, h⟩ := h
  replace h := ob h
  obtain ⟨r1, e_r1, h⟩ := h
  refine V_callV_I (As := [.int (i_0), .int ((1 : Int32))]) (rest := []) (c_X7_start e_r1) zc_X7_start rfl (by decide) rfl (by decide) (Or.inl c2) zm_X7_85 (Nat.le_of_ble_eq_true rfl) rfl dX7_four_14 ?_
  refine V_pc (pc' := 17) rfl ?_
  refine V_if_eq (tgt := 22) dX7_four_17 (by decide) (fun c17 => ?_) (fun c17 => ?_)
  · replace h := (oi h).1 c17
    refine V_aload_n dX7_four_22 rfl 0 rfl ?_
    replace h := ob h
    obtain ⟨v3, e_v3, h⟩ := h
    refine V_getI zf_13_6 zl_X7_50 e_v3 dX7_four_23 ?_
    refine V_pc (pc' := 26) rfl ?_
    refine V_iconst (v := 1) dX7_four_26 (by decide) ?_
    refine V_icmp_ne (tgt := 64) dX7_four_27 (by decide) (fun c16 => ?_) (fun c16 => ?_)
    · replace h := (oi h).2 c16
      exact s_X7_four_64 hq h
    · replace h := (oi h).1 c16
      refine V_aload_n dX7_four_30 rfl 0 rfl ?_
      replace h := ox h
      obtain ⟨c5, h⟩ := h
      replace h := ob h
      obtain ⟨r4, e_r4, h⟩ := h
      refine V_callV_A (As := []) (rest := []) (c_X7_its e_r4) zc_X7_its rfl (by decide) rfl (by decide) (Or.inl c5) zm_X7_104 (Nat.le_of_ble_eq_true rfl) rfl dX7_four_31 ?_
      refine V_pc (pc' := 34) rfl ?_
      replace h := ob h
      obtain ⟨v6, e_v6, h⟩ := h
      refine V_getI zf_12_6 zl_X7_151 e_v6 dX7_four_34 ?_
      refine V_pc (pc' := 37) rfl ?_
      refine V_if_ne (tgt := 64) dX7_four_37 (by decide) (fun c15 => ?_) (fun c15 => ?_)
      · replace h := (oi h).2 c15
        exact s_X7_four_64 hq h
      · replace h := (oi h).1 c15
        refine V_aload_n dX7_four_40 rfl 0 rfl ?_
        replace h := ox h
        obtain ⟨c8, h⟩ := h
        replace h := ob h
        obtain ⟨r7, e_r7, h⟩ := h
        refine V_callV_A (As := []) (rest := []) (c_X7_its e_r7) zc_X7_its rfl (by decide) rfl (by decide) (Or.inl c8) zm_X7_104 (Nat.le_of_ble_eq_true rfl) rfl dX7_four_41 ?_
        refine V_pc (pc' := 44) rfl ?_
        replace h := ob h
        obtain ⟨v9, e_v9, h⟩ := h
        refine V_getR zf_12_2 zl_X7_94 e_v9 dX7_four_44 ?_
        refine V_pc (pc' := 47) rfl ?_
        refine V_iload_n dX7_four_47 rfl 1 rfl ?_
        replace h := ob h
        obtain ⟨v10, e_v10, h⟩ := h
        refine V_iald e_v10 dX7_four_48 ?_
        refine V_pc (pc' := 49) rfl ?_
        refine V_iconst (v := 4) dX7_four_49 (by decide) ?_
        refine V_icmp_ne (tgt := 64) dX7_four_50 (by decide) (fun c14 => ?_) (fun c14 => ?_)
        · replace h := (oi h).2 c14
          exact s_X7_four_64 hq h
        · replace h := (oi h).1 c14
          refine V_aload_n dX7_four_53 rfl 0 rfl ?_
          replace h := ox h
          obtain ⟨c12, h⟩ := h
          replace h := ob h
          obtain ⟨r11, e_r11, h⟩ := h
          refine V_callV_I (As := []) (rest := []) (c_X7_mayFour e_r11) zc_X7_mayFour rfl (by decide) rfl (by decide) (Or.inl c12) zm_X7_167 (Nat.le_of_ble_eq_true rfl) rfl dX7_four_54 ?_
          refine V_pc (pc' := 57) rfl ?_
          refine V_if_eq (tgt := 64) dX7_four_57 (by decide) (fun c13 => ?_) (fun c13 => ?_)
          · replace h := (oi h).1 c13
            exact s_X7_four_64 hq h
          · replace h := (oi h).2 c13
            refine V_iconst (v := 1) dX7_four_60 (by decide) ?_
            refine V_goto (tgt := 65) dX7_four_61 (by decide) ?_
            exact s_X7_four_65 hq h
  · replace h := (oi h).2 c17
    refine V_iconst (v := 0) dX7_four_20 (by decide) ?_
    obtain rfl := Option.some.inj h
    exact V_iret rfl hq dX7_four_21
def f_X7_four_0 (a0 : Nat) (i1 : Int32) (M : zM) : Option (Int32 × zM) :=
  (f_X7_isKind i1 M).bind fun r1 =>
  if r1.1 = 0 then
  f_X7_four_13 a0 i1 ((1 : Int32)) a0 r1.2
  else
  f_X7_four_13 a0 i1 ((0 : Int32)) a0 r1.2
set_option maxRecDepth 20000 in
set_option maxHeartbeats 4000000 in
theorem s_X7_four_0 {L : zL} {X : zX} {M0 : zM} {N : Nat × Nat} {Q : State → Prop} {r : Int32 × zM} (hq : vQ L X M0 N Q (some (.int r.1)) r.2) {a0 : Nat} {i1 : Int32} {M : zM} (h : f_X7_four_0 a0 i1 M = some r) : V L X yX7_four cX7_four 3 (some FieldType.int) 8 M0 N Q M 0 [(0, .ref (zad L (a0))), (1, .int (i1))] [] := by
  unfold f_X7_four_0 at h
  refine V_aload_n dX7_four_0 rfl 0 rfl ?_
  refine V_iload_n dX7_four_1 rfl 1 rfl ?_
  replace h := ob h
  obtain ⟨r1, e_r1, h⟩ := h
  refine V_callS_I (As := [.int (i1)]) (rest := [.ref (zad L (a0))]) (c_X7_isKind e_r1) zc_X7_isKind rfl (by decide) zm_X7_147 (Nat.le_of_ble_eq_true rfl) rfl dX7_four_2 ?_
  refine V_pc (pc' := 5) rfl ?_
  refine V_if_ne (tgt := 12) dX7_four_5 (by decide) (fun c2 => ?_) (fun c2 => ?_)
  · replace h := (oi h).2 c2
    refine V_iconst (v := 0) dX7_four_12 (by decide) ?_
    exact s_X7_four_13 hq h
  · replace h := (oi h).1 c2
    refine V_iconst (v := 1) dX7_four_8 (by decide) ?_
    refine V_goto (tgt := 13) dX7_four_9 (by decide) ?_
    exact s_X7_four_13 hq h
def f_X7_four (a0 : Nat) (i1 : Int32) (M : zM) : Option (Int32 × zM) := f_X7_four_0 a0 i1 M
theorem c_X7_four {L : zL} {l : Launch} {a0 : Nat} {i1 : Int32} {M : zM} {r : Int32 × zM} (h : f_X7_four a0 i1 M = some r) : CP L l yX7_four cX7_four 3 (some FieldType.int) 8 M [.ref (zad L (a0)), .int (i1)] (some (.int r.1)) r.2 :=
  CP.of ⟨by decide +kernel, by decide +kernel⟩ (Nat.le_of_ble_eq_true rfl) fun X Q hq => s_X7_four_0 hq h
/-! WindsparlourModel.pass()I -/
theorem dX7_pass_0 : decode cX7_pass 0 = .ok (.aload_n 0, 1) := by decide +kernel
theorem dX7_pass_1 : decode cX7_pass 1 = .ok (.aload_n 0, 1) := by decide +kernel
theorem dX7_pass_2 : decode cX7_pass 2 = .ok (.getfield 50, 3) := by decide +kernel
theorem dX7_pass_5 : decode cX7_pass 5 = .ok (.iconst 2, 1) := by decide +kernel
theorem dX7_pass_6 : decode cX7_pass 6 = .ok (.if_icmp .eq 7, 3) := by decide +kernel
theorem dX7_pass_9 : decode cX7_pass 9 = .ok (.iconst 1, 1) := by decide +kernel
theorem dX7_pass_10 : decode cX7_pass 10 = .ok (.goto 4, 3) := by decide +kernel
theorem dX7_pass_13 : decode cX7_pass 13 = .ok (.iconst 0, 1) := by decide +kernel
theorem dX7_pass_14 : decode cX7_pass 14 = .ok (.iconst 1, 1) := by decide +kernel
theorem dX7_pass_15 : decode cX7_pass 15 = .ok (.invokevirtual 85, 3) := by decide +kernel
theorem dX7_pass_18 : decode cX7_pass 18 = .ok (.ifCond .eq 5, 3) := by decide +kernel
theorem dX7_pass_21 : decode cX7_pass 21 = .ok (.iconst 0, 1) := by decide +kernel
theorem dX7_pass_22 : decode cX7_pass 22 = .ok (.ireturn, 1) := by decide +kernel
theorem dX7_pass_23 : decode cX7_pass 23 = .ok (.aload_n 0, 1) := by decide +kernel
theorem dX7_pass_24 : decode cX7_pass 24 = .ok (.aload_n 0, 1) := by decide +kernel
theorem dX7_pass_25 : decode cX7_pass 25 = .ok (.getfield 82, 3) := by decide +kernel
theorem dX7_pass_28 : decode cX7_pass 28 = .ok (.iconst 1, 1) := by decide +kernel
theorem dX7_pass_29 : decode cX7_pass 29 = .ok (.iadd, 1) := by decide +kernel
theorem dX7_pass_30 : decode cX7_pass 30 = .ok (.iconst 4, 1) := by decide +kernel
theorem dX7_pass_31 : decode cX7_pass 31 = .ok (.irem, 1) := by decide +kernel
theorem dX7_pass_32 : decode cX7_pass 32 = .ok (.putfield 82, 3) := by decide +kernel
theorem dX7_pass_35 : decode cX7_pass 35 = .ok (.aload_n 0, 1) := by decide +kernel
theorem dX7_pass_36 : decode cX7_pass 36 = .ok (.iconst 0, 1) := by decide +kernel
theorem dX7_pass_37 : decode cX7_pass 37 = .ok (.putfield 50, 3) := by decide +kernel
theorem dX7_pass_40 : decode cX7_pass 40 = .ok (.aload_n 0, 1) := by decide +kernel
theorem dX7_pass_41 : decode cX7_pass 41 = .ok (.getfield 82, 3) := by decide +kernel
theorem dX7_pass_44 : decode cX7_pass 44 = .ok (.ireturn, 1) := by decide +kernel
def f_X7_pass_14 (a0 : Nat) (i_0 : Int32) (a_1 : Nat) (M : zM) : Option (Int32 × zM) :=
  if mK M a_1 = 13 then
  (f_X7_start a_1 i_0 ((1 : Int32)) M).bind fun r1 =>
  if r1.1 = 0 then
  (gI 13 7 r1.2 a0).bind fun v3 =>
  (pI 13 7 r1.2 a0 ((zmd ((v3 + ((1 : Int32)))) ((4 : Int32))))).bind fun M4 =>
  (pI 13 6 M4 a0 ((0 : Int32))).bind fun M5 =>
  (gI 13 7 M5 a0).bind fun v6 =>
  some (v6, M5)
  else
  some ((0 : Int32), r1.2)
  else none
set_option maxRecDepth 20000 in
set_option maxHeartbeats 4000000 in
theorem s_X7_pass_14 {L : zL} {X : zX} {M0 : zM} {N : Nat × Nat} {Q : State → Prop} {r : Int32 × zM} (hq : vQ L X M0 N Q (some (.int r.1)) r.2) {a0 : Nat} {i_0 : Int32} {a_1 : Nat} {M : zM} (h : f_X7_pass_14 a0 i_0 a_1 M = some r) : V L X yX7_pass cX7_pass 1 (some FieldType.int) 3 M0 N Q M 14 [(0, .ref (zad L (a0)))] [.int (i_0), .ref (zad L (a_1))] := by
  unfold f_X7_pass_14 at h
  refine V_iconst (v := 1) dX7_pass_14 (by decide) ?_
  replace h := ox h
  obtain ⟨c2, h⟩ := h
  replace h := ob h
  obtain ⟨r1, e_r1, h⟩ := h
  refine V_callV_I (As := [.int (i_0), .int ((1 : Int32))]) (rest := []) (c_X7_start e_r1) zc_X7_start rfl (by decide) rfl (by decide) (Or.inl c2) zm_X7_85 (Nat.le_of_ble_eq_true rfl) rfl dX7_pass_15 ?_
  refine V_pc (pc' := 18) rfl ?_
  refine V_if_eq (tgt := 23) dX7_pass_18 (by decide) (fun c7 => ?_) (fun c7 => ?_)
  · replace h := (oi h).1 c7
    refine V_aload_n dX7_pass_23 rfl 0 rfl ?_
    refine V_aload_n dX7_pass_24 rfl 0 rfl ?_
    replace h := ob h
    obtain ⟨v3, e_v3, h⟩ := h
    refine V_getI zf_13_7 zl_X7_82 e_v3 dX7_pass_25 ?_
    refine V_pc (pc' := 28) rfl ?_
    refine V_iconst (v := 1) dX7_pass_28 (by decide) ?_
    refine V_iadd dX7_pass_29 ?_
    refine V_iconst (v := 4) dX7_pass_30 (by decide) ?_
    refine V_irem dX7_pass_31 (by decide) ?_
    replace h := ob h
    obtain ⟨M4, e_M4, h⟩ := h
    refine V_putI zf_13_7 zl_X7_82 (Or.inl rfl) rfl e_M4 dX7_pass_32 ?_
    refine V_pc (pc' := 35) rfl ?_
    refine V_aload_n dX7_pass_35 rfl 0 rfl ?_
    refine V_iconst (v := 0) dX7_pass_36 (by decide) ?_
    replace h := ob h
    obtain ⟨M5, e_M5, h⟩ := h
    refine V_putI zf_13_6 zl_X7_50 (Or.inl rfl) rfl e_M5 dX7_pass_37 ?_
    refine V_pc (pc' := 40) rfl ?_
    refine V_aload_n dX7_pass_40 rfl 0 rfl ?_
    replace h := ob h
    obtain ⟨v6, e_v6, h⟩ := h
    refine V_getI zf_13_7 zl_X7_82 e_v6 dX7_pass_41 ?_
    refine V_pc (pc' := 44) rfl ?_
    obtain rfl := Option.some.inj h
    exact V_iret rfl hq dX7_pass_44
  · replace h := (oi h).2 c7
    refine V_iconst (v := 0) dX7_pass_21 (by decide) ?_
    obtain rfl := Option.some.inj h
    exact V_iret rfl hq dX7_pass_22
def f_X7_pass_0 (a0 : Nat) (M : zM) : Option (Int32 × zM) :=
  (gI 13 6 M a0).bind fun v1 =>
  if v1 = ((2 : Int32)) then
  f_X7_pass_14 a0 ((0 : Int32)) a0 M
  else
  f_X7_pass_14 a0 ((1 : Int32)) a0 M
set_option maxRecDepth 20000 in
set_option maxHeartbeats 4000000 in
theorem s_X7_pass_0 {L : zL} {X : zX} {M0 : zM} {N : Nat × Nat} {Q : State → Prop} {r : Int32 × zM} (hq : vQ L X M0 N Q (some (.int r.1)) r.2) {a0 : Nat} {M : zM} (h : f_X7_pass_0 a0 M = some r) : V L X yX7_pass cX7_pass 1 (some FieldType.int) 3 M0 N Q M 0 [(0, .ref (zad L (a0)))] [] := by
  unfold f_X7_pass_0 at h
  refine V_aload_n dX7_pass_0 rfl 0 rfl ?_
  refine V_aload_n dX7_pass_1 rfl 0 rfl ?_
  replace h := ob h
  obtain ⟨v1, e_v1, h⟩ := h
  refine V_getI zf_13_6 zl_X7_50 e_v1 dX7_pass_2 ?_
  refine V_pc (pc' := 5) rfl ?_
  refine V_iconst (v := 2) dX7_pass_5 (by decide) ?_
  refine V_icmp_eq (tgt := 13) dX7_pass_6 (by decide) (fun c2 => ?_) (fun c2 => ?_)
  · replace h := (oi h).1 c2
    refine V_iconst (v := 0) dX7_pass_13 (by decide) ?_
    exact s_X7_pass_14 hq h
  · replace h := (oi h).2 c2
    refine V_iconst (v := 1) dX7_pass_9 (by decide) ?_
    refine V_goto (tgt := 14) dX7_pass_10 (by decide) ?_
    exact s_X7_pass_14 hq h
def f_X7_pass (a0 : Nat) (M : zM) : Option (Int32 × zM) := f_X7_pass_0 a0 M
theorem c_X7_pass {L : zL} {l : Launch} {a0 : Nat} {M : zM} {r : Int32 × zM} (h : f_X7_pass a0 M = some r) : CP L l yX7_pass cX7_pass 1 (some FieldType.int) 3 M [.ref (zad L (a0))] (some (.int r.1)) r.2 :=
  CP.of ⟨by decide +kernel, by decide +kernel⟩ (Nat.le_of_ble_eq_true rfl) fun X Q hq => s_X7_pass_0 hq h
/-! java/lang/Math.floorMod(II)I -/
theorem dJ9_floorMod_7cf53_0 : decode cJ9_floorMod_7cf53 0 = .ok (.iload_n 0, 1) := by decide +kernel
theorem dJ9_floorMod_7cf53_1 : decode cJ9_floorMod_7cf53 1 = .ok (.iload_n 1, 1) := by decide +kernel
theorem dJ9_floorMod_7cf53_2 : decode cJ9_floorMod_7cf53 2 = .ok (.irem, 1) := by decide +kernel
theorem dJ9_floorMod_7cf53_3 : decode cJ9_floorMod_7cf53 3 = .ok (.istore_n 2, 1) := by decide +kernel
theorem dJ9_floorMod_7cf53_4 : decode cJ9_floorMod_7cf53 4 = .ok (.iload_n 0, 1) := by decide +kernel
theorem dJ9_floorMod_7cf53_5 : decode cJ9_floorMod_7cf53 5 = .ok (.iload_n 1, 1) := by decide +kernel
theorem dJ9_floorMod_7cf53_6 : decode cJ9_floorMod_7cf53 6 = .ok (.ixor, 1) := by decide +kernel
theorem dJ9_floorMod_7cf53_7 : decode cJ9_floorMod_7cf53 7 = .ok (.ifCond .ge 11, 3) := by decide +kernel
theorem dJ9_floorMod_7cf53_10 : decode cJ9_floorMod_7cf53 10 = .ok (.iload_n 2, 1) := by decide +kernel
theorem dJ9_floorMod_7cf53_11 : decode cJ9_floorMod_7cf53 11 = .ok (.ifCond .eq 7, 3) := by decide +kernel
theorem dJ9_floorMod_7cf53_14 : decode cJ9_floorMod_7cf53 14 = .ok (.iload_n 2, 1) := by decide +kernel
theorem dJ9_floorMod_7cf53_15 : decode cJ9_floorMod_7cf53 15 = .ok (.iload_n 1, 1) := by decide +kernel
theorem dJ9_floorMod_7cf53_16 : decode cJ9_floorMod_7cf53 16 = .ok (.iadd, 1) := by decide +kernel
theorem dJ9_floorMod_7cf53_17 : decode cJ9_floorMod_7cf53 17 = .ok (.ireturn, 1) := by decide +kernel
theorem dJ9_floorMod_7cf53_18 : decode cJ9_floorMod_7cf53 18 = .ok (.iload_n 2, 1) := by decide +kernel
theorem dJ9_floorMod_7cf53_19 : decode cJ9_floorMod_7cf53 19 = .ok (.ireturn, 1) := by decide +kernel
def f_J9_floorMod_7cf53_0 (i0 : Int32) (i1 : Int32) (M : zM) : Option (Int32 × zM) :=
  if i1 = 0 then none else
  if 0 ≤ ((i0 ^^^ i1)) then
  some ((zmd i0 i1), M)
  else
  if ((zmd i0 i1)) = 0 then
  some ((zmd i0 i1), M)
  else
  some ((((zmd i0 i1)) + i1), M)
set_option maxRecDepth 20000 in
set_option maxHeartbeats 4000000 in
theorem s_J9_floorMod_7cf53_0 {L : zL} {X : zX} {M0 : zM} {N : Nat × Nat} {Q : State → Prop} {r : Int32 × zM} (hq : vQ L X M0 N Q (some (.int r.1)) r.2) {i0 : Int32} {i1 : Int32} {M : zM} (h : f_J9_floorMod_7cf53_0 i0 i1 M = some r) : V L X yJ9_floorMod_7cf53 cJ9_floorMod_7cf53 3 (some FieldType.int) 1 M0 N Q M 0 [(0, .int (i0)), (1, .int (i1))] [] := by
  unfold f_J9_floorMod_7cf53_0 at h
  refine V_iload_n dJ9_floorMod_7cf53_0 rfl 0 rfl ?_
  refine V_iload_n dJ9_floorMod_7cf53_1 rfl 1 rfl ?_
  replace h := on h
  obtain ⟨c1, h⟩ := h
  refine V_irem dJ9_floorMod_7cf53_2 c1 ?_
  refine V_istore_n (ls' := [(2, .int ((zmd i0 i1))), (0, .int (i0)), (1, .int (i1))]) dJ9_floorMod_7cf53_3 rfl (by decide) rfl ?_
  refine V_iload_n dJ9_floorMod_7cf53_4 rfl 1 rfl ?_
  refine V_iload_n dJ9_floorMod_7cf53_5 rfl 2 rfl ?_
  refine V_ixor dJ9_floorMod_7cf53_6 ?_
  refine V_if_ge (tgt := 18) dJ9_floorMod_7cf53_7 (by decide) (fun c3 => ?_) (fun c3 => ?_)
  · replace h := (oi h).1 c3
    refine V_iload_n dJ9_floorMod_7cf53_18 rfl 0 rfl ?_
    obtain rfl := Option.some.inj h
    exact V_iret rfl hq dJ9_floorMod_7cf53_19
  · replace h := (oi h).2 c3
    refine V_iload_n dJ9_floorMod_7cf53_10 rfl 0 rfl ?_
    refine V_if_eq (tgt := 18) dJ9_floorMod_7cf53_11 (by decide) (fun c2 => ?_) (fun c2 => ?_)
    · replace h := (oi h).1 c2
      refine V_iload_n dJ9_floorMod_7cf53_18 rfl 0 rfl ?_
      obtain rfl := Option.some.inj h
      exact V_iret rfl hq dJ9_floorMod_7cf53_19
    · replace h := (oi h).2 c2
      refine V_iload_n dJ9_floorMod_7cf53_14 rfl 0 rfl ?_
      refine V_iload_n dJ9_floorMod_7cf53_15 rfl 2 rfl ?_
      refine V_iadd dJ9_floorMod_7cf53_16 ?_
      obtain rfl := Option.some.inj h
      exact V_iret rfl hq dJ9_floorMod_7cf53_17
def f_J9_floorMod_7cf53 (i0 : Int32) (i1 : Int32) (M : zM) : Option (Int32 × zM) := f_J9_floorMod_7cf53_0 i0 i1 M
theorem c_J9_floorMod_7cf53 {L : zL} {l : Launch} {i0 : Int32} {i1 : Int32} {M : zM} {r : Int32 × zM} (h : f_J9_floorMod_7cf53 i0 i1 M = some r) : CP L l yJ9_floorMod_7cf53 cJ9_floorMod_7cf53 3 (some FieldType.int) 1 M [.int (i0), .int (i1)] (some (.int r.1)) r.2 :=
  CP.of ⟨by decide +kernel, by decide +kernel⟩ (Nat.le_of_ble_eq_true rfl) fun X Q hq => s_J9_floorMod_7cf53_0 hq h
/-! WindsparlourModel.wind(I)I -/
theorem dX7_wind_0 : decode cX7_wind 0 = .ok (.iload_n 1, 1) := by decide +kernel
theorem dX7_wind_1 : decode cX7_wind 1 = .ok (.aload_n 0, 1) := by decide +kernel
theorem dX7_wind_2 : decode cX7_wind 2 = .ok (.getfield 53, 3) := by decide +kernel
theorem dX7_wind_5 : decode cX7_wind 5 = .ok (.isub, 1) := by decide +kernel
theorem dX7_wind_6 : decode cX7_wind 6 = .ok (.iconst 4, 1) := by decide +kernel
theorem dX7_wind_7 : decode cX7_wind 7 = .ok (.invokestatic 194, 3) := by decide +kernel
theorem dX7_wind_10 : decode cX7_wind 10 = .ok (.ireturn, 1) := by decide +kernel
def f_X7_wind_0 (a0 : Nat) (i1 : Int32) (M : zM) : Option (Int32 × zM) :=
  (gI 13 8 M a0).bind fun v1 =>
  (f_J9_floorMod_7cf53 ((i1 - v1)) ((4 : Int32)) M).bind fun r2 =>
  some (r2.1, r2.2)
set_option maxRecDepth 20000 in
set_option maxHeartbeats 4000000 in
theorem s_X7_wind_0 {L : zL} {X : zX} {M0 : zM} {N : Nat × Nat} {Q : State → Prop} {r : Int32 × zM} (hq : vQ L X M0 N Q (some (.int r.1)) r.2) {a0 : Nat} {i1 : Int32} {M : zM} (h : f_X7_wind_0 a0 i1 M = some r) : V L X yX7_wind cX7_wind 2 (some FieldType.int) 2 M0 N Q M 0 [(0, .ref (zad L (a0))), (1, .int (i1))] [] := by
  unfold f_X7_wind_0 at h
  refine V_iload_n dX7_wind_0 rfl 1 rfl ?_
  refine V_aload_n dX7_wind_1 rfl 0 rfl ?_
  replace h := ob h
  obtain ⟨v1, e_v1, h⟩ := h
  refine V_getI zf_13_8 zl_X7_53 e_v1 dX7_wind_2 ?_
  refine V_pc (pc' := 5) rfl ?_
  refine V_isub dX7_wind_5 ?_
  refine V_iconst (v := 4) dX7_wind_6 (by decide) ?_
  replace h := ob h
  obtain ⟨r2, e_r2, h⟩ := h
  refine V_callS_I (As := [.int ((i1 - v1)), .int ((4 : Int32))]) (rest := []) (c_J9_floorMod_7cf53 e_r2) zc_J9_floorMod_7cf53 rfl (by decide) zm_X7_194 (Nat.le_of_ble_eq_true rfl) rfl dX7_wind_7 ?_
  refine V_pc (pc' := 10) rfl ?_
  obtain rfl := Option.some.inj h
  exact V_iret rfl hq dX7_wind_10
def f_X7_wind (a0 : Nat) (i1 : Int32) (M : zM) : Option (Int32 × zM) := f_X7_wind_0 a0 i1 M
theorem c_X7_wind {L : zL} {l : Launch} {a0 : Nat} {i1 : Int32} {M : zM} {r : Int32 × zM} (h : f_X7_wind a0 i1 M = some r) : CP L l yX7_wind cX7_wind 2 (some FieldType.int) 2 M [.ref (zad L (a0)), .int (i1)] (some (.int r.1)) r.2 :=
  CP.of ⟨by decide +kernel, by decide +kernel⟩ (Nat.le_of_ble_eq_true rfl) fun X Q hq => s_X7_wind_0 hq h
/-! WindsparlourModel.areAll([III)Z -/
theorem dX7_areAll_0 : decode cX7_areAll 0 = .ok (.iconst 0, 1) := by decide +kernel
theorem dX7_areAll_1 : decode cX7_areAll 1 = .ok (.istore_n 3, 1) := by decide +kernel
theorem dX7_areAll_2 : decode cX7_areAll 2 = .ok (.iload_n 3, 1) := by decide +kernel
theorem dX7_areAll_3 : decode cX7_areAll 3 = .ok (.bipush 25, 2) := by decide +kernel
theorem dX7_areAll_5 : decode cX7_areAll 5 = .ok (.if_icmp .ge 26, 3) := by decide +kernel
theorem dX7_areAll_8 : decode cX7_areAll 8 = .ok (.aload_n 0, 1) := by decide +kernel
theorem dX7_areAll_9 : decode cX7_areAll 9 = .ok (.iload_n 3, 1) := by decide +kernel
theorem dX7_areAll_10 : decode cX7_areAll 10 = .ok (.iaload, 1) := by decide +kernel
theorem dX7_areAll_11 : decode cX7_areAll 11 = .ok (.ifCond .le 14, 3) := by decide +kernel
theorem dX7_areAll_14 : decode cX7_areAll 14 = .ok (.iload_n 3, 1) := by decide +kernel
theorem dX7_areAll_15 : decode cX7_areAll 15 = .ok (.iload_n 1, 1) := by decide +kernel
theorem dX7_areAll_16 : decode cX7_areAll 16 = .ok (.iload_n 2, 1) := by decide +kernel
theorem dX7_areAll_17 : decode cX7_areAll 17 = .ok (.invokestatic 3, 3) := by decide +kernel
theorem dX7_areAll_20 : decode cX7_areAll 20 = .ok (.ifCond .ne 5, 3) := by decide +kernel
theorem dX7_areAll_23 : decode cX7_areAll 23 = .ok (.iconst 0, 1) := by decide +kernel
theorem dX7_areAll_24 : decode cX7_areAll 24 = .ok (.ireturn, 1) := by decide +kernel
theorem dX7_areAll_25 : decode cX7_areAll 25 = .ok (.iinc 3 1, 3) := by decide +kernel
theorem dX7_areAll_28 : decode cX7_areAll 28 = .ok (.goto (-26), 3) := by decide +kernel
theorem dX7_areAll_31 : decode cX7_areAll 31 = .ok (.iconst 1, 1) := by decide +kernel
theorem dX7_areAll_32 : decode cX7_areAll 32 = .ok (.ireturn, 1) := by decide +kernel
def f_X7_areAll_2 (n : Nat) (a0 : Nat) (i1 : Int32) (i2 : Int32) (i3 : Int32) (M : zM) : Option (Int32 × zM) := match n with
  | 0 => none
  | n + 1 =>
    if ((25 : Int32)) ≤ i3 then
    some ((1 : Int32), M)
    else
    (lA 0 M a0 i3).bind fun v1 =>
    if v1 ≤ 0 then
    f_X7_areAll_2 n a0 i1 i2 ((i3 + (1 : Int32))) M
    else
    (f_X7_isIn i3 i1 i2 M).bind fun r2 =>
    if r2.1 = 0 then
    some ((0 : Int32), r2.2)
    else
    f_X7_areAll_2 n a0 i1 i2 ((i3 + (1 : Int32))) r2.2
set_option maxRecDepth 20000 in
set_option maxHeartbeats 4000000 in
theorem s_X7_areAll_2 {L : zL} {X : zX} {M0 : zM} {N : Nat × Nat} {Q : State → Prop} {r : Int32 × zM} (hq : vQ L X M0 N Q (some (.int r.1)) r.2) {n : Nat} {a0 : Nat} {i1 : Int32} {i2 : Int32} {i3 : Int32} {M : zM} : f_X7_areAll_2 n a0 i1 i2 i3 M = some r → V L X yX7_areAll cX7_areAll 4 (some FieldType.boolean) 2 M0 N Q M 2 [(0, .ref (zad L (a0))), (1, .int (i1)), (2, .int (i2)), (3, .int (i3))] [] := by
  induction n generalizing a0 i1 i2 i3 M with
  | zero =>
    intro h
    rw [f_X7_areAll_2] at h
    cases h
  | succ n ih0 =>
    intro h
    have ih : ∀ (a0 : Nat) (i1 : Int32) (i2 : Int32) (i3 : Int32) (M : zM), f_X7_areAll_2 n a0 i1 i2 i3 M = some r → V L X yX7_areAll cX7_areAll 4 (some FieldType.boolean) 2 M0 N Q M 2 [(0, .ref (zad L (a0))), (1, .int (i1)), (2, .int (i2)), (3, .int (i3))] [] := fun a0 i1 i2 i3 M h => ih0 h
    rw [f_X7_areAll_2] at h
    refine V_iload_n dX7_areAll_2 rfl 3 rfl ?_
    refine V_bipush (v := 25) dX7_areAll_3 (by decide) ?_
    refine V_icmp_ge (tgt := 31) dX7_areAll_5 (by decide) (fun c5 => ?_) (fun c5 => ?_)
    · replace h := (oi h).1 c5
      refine V_iconst (v := 1) dX7_areAll_31 (by decide) ?_
      obtain rfl := Option.some.inj h
      exact V_zret (ty := .boolean) rfl rfl hq dX7_areAll_32
    · replace h := (oi h).2 c5
      refine V_aload_n dX7_areAll_8 rfl 0 rfl ?_
      refine V_iload_n dX7_areAll_9 rfl 3 rfl ?_
      replace h := ob h
      obtain ⟨v1, e_v1, h⟩ := h
      refine V_iald e_v1 dX7_areAll_10 ?_
      refine V_pc (pc' := 11) rfl ?_
      refine V_if_le (tgt := 25) dX7_areAll_11 (by decide) (fun c4 => ?_) (fun c4 => ?_)
      · replace h := (oi h).1 c4
        refine V_iinc (v := i3 + (1 : Int32)) (ls' := [(3, .int ((i3 + (1 : Int32)))), (0, .ref (zad L (a0))), (1, .int (i1)), (2, .int (i2))]) dX7_areAll_25 3 rfl (by rfl) (by decide) rfl ?_
        refine V_goto (tgt := 2) dX7_areAll_28 (by decide) ?_
        refine V_sub [1, 2, 3, 0] rfl ?_
        exact ih _ _ _ _ _ h
      · replace h := (oi h).2 c4
        refine V_iload_n dX7_areAll_14 rfl 3 rfl ?_
        refine V_iload_n dX7_areAll_15 rfl 1 rfl ?_
        refine V_iload_n dX7_areAll_16 rfl 2 rfl ?_
        replace h := ob h
        obtain ⟨r2, e_r2, h⟩ := h
        refine V_callS_I (As := [.int (i3), .int (i1), .int (i2)]) (rest := []) (c_X7_isIn e_r2) zc_X7_isIn rfl (by decide) zm_X7_3 (Nat.le_of_ble_eq_true rfl) rfl dX7_areAll_17 ?_
        refine V_pc (pc' := 20) rfl ?_
        refine V_if_ne (tgt := 25) dX7_areAll_20 (by decide) (fun c3 => ?_) (fun c3 => ?_)
        · replace h := (oi h).2 c3
          refine V_iinc (v := i3 + (1 : Int32)) (ls' := [(3, .int ((i3 + (1 : Int32)))), (0, .ref (zad L (a0))), (1, .int (i1)), (2, .int (i2))]) dX7_areAll_25 3 rfl (by rfl) (by decide) rfl ?_
          refine V_goto (tgt := 2) dX7_areAll_28 (by decide) ?_
          refine V_sub [1, 2, 3, 0] rfl ?_
          exact ih _ _ _ _ _ h
        · replace h := (oi h).1 c3
          refine V_iconst (v := 0) dX7_areAll_23 (by decide) ?_
          obtain rfl := Option.some.inj h
          exact V_zret (ty := .boolean) rfl rfl hq dX7_areAll_24
def f_X7_areAll_0 (a0 : Nat) (i1 : Int32) (i2 : Int32) (M : zM) : Option (Int32 × zM) :=
  f_X7_areAll_2 zN a0 i1 i2 ((0 : Int32)) M
set_option maxRecDepth 20000 in
set_option maxHeartbeats 4000000 in
theorem s_X7_areAll_0 {L : zL} {X : zX} {M0 : zM} {N : Nat × Nat} {Q : State → Prop} {r : Int32 × zM} (hq : vQ L X M0 N Q (some (.int r.1)) r.2) {a0 : Nat} {i1 : Int32} {i2 : Int32} {M : zM} (h : f_X7_areAll_0 a0 i1 i2 M = some r) : V L X yX7_areAll cX7_areAll 4 (some FieldType.boolean) 2 M0 N Q M 0 [(0, .ref (zad L (a0))), (1, .int (i1)), (2, .int (i2))] [] := by
  unfold f_X7_areAll_0 at h
  refine V_iconst (v := 0) dX7_areAll_0 (by decide) ?_
  refine V_istore_n (ls' := [(3, .int ((0 : Int32))), (0, .ref (zad L (a0))), (1, .int (i1)), (2, .int (i2))]) dX7_areAll_1 rfl (by decide) rfl ?_
  refine V_sub [1, 2, 3, 0] rfl ?_
  exact s_X7_areAll_2 hq h
def f_X7_areAll (a0 : Nat) (i1 : Int32) (i2 : Int32) (M : zM) : Option (Int32 × zM) := f_X7_areAll_0 a0 i1 i2 M
theorem c_X7_areAll {L : zL} {l : Launch} {a0 : Nat} {i1 : Int32} {i2 : Int32} {M : zM} {r : Int32 × zM} (h : f_X7_areAll a0 i1 i2 M = some r) : CP L l yX7_areAll cX7_areAll 4 (some FieldType.boolean) 2 M [.ref (zad L (a0)), .int (i1), .int (i2)] (some (.int r.1)) r.2 :=
  CP.of ⟨by decide +kernel, by decide +kernel⟩ (Nat.le_of_ble_eq_true rfl) fun X Q hq => s_X7_areAll_0 hq h
/-! WindsparlourModel.valueOfTiles(LWindsparlourModel$Player;Z)I -/
theorem dX7_valueOfTiles_0 : decode cX7_valueOfTiles 0 = .ok (.bipush 25, 2) := by decide +kernel
theorem dX7_valueOfTiles_2 : decode cX7_valueOfTiles 2 = .ok (.newarray .int, 2) := by decide +kernel
theorem dX7_valueOfTiles_4 : decode cX7_valueOfTiles 4 = .ok (.astore_n 3, 1) := by decide +kernel
theorem dX7_valueOfTiles_5 : decode cX7_valueOfTiles 5 = .ok (.iconst 1, 1) := by decide +kernel
theorem dX7_valueOfTiles_6 : decode cX7_valueOfTiles 6 = .ok (.istore 4, 2) := by decide +kernel
theorem dX7_valueOfTiles_8 : decode cX7_valueOfTiles 8 = .ok (.iconst 0, 1) := by decide +kernel
theorem dX7_valueOfTiles_9 : decode cX7_valueOfTiles 9 = .ok (.istore 5, 2) := by decide +kernel
theorem dX7_valueOfTiles_11 : decode cX7_valueOfTiles 11 = .ok (.iconst 0, 1) := by decide +kernel
theorem dX7_valueOfTiles_12 : decode cX7_valueOfTiles 12 = .ok (.istore 6, 2) := by decide +kernel
theorem dX7_valueOfTiles_14 : decode cX7_valueOfTiles 14 = .ok (.iload 6, 2) := by decide +kernel
theorem dX7_valueOfTiles_16 : decode cX7_valueOfTiles 16 = .ok (.bipush 25, 2) := by decide +kernel
theorem dX7_valueOfTiles_18 : decode cX7_valueOfTiles 18 = .ok (.if_icmp .ge 113, 3) := by decide +kernel
theorem dX7_valueOfTiles_21 : decode cX7_valueOfTiles 21 = .ok (.aload_n 3, 1) := by decide +kernel
theorem dX7_valueOfTiles_22 : decode cX7_valueOfTiles 22 = .ok (.iload 6, 2) := by decide +kernel
theorem dX7_valueOfTiles_24 : decode cX7_valueOfTiles 24 = .ok (.aload_n 1, 1) := by decide +kernel
theorem dX7_valueOfTiles_25 : decode cX7_valueOfTiles 25 = .ok (.getfield 94, 3) := by decide +kernel
theorem dX7_valueOfTiles_28 : decode cX7_valueOfTiles 28 = .ok (.iload 6, 2) := by decide +kernel
theorem dX7_valueOfTiles_30 : decode cX7_valueOfTiles 30 = .ok (.iaload, 1) := by decide +kernel
theorem dX7_valueOfTiles_31 : decode cX7_valueOfTiles 31 = .ok (.iastore, 1) := by decide +kernel
theorem dX7_valueOfTiles_32 : decode cX7_valueOfTiles 32 = .ok (.aload_n 1, 1) := by decide +kernel
theorem dX7_valueOfTiles_33 : decode cX7_valueOfTiles 33 = .ok (.getfield 183, 3) := by decide +kernel
theorem dX7_valueOfTiles_36 : decode cX7_valueOfTiles 36 = .ok (.invokevirtual 197, 3) := by decide +kernel
theorem dX7_valueOfTiles_39 : decode cX7_valueOfTiles 39 = .ok (.astore 7, 2) := by decide +kernel
theorem dX7_valueOfTiles_41 : decode cX7_valueOfTiles 41 = .ok (.aload 7, 2) := by decide +kernel
theorem dX7_valueOfTiles_43 : decode cX7_valueOfTiles 43 = .ok (.invokeinterface 201 1, 5) := by decide +kernel
theorem dX7_valueOfTiles_48 : decode cX7_valueOfTiles 48 = .ok (.ifCond .eq 32, 3) := by decide +kernel
theorem dX7_valueOfTiles_51 : decode cX7_valueOfTiles 51 = .ok (.aload 7, 2) := by decide +kernel
theorem dX7_valueOfTiles_53 : decode cX7_valueOfTiles 53 = .ok (.invokeinterface 206 1, 5) := by decide +kernel
theorem dX7_valueOfTiles_58 : decode cX7_valueOfTiles 58 = .ok (.checkcast 186, 3) := by decide +kernel
theorem dX7_valueOfTiles_61 : decode cX7_valueOfTiles 61 = .ok (.astore 8, 2) := by decide +kernel
theorem dX7_valueOfTiles_63 : decode cX7_valueOfTiles 63 = .ok (.aload_n 3, 1) := by decide +kernel
theorem dX7_valueOfTiles_64 : decode cX7_valueOfTiles 64 = .ok (.iload 6, 2) := by decide +kernel
theorem dX7_valueOfTiles_66 : decode cX7_valueOfTiles 66 = .ok (.dup2, 1) := by decide +kernel
theorem dX7_valueOfTiles_67 : decode cX7_valueOfTiles 67 = .ok (.iaload, 1) := by decide +kernel
theorem dX7_valueOfTiles_68 : decode cX7_valueOfTiles 68 = .ok (.aload 8, 2) := by decide +kernel
theorem dX7_valueOfTiles_70 : decode cX7_valueOfTiles 70 = .ok (.iload 6, 2) := by decide +kernel
theorem dX7_valueOfTiles_72 : decode cX7_valueOfTiles 72 = .ok (.invokevirtual 210, 3) := by decide +kernel
theorem dX7_valueOfTiles_75 : decode cX7_valueOfTiles 75 = .ok (.iadd, 1) := by decide +kernel
theorem dX7_valueOfTiles_76 : decode cX7_valueOfTiles 76 = .ok (.iastore, 1) := by decide +kernel
theorem dX7_valueOfTiles_77 : decode cX7_valueOfTiles 77 = .ok (.goto (-36), 3) := by decide +kernel
theorem dX7_valueOfTiles_80 : decode cX7_valueOfTiles 80 = .ok (.aload_n 3, 1) := by decide +kernel
theorem dX7_valueOfTiles_81 : decode cX7_valueOfTiles 81 = .ok (.iload 6, 2) := by decide +kernel
theorem dX7_valueOfTiles_83 : decode cX7_valueOfTiles 83 = .ok (.iaload, 1) := by decide +kernel
theorem dX7_valueOfTiles_84 : decode cX7_valueOfTiles 84 = .ok (.ifCond .ne 6, 3) := by decide +kernel
theorem dX7_valueOfTiles_87 : decode cX7_valueOfTiles 87 = .ok (.goto 38, 3) := by decide +kernel
theorem dX7_valueOfTiles_90 : decode cX7_valueOfTiles 90 = .ok (.iload 4, 2) := by decide +kernel
theorem dX7_valueOfTiles_92 : decode cX7_valueOfTiles 92 = .ok (.iload 6, 2) := by decide +kernel
theorem dX7_valueOfTiles_94 : decode cX7_valueOfTiles 94 = .ok (.invokestatic 213, 3) := by decide +kernel
theorem dX7_valueOfTiles_97 : decode cX7_valueOfTiles 97 = .ok (.ifCond .ne 7, 3) := by decide +kernel
theorem dX7_valueOfTiles_100 : decode cX7_valueOfTiles 100 = .ok (.iconst 1, 1) := by decide +kernel
theorem dX7_valueOfTiles_101 : decode cX7_valueOfTiles 101 = .ok (.goto 4, 3) := by decide +kernel
theorem dX7_valueOfTiles_104 : decode cX7_valueOfTiles 104 = .ok (.iconst 0, 1) := by decide +kernel
theorem dX7_valueOfTiles_105 : decode cX7_valueOfTiles 105 = .ok (.iand, 1) := by decide +kernel
theorem dX7_valueOfTiles_106 : decode cX7_valueOfTiles 106 = .ok (.istore 4, 2) := by decide +kernel
theorem dX7_valueOfTiles_108 : decode cX7_valueOfTiles 108 = .ok (.iload 5, 2) := by decide +kernel
theorem dX7_valueOfTiles_110 : decode cX7_valueOfTiles 110 = .ok (.iload 6, 2) := by decide +kernel
theorem dX7_valueOfTiles_112 : decode cX7_valueOfTiles 112 = .ok (.bipush 18, 2) := by decide +kernel
theorem dX7_valueOfTiles_114 : decode cX7_valueOfTiles 114 = .ok (.if_icmp .lt 7, 3) := by decide +kernel
theorem dX7_valueOfTiles_117 : decode cX7_valueOfTiles 117 = .ok (.iconst 1, 1) := by decide +kernel
theorem dX7_valueOfTiles_118 : decode cX7_valueOfTiles 118 = .ok (.goto 4, 3) := by decide +kernel
theorem dX7_valueOfTiles_121 : decode cX7_valueOfTiles 121 = .ok (.iconst 0, 1) := by decide +kernel
theorem dX7_valueOfTiles_122 : decode cX7_valueOfTiles 122 = .ok (.ior, 1) := by decide +kernel
theorem dX7_valueOfTiles_123 : decode cX7_valueOfTiles 123 = .ok (.istore 5, 2) := by decide +kernel
theorem dX7_valueOfTiles_125 : decode cX7_valueOfTiles 125 = .ok (.iinc 6 1, 3) := by decide +kernel
theorem dX7_valueOfTiles_128 : decode cX7_valueOfTiles 128 = .ok (.goto (-114), 3) := by decide +kernel
theorem dX7_valueOfTiles_131 : decode cX7_valueOfTiles 131 = .ok (.iconst 1, 1) := by decide +kernel
theorem dX7_valueOfTiles_132 : decode cX7_valueOfTiles 132 = .ok (.aload_n 1, 1) := by decide +kernel
theorem dX7_valueOfTiles_133 : decode cX7_valueOfTiles 133 = .ok (.getfield 151, 3) := by decide +kernel
theorem dX7_valueOfTiles_136 : decode cX7_valueOfTiles 136 = .ok (.ifCond .eq 7, 3) := by decide +kernel
theorem dX7_valueOfTiles_139 : decode cX7_valueOfTiles 139 = .ok (.iconst 1, 1) := by decide +kernel
theorem dX7_valueOfTiles_140 : decode cX7_valueOfTiles 140 = .ok (.goto 4, 3) := by decide +kernel
theorem dX7_valueOfTiles_143 : decode cX7_valueOfTiles 143 = .ok (.iconst 0, 1) := by decide +kernel
theorem dX7_valueOfTiles_144 : decode cX7_valueOfTiles 144 = .ok (.iadd, 1) := by decide +kernel
theorem dX7_valueOfTiles_145 : decode cX7_valueOfTiles 145 = .ok (.iload_n 2, 1) := by decide +kernel
theorem dX7_valueOfTiles_146 : decode cX7_valueOfTiles 146 = .ok (.ifCond .eq 14, 3) := by decide +kernel
theorem dX7_valueOfTiles_149 : decode cX7_valueOfTiles 149 = .ok (.aload_n 1, 1) := by decide +kernel
theorem dX7_valueOfTiles_150 : decode cX7_valueOfTiles 150 = .ok (.invokevirtual 158, 3) := by decide +kernel
theorem dX7_valueOfTiles_153 : decode cX7_valueOfTiles 153 = .ok (.ifCond .ne 7, 3) := by decide +kernel
theorem dX7_valueOfTiles_156 : decode cX7_valueOfTiles 156 = .ok (.iconst 1, 1) := by decide +kernel
theorem dX7_valueOfTiles_157 : decode cX7_valueOfTiles 157 = .ok (.goto 4, 3) := by decide +kernel
theorem dX7_valueOfTiles_160 : decode cX7_valueOfTiles 160 = .ok (.iconst 0, 1) := by decide +kernel
theorem dX7_valueOfTiles_161 : decode cX7_valueOfTiles 161 = .ok (.iadd, 1) := by decide +kernel
theorem dX7_valueOfTiles_162 : decode cX7_valueOfTiles 162 = .ok (.aload_n 3, 1) := by decide +kernel
theorem dX7_valueOfTiles_163 : decode cX7_valueOfTiles 163 = .ok (.aload_n 0, 1) := by decide +kernel
theorem dX7_valueOfTiles_164 : decode cX7_valueOfTiles 164 = .ok (.getfield 46, 3) := by decide +kernel
theorem dX7_valueOfTiles_167 : decode cX7_valueOfTiles 167 = .ok (.iaload, 1) := by decide +kernel
theorem dX7_valueOfTiles_168 : decode cX7_valueOfTiles 168 = .ok (.iadd, 1) := by decide +kernel
theorem dX7_valueOfTiles_169 : decode cX7_valueOfTiles 169 = .ok (.iload 4, 2) := by decide +kernel
theorem dX7_valueOfTiles_171 : decode cX7_valueOfTiles 171 = .ok (.ifCond .eq 7, 3) := by decide +kernel
theorem dX7_valueOfTiles_174 : decode cX7_valueOfTiles 174 = .ok (.iconst 1, 1) := by decide +kernel
theorem dX7_valueOfTiles_175 : decode cX7_valueOfTiles 175 = .ok (.goto 4, 3) := by decide +kernel
theorem dX7_valueOfTiles_178 : decode cX7_valueOfTiles 178 = .ok (.iconst 0, 1) := by decide +kernel
theorem dX7_valueOfTiles_179 : decode cX7_valueOfTiles 179 = .ok (.iadd, 1) := by decide +kernel
theorem dX7_valueOfTiles_180 : decode cX7_valueOfTiles 180 = .ok (.istore 6, 2) := by decide +kernel
theorem dX7_valueOfTiles_182 : decode cX7_valueOfTiles 182 = .ok (.bipush 25, 2) := by decide +kernel
theorem dX7_valueOfTiles_184 : decode cX7_valueOfTiles 184 = .ok (.newarray .int, 2) := by decide +kernel
theorem dX7_valueOfTiles_186 : decode cX7_valueOfTiles 186 = .ok (.astore 7, 2) := by decide +kernel
theorem dX7_valueOfTiles_188 : decode cX7_valueOfTiles 188 = .ok (.aload_n 3, 1) := by decide +kernel
theorem dX7_valueOfTiles_189 : decode cX7_valueOfTiles 189 = .ok (.iconst 0, 1) := by decide +kernel
theorem dX7_valueOfTiles_190 : decode cX7_valueOfTiles 190 = .ok (.aload 7, 2) := by decide +kernel
theorem dX7_valueOfTiles_192 : decode cX7_valueOfTiles 192 = .ok (.iconst 0, 1) := by decide +kernel
theorem dX7_valueOfTiles_193 : decode cX7_valueOfTiles 193 = .ok (.bipush 18, 2) := by decide +kernel
theorem dX7_valueOfTiles_195 : decode cX7_valueOfTiles 195 = .ok (.invokestatic 216, 3) := by decide +kernel
theorem dX7_valueOfTiles_198 : decode cX7_valueOfTiles 198 = .ok (.aload 7, 2) := by decide +kernel
theorem dX7_valueOfTiles_200 : decode cX7_valueOfTiles 200 = .ok (.bipush 18, 2) := by decide +kernel
theorem dX7_valueOfTiles_202 : decode cX7_valueOfTiles 202 = .ok (.bipush 24, 2) := by decide +kernel
theorem dX7_valueOfTiles_204 : decode cX7_valueOfTiles 204 = .ok (.invokestatic 222, 3) := by decide +kernel
theorem dX7_valueOfTiles_207 : decode cX7_valueOfTiles 207 = .ok (.ifCond .ne 7, 3) := by decide +kernel
theorem dX7_valueOfTiles_210 : decode cX7_valueOfTiles 210 = .ok (.iconst 1, 1) := by decide +kernel
theorem dX7_valueOfTiles_211 : decode cX7_valueOfTiles 211 = .ok (.goto 4, 3) := by decide +kernel
theorem dX7_valueOfTiles_214 : decode cX7_valueOfTiles 214 = .ok (.iconst 0, 1) := by decide +kernel
theorem dX7_valueOfTiles_215 : decode cX7_valueOfTiles 215 = .ok (.istore 8, 2) := by decide +kernel
theorem dX7_valueOfTiles_217 : decode cX7_valueOfTiles 217 = .ok (.iload 8, 2) := by decide +kernel
theorem dX7_valueOfTiles_219 : decode cX7_valueOfTiles 219 = .ok (.ifCond .eq 30, 3) := by decide +kernel
theorem dX7_valueOfTiles_222 : decode cX7_valueOfTiles 222 = .ok (.aload 7, 2) := by decide +kernel
theorem dX7_valueOfTiles_224 : decode cX7_valueOfTiles 224 = .ok (.iconst 0, 1) := by decide +kernel
theorem dX7_valueOfTiles_225 : decode cX7_valueOfTiles 225 = .ok (.bipush 8, 2) := by decide +kernel
theorem dX7_valueOfTiles_227 : decode cX7_valueOfTiles 227 = .ok (.invokestatic 222, 3) := by decide +kernel
theorem dX7_valueOfTiles_230 : decode cX7_valueOfTiles 230 = .ok (.ifCond .ne 15, 3) := by decide +kernel
theorem dX7_valueOfTiles_233 : decode cX7_valueOfTiles 233 = .ok (.aload 7, 2) := by decide +kernel
theorem dX7_valueOfTiles_235 : decode cX7_valueOfTiles 235 = .ok (.bipush 9, 2) := by decide +kernel
theorem dX7_valueOfTiles_237 : decode cX7_valueOfTiles 237 = .ok (.bipush 17, 2) := by decide +kernel
theorem dX7_valueOfTiles_239 : decode cX7_valueOfTiles 239 = .ok (.invokestatic 222, 3) := by decide +kernel
theorem dX7_valueOfTiles_242 : decode cX7_valueOfTiles 242 = .ok (.ifCond .eq 7, 3) := by decide +kernel
theorem dX7_valueOfTiles_245 : decode cX7_valueOfTiles 245 = .ok (.iconst 1, 1) := by decide +kernel
theorem dX7_valueOfTiles_246 : decode cX7_valueOfTiles 246 = .ok (.goto 4, 3) := by decide +kernel
theorem dX7_valueOfTiles_249 : decode cX7_valueOfTiles 249 = .ok (.iconst 0, 1) := by decide +kernel
theorem dX7_valueOfTiles_250 : decode cX7_valueOfTiles 250 = .ok (.istore 9, 2) := by decide +kernel
theorem dX7_valueOfTiles_252 : decode cX7_valueOfTiles 252 = .ok (.iload 6, 2) := by decide +kernel
theorem dX7_valueOfTiles_254 : decode cX7_valueOfTiles 254 = .ok (.iload 9, 2) := by decide +kernel
theorem dX7_valueOfTiles_256 : decode cX7_valueOfTiles 256 = .ok (.ifCond .ne 7, 3) := by decide +kernel
theorem dX7_valueOfTiles_259 : decode cX7_valueOfTiles 259 = .ok (.iconst 0, 1) := by decide +kernel
theorem dX7_valueOfTiles_260 : decode cX7_valueOfTiles 260 = .ok (.goto 13, 3) := by decide +kernel
theorem dX7_valueOfTiles_263 : decode cX7_valueOfTiles 263 = .ok (.iload 5, 2) := by decide +kernel
theorem dX7_valueOfTiles_265 : decode cX7_valueOfTiles 265 = .ok (.ifCond .eq 7, 3) := by decide +kernel
theorem dX7_valueOfTiles_268 : decode cX7_valueOfTiles 268 = .ok (.iconst 2, 1) := by decide +kernel
theorem dX7_valueOfTiles_269 : decode cX7_valueOfTiles 269 = .ok (.goto 4, 3) := by decide +kernel
theorem dX7_valueOfTiles_272 : decode cX7_valueOfTiles 272 = .ok (.iconst 4, 1) := by decide +kernel
theorem dX7_valueOfTiles_273 : decode cX7_valueOfTiles 273 = .ok (.iadd, 1) := by decide +kernel
theorem dX7_valueOfTiles_274 : decode cX7_valueOfTiles 274 = .ok (.ireturn, 1) := by decide +kernel
def f_X7_valueOfTiles_250 (i5 : Int32) (i6 : Int32) (i_0 : Int32) (M : zM) : Option (Int32 × zM) :=
  if i_0 = 0 then
  some ((i6 + ((0 : Int32))), M)
  else
  if i5 = 0 then
  some ((i6 + ((4 : Int32))), M)
  else
  some ((i6 + ((2 : Int32))), M)
set_option maxRecDepth 20000 in
set_option maxHeartbeats 4000000 in
theorem s_X7_valueOfTiles_250 {L : zL} {X : zX} {M0 : zM} {N : Nat × Nat} {Q : State → Prop} {r : Int32 × zM} (hq : vQ L X M0 N Q (some (.int r.1)) r.2) {i5 : Int32} {i6 : Int32} {i_0 : Int32} {M : zM} (h : f_X7_valueOfTiles_250 i5 i6 i_0 M = some r) : V L X yX7_valueOfTiles cX7_valueOfTiles 10 (some FieldType.int) 4 M0 N Q M 250 [(5, .int (i5)), (6, .int (i6))] [.int (i_0)] := by
  unfold f_X7_valueOfTiles_250 at h
  refine V_istore (ls' := [(9, .int (i_0)), (5, .int (i5)), (6, .int (i6))]) dX7_valueOfTiles_250 (by decide) rfl ?_
  refine V_iload dX7_valueOfTiles_252 2 rfl ?_
  refine V_iload dX7_valueOfTiles_254 0 rfl ?_
  refine V_if_ne (tgt := 263) dX7_valueOfTiles_256 (by decide) (fun c2 => ?_) (fun c2 => ?_)
  · replace h := (oi h).2 c2
    refine V_iload dX7_valueOfTiles_263 1 rfl ?_
    refine V_if_eq (tgt := 272) dX7_valueOfTiles_265 (by decide) (fun c1 => ?_) (fun c1 => ?_)
    · replace h := (oi h).1 c1
      refine V_iconst (v := 4) dX7_valueOfTiles_272 (by decide) ?_
      refine V_iadd dX7_valueOfTiles_273 ?_
      obtain rfl := Option.some.inj h
      exact V_iret rfl hq dX7_valueOfTiles_274
    · replace h := (oi h).2 c1
      refine V_iconst (v := 2) dX7_valueOfTiles_268 (by decide) ?_
      refine V_goto (tgt := 273) dX7_valueOfTiles_269 (by decide) ?_
      refine V_iadd dX7_valueOfTiles_273 ?_
      obtain rfl := Option.some.inj h
      exact V_iret rfl hq dX7_valueOfTiles_274
  · replace h := (oi h).1 c2
    refine V_iconst (v := 0) dX7_valueOfTiles_259 (by decide) ?_
    refine V_goto (tgt := 273) dX7_valueOfTiles_260 (by decide) ?_
    refine V_iadd dX7_valueOfTiles_273 ?_
    obtain rfl := Option.some.inj h
    exact V_iret rfl hq dX7_valueOfTiles_274
def f_X7_valueOfTiles_249 (i5 : Int32) (i6 : Int32) (M : zM) : Option (Int32 × zM) :=
  f_X7_valueOfTiles_250 i5 i6 ((0 : Int32)) M
set_option maxRecDepth 20000 in
set_option maxHeartbeats 4000000 in
theorem s_X7_valueOfTiles_249 {L : zL} {X : zX} {M0 : zM} {N : Nat × Nat} {Q : State → Prop} {r : Int32 × zM} (hq : vQ L X M0 N Q (some (.int r.1)) r.2) {i5 : Int32} {i6 : Int32} {M : zM} (h : f_X7_valueOfTiles_249 i5 i6 M = some r) : V L X yX7_valueOfTiles cX7_valueOfTiles 10 (some FieldType.int) 4 M0 N Q M 249 [(5, .int (i5)), (6, .int (i6))] [] := by
  unfold f_X7_valueOfTiles_249 at h
  refine V_iconst (v := 0) dX7_valueOfTiles_249 (by decide) ?_
  exact s_X7_valueOfTiles_250 hq h
def f_X7_valueOfTiles_245 (i5 : Int32) (i6 : Int32) (M : zM) : Option (Int32 × zM) :=
  f_X7_valueOfTiles_250 i5 i6 ((1 : Int32)) M
set_option maxRecDepth 20000 in
set_option maxHeartbeats 4000000 in
theorem s_X7_valueOfTiles_245 {L : zL} {X : zX} {M0 : zM} {N : Nat × Nat} {Q : State → Prop} {r : Int32 × zM} (hq : vQ L X M0 N Q (some (.int r.1)) r.2) {i5 : Int32} {i6 : Int32} {M : zM} (h : f_X7_valueOfTiles_245 i5 i6 M = some r) : V L X yX7_valueOfTiles cX7_valueOfTiles 10 (some FieldType.int) 4 M0 N Q M 245 [(5, .int (i5)), (6, .int (i6))] [] := by
  unfold f_X7_valueOfTiles_245 at h
  refine V_iconst (v := 1) dX7_valueOfTiles_245 (by decide) ?_
  refine V_goto (tgt := 250) dX7_valueOfTiles_246 (by decide) ?_
  exact s_X7_valueOfTiles_250 hq h
def f_X7_valueOfTiles_215 (i5 : Int32) (i6 : Int32) (a7 : Nat) (i_0 : Int32) (M : zM) : Option (Int32 × zM) :=
  if i_0 = 0 then
  f_X7_valueOfTiles_249 i5 i6 M
  else
  (f_X7_areAll a7 ((0 : Int32)) ((8 : Int32)) M).bind fun r1 =>
  if r1.1 = 0 then
  (f_X7_areAll a7 ((9 : Int32)) ((17 : Int32)) r1.2).bind fun r2 =>
  if r2.1 = 0 then
  f_X7_valueOfTiles_249 i5 i6 r2.2
  else
  f_X7_valueOfTiles_245 i5 i6 r2.2
  else
  f_X7_valueOfTiles_245 i5 i6 r1.2
set_option maxRecDepth 20000 in
set_option maxHeartbeats 4000000 in
theorem s_X7_valueOfTiles_215 {L : zL} {X : zX} {M0 : zM} {N : Nat × Nat} {Q : State → Prop} {r : Int32 × zM} (hq : vQ L X M0 N Q (some (.int r.1)) r.2) {i5 : Int32} {i6 : Int32} {a7 : Nat} {i_0 : Int32} {M : zM} (h : f_X7_valueOfTiles_215 i5 i6 a7 i_0 M = some r) : V L X yX7_valueOfTiles cX7_valueOfTiles 10 (some FieldType.int) 4 M0 N Q M 215 [(5, .int (i5)), (6, .int (i6)), (7, .ref (zad L (a7)))] [.int (i_0)] := by
  unfold f_X7_valueOfTiles_215 at h
  refine V_istore (ls' := [(8, .int (i_0)), (5, .int (i5)), (6, .int (i6)), (7, .ref (zad L (a7)))]) dX7_valueOfTiles_215 (by decide) rfl ?_
  refine V_iload dX7_valueOfTiles_217 0 rfl ?_
  refine V_if_eq (tgt := 249) dX7_valueOfTiles_219 (by decide) (fun c5 => ?_) (fun c5 => ?_)
  · replace h := (oi h).1 c5
    refine V_sub [1, 2] rfl ?_
    exact s_X7_valueOfTiles_249 hq h
  · replace h := (oi h).2 c5
    refine V_aload dX7_valueOfTiles_222 3 rfl ?_
    refine V_iconst (v := 0) dX7_valueOfTiles_224 (by decide) ?_
    refine V_bipush (v := 8) dX7_valueOfTiles_225 (by decide) ?_
    replace h := ob h
    obtain ⟨r1, e_r1, h⟩ := h
    refine V_callS_I (As := [.ref (zad L (a7)), .int ((0 : Int32)), .int ((8 : Int32))]) (rest := []) (c_X7_areAll e_r1) zc_X7_areAll rfl (by decide) zm_X7_222 (Nat.le_of_ble_eq_true rfl) rfl dX7_valueOfTiles_227 ?_
    refine V_pc (pc' := 230) rfl ?_
    refine V_if_ne (tgt := 245) dX7_valueOfTiles_230 (by decide) (fun c4 => ?_) (fun c4 => ?_)
    · replace h := (oi h).2 c4
      refine V_sub [1, 2] rfl ?_
      exact s_X7_valueOfTiles_245 hq h
    · replace h := (oi h).1 c4
      refine V_aload dX7_valueOfTiles_233 3 rfl ?_
      refine V_bipush (v := 9) dX7_valueOfTiles_235 (by decide) ?_
      refine V_bipush (v := 17) dX7_valueOfTiles_237 (by decide) ?_
      replace h := ob h
      obtain ⟨r2, e_r2, h⟩ := h
      refine V_callS_I (As := [.ref (zad L (a7)), .int ((9 : Int32)), .int ((17 : Int32))]) (rest := []) (c_X7_areAll e_r2) zc_X7_areAll rfl (by decide) zm_X7_222 (Nat.le_of_ble_eq_true rfl) rfl dX7_valueOfTiles_239 ?_
      refine V_pc (pc' := 242) rfl ?_
      refine V_if_eq (tgt := 249) dX7_valueOfTiles_242 (by decide) (fun c3 => ?_) (fun c3 => ?_)
      · replace h := (oi h).1 c3
        refine V_sub [1, 2] rfl ?_
        exact s_X7_valueOfTiles_249 hq h
      · replace h := (oi h).2 c3
        refine V_sub [1, 2] rfl ?_
        exact s_X7_valueOfTiles_245 hq h
def f_X7_valueOfTiles_179 (a3 : Nat) (i5 : Int32) (i_0 : Int32) (i_1 : Int32) (M : zM) : Option (Int32 × zM) :=
  (aA 0 M ((25 : Int32))).bind fun r1 =>
  (yI 0 r1.2 a3 ((0 : Int32)) r1.1 ((0 : Int32)) ((18 : Int32))).bind fun M2 =>
  (f_X7_areAll r1.1 ((18 : Int32)) ((24 : Int32)) M2).bind fun r3 =>
  if r3.1 = 0 then
  f_X7_valueOfTiles_215 i5 ((i_1 + i_0)) r1.1 ((1 : Int32)) r3.2
  else
  f_X7_valueOfTiles_215 i5 ((i_1 + i_0)) r1.1 ((0 : Int32)) r3.2
set_option maxRecDepth 20000 in
set_option maxHeartbeats 4000000 in
theorem s_X7_valueOfTiles_179 {L : zL} {X : zX} {M0 : zM} {N : Nat × Nat} {Q : State → Prop} {r : Int32 × zM} (hq : vQ L X M0 N Q (some (.int r.1)) r.2) {a3 : Nat} {i5 : Int32} {i_0 : Int32} {i_1 : Int32} {M : zM} (h : f_X7_valueOfTiles_179 a3 i5 i_0 i_1 M = some r) : V L X yX7_valueOfTiles cX7_valueOfTiles 10 (some FieldType.int) 4 M0 N Q M 179 [(3, .ref (zad L (a3))), (5, .int (i5))] [.int (i_0), .int (i_1)] := by
  unfold f_X7_valueOfTiles_179 at h
  refine V_iadd dX7_valueOfTiles_179 ?_
  refine V_istore (ls' := [(6, .int ((i_1 + i_0))), (3, .ref (zad L (a3))), (5, .int (i5))]) dX7_valueOfTiles_180 (by decide) rfl ?_
  refine V_bipush (v := 25) dX7_valueOfTiles_182 (by decide) ?_
  replace h := ob h
  obtain ⟨r1, e_r1, h⟩ := h
  refine V_newa (t := 0) (by decide) rfl zna_0 e_r1 dX7_valueOfTiles_184 ?_
  refine V_pc (pc' := 186) rfl ?_
  refine V_astore (ls' := [(7, .ref (zad L (r1.1))), (6, .int ((i_1 + i_0))), (3, .ref (zad L (a3))), (5, .int (i5))]) dX7_valueOfTiles_186 (by decide) rfl ?_
  refine V_aload_n dX7_valueOfTiles_188 rfl 2 rfl ?_
  refine V_iconst (v := 0) dX7_valueOfTiles_189 (by decide) ?_
  refine V_aload dX7_valueOfTiles_190 0 rfl ?_
  refine V_iconst (v := 0) dX7_valueOfTiles_192 (by decide) ?_
  refine V_bipush (v := 18) dX7_valueOfTiles_193 (by decide) ?_
  replace h := ob h
  obtain ⟨M2, e_M2, h⟩ := h
  refine V_copyI (t := 0) (by decide) e_M2 zac_X7_216 (by decide) (Nat.le_of_ble_eq_true rfl) dX7_valueOfTiles_195 ?_
  refine V_aload dX7_valueOfTiles_198 0 rfl ?_
  refine V_bipush (v := 18) dX7_valueOfTiles_200 (by decide) ?_
  refine V_bipush (v := 24) dX7_valueOfTiles_202 (by decide) ?_
  replace h := ob h
  obtain ⟨r3, e_r3, h⟩ := h
  refine V_callS_I (As := [.ref (zad L (r1.1)), .int ((18 : Int32)), .int ((24 : Int32))]) (rest := []) (c_X7_areAll e_r3) zc_X7_areAll rfl (by decide) zm_X7_222 (Nat.le_of_ble_eq_true rfl) rfl dX7_valueOfTiles_204 ?_
  refine V_pc (pc' := 207) rfl ?_
  refine V_if_ne (tgt := 214) dX7_valueOfTiles_207 (by decide) (fun c4 => ?_) (fun c4 => ?_)
  · replace h := (oi h).2 c4
    refine V_iconst (v := 0) dX7_valueOfTiles_214 (by decide) ?_
    refine V_sub [3, 1, 0] rfl ?_
    exact s_X7_valueOfTiles_215 hq h
  · replace h := (oi h).1 c4
    refine V_iconst (v := 1) dX7_valueOfTiles_210 (by decide) ?_
    refine V_goto (tgt := 215) dX7_valueOfTiles_211 (by decide) ?_
    refine V_sub [3, 1, 0] rfl ?_
    exact s_X7_valueOfTiles_215 hq h
def f_X7_valueOfTiles_161 (a0 : Nat) (a3 : Nat) (i4 : Int32) (i5 : Int32) (i_0 : Int32) (i_1 : Int32) (M : zM) : Option (Int32 × zM) :=
  (gI 13 5 M a0).bind fun v1 =>
  (lA 0 M a3 v1).bind fun v2 =>
  if i4 = 0 then
  f_X7_valueOfTiles_179 a3 i5 ((0 : Int32)) ((((i_1 + i_0)) + v2)) M
  else
  f_X7_valueOfTiles_179 a3 i5 ((1 : Int32)) ((((i_1 + i_0)) + v2)) M
set_option maxRecDepth 20000 in
set_option maxHeartbeats 4000000 in
theorem s_X7_valueOfTiles_161 {L : zL} {X : zX} {M0 : zM} {N : Nat × Nat} {Q : State → Prop} {r : Int32 × zM} (hq : vQ L X M0 N Q (some (.int r.1)) r.2) {a0 : Nat} {a3 : Nat} {i4 : Int32} {i5 : Int32} {i_0 : Int32} {i_1 : Int32} {M : zM} (h : f_X7_valueOfTiles_161 a0 a3 i4 i5 i_0 i_1 M = some r) : V L X yX7_valueOfTiles cX7_valueOfTiles 10 (some FieldType.int) 4 M0 N Q M 161 [(0, .ref (zad L (a0))), (3, .ref (zad L (a3))), (4, .int (i4)), (5, .int (i5))] [.int (i_0), .int (i_1)] := by
  unfold f_X7_valueOfTiles_161 at h
  refine V_iadd dX7_valueOfTiles_161 ?_
  refine V_aload_n dX7_valueOfTiles_162 rfl 1 rfl ?_
  refine V_aload_n dX7_valueOfTiles_163 rfl 0 rfl ?_
  replace h := ob h
  obtain ⟨v1, e_v1, h⟩ := h
  refine V_getI zf_13_5 zl_X7_46 e_v1 dX7_valueOfTiles_164 ?_
  refine V_pc (pc' := 167) rfl ?_
  replace h := ob h
  obtain ⟨v2, e_v2, h⟩ := h
  refine V_iald e_v2 dX7_valueOfTiles_167 ?_
  refine V_pc (pc' := 168) rfl ?_
  refine V_iadd dX7_valueOfTiles_168 ?_
  refine V_iload dX7_valueOfTiles_169 2 rfl ?_
  refine V_if_eq (tgt := 178) dX7_valueOfTiles_171 (by decide) (fun c3 => ?_) (fun c3 => ?_)
  · replace h := (oi h).1 c3
    refine V_iconst (v := 0) dX7_valueOfTiles_178 (by decide) ?_
    refine V_sub [1, 3] rfl ?_
    exact s_X7_valueOfTiles_179 hq h
  · replace h := (oi h).2 c3
    refine V_iconst (v := 1) dX7_valueOfTiles_174 (by decide) ?_
    refine V_goto (tgt := 179) dX7_valueOfTiles_175 (by decide) ?_
    refine V_sub [1, 3] rfl ?_
    exact s_X7_valueOfTiles_179 hq h
def f_X7_valueOfTiles_160 (a0 : Nat) (a3 : Nat) (i4 : Int32) (i5 : Int32) (i_0 : Int32) (M : zM) : Option (Int32 × zM) :=
  f_X7_valueOfTiles_161 a0 a3 i4 i5 ((0 : Int32)) i_0 M
set_option maxRecDepth 20000 in
set_option maxHeartbeats 4000000 in
theorem s_X7_valueOfTiles_160 {L : zL} {X : zX} {M0 : zM} {N : Nat × Nat} {Q : State → Prop} {r : Int32 × zM} (hq : vQ L X M0 N Q (some (.int r.1)) r.2) {a0 : Nat} {a3 : Nat} {i4 : Int32} {i5 : Int32} {i_0 : Int32} {M : zM} (h : f_X7_valueOfTiles_160 a0 a3 i4 i5 i_0 M = some r) : V L X yX7_valueOfTiles cX7_valueOfTiles 10 (some FieldType.int) 4 M0 N Q M 160 [(0, .ref (zad L (a0))), (3, .ref (zad L (a3))), (4, .int (i4)), (5, .int (i5))] [.int (i_0)] := by
  unfold f_X7_valueOfTiles_160 at h
  refine V_iconst (v := 0) dX7_valueOfTiles_160 (by decide) ?_
  exact s_X7_valueOfTiles_161 hq h
def f_X7_valueOfTiles_144 (a0 : Nat) (a1 : Nat) (i2 : Int32) (a3 : Nat) (i4 : Int32) (i5 : Int32) (i_0 : Int32) (i_1 : Int32) (M : zM) : Option (Int32 × zM) :=
  if i2 = 0 then
  f_X7_valueOfTiles_160 a0 a3 i4 i5 ((i_1 + i_0)) M
  else
  if mK M a1 = 12 then
  (f_X6_open a1 M).bind fun r1 =>
  if r1.1 = 0 then
  f_X7_valueOfTiles_161 a0 a3 i4 i5 ((1 : Int32)) ((i_1 + i_0)) r1.2
  else
  f_X7_valueOfTiles_160 a0 a3 i4 i5 ((i_1 + i_0)) r1.2
  else none
set_option maxRecDepth 20000 in
set_option maxHeartbeats 4000000 in
theorem s_X7_valueOfTiles_144 {L : zL} {X : zX} {M0 : zM} {N : Nat × Nat} {Q : State → Prop} {r : Int32 × zM} (hq : vQ L X M0 N Q (some (.int r.1)) r.2) {a0 : Nat} {a1 : Nat} {i2 : Int32} {a3 : Nat} {i4 : Int32} {i5 : Int32} {i_0 : Int32} {i_1 : Int32} {M : zM} (h : f_X7_valueOfTiles_144 a0 a1 i2 a3 i4 i5 i_0 i_1 M = some r) : V L X yX7_valueOfTiles cX7_valueOfTiles 10 (some FieldType.int) 4 M0 N Q M 144 [(0, .ref (zad L (a0))), (1, .ref (zad L (a1))), (2, .int (i2)), (3, .ref (zad L (a3))), (4, .int (i4)), (5, .int (i5))] [.int (i_0), .int (i_1)] := by
  unfold f_X7_valueOfTiles_144 at h
  refine V_iadd dX7_valueOfTiles_144 ?_
  refine V_iload_n dX7_valueOfTiles_145 rfl 2 rfl ?_
  refine V_if_eq (tgt := 160) dX7_valueOfTiles_146 (by decide) (fun c4 => ?_) (fun c4 => ?_)
  · replace h := (oi h).1 c4
    refine V_sub [0, 3, 4, 5] rfl ?_
    exact s_X7_valueOfTiles_160 hq h
  · replace h := (oi h).2 c4
    refine V_aload_n dX7_valueOfTiles_149 rfl 1 rfl ?_
    replace h := ox h
    obtain ⟨c2, h⟩ := h
    replace h := ob h
    obtain ⟨r1, e_r1, h⟩ := h
    refine V_callV_I (As := []) (rest := [.int ((i_1 + i_0))]) (c_X6_open e_r1) zc_X6_open rfl (by decide) rfl (by decide) (Or.inl c2) zm_X7_158 (Nat.le_of_ble_eq_true rfl) rfl dX7_valueOfTiles_150 ?_
    refine V_pc (pc' := 153) rfl ?_
    refine V_if_ne (tgt := 160) dX7_valueOfTiles_153 (by decide) (fun c3 => ?_) (fun c3 => ?_)
    · replace h := (oi h).2 c3
      refine V_sub [0, 3, 4, 5] rfl ?_
      exact s_X7_valueOfTiles_160 hq h
    · replace h := (oi h).1 c3
      refine V_iconst (v := 1) dX7_valueOfTiles_156 (by decide) ?_
      refine V_goto (tgt := 161) dX7_valueOfTiles_157 (by decide) ?_
      refine V_sub [0, 3, 4, 5] rfl ?_
      exact s_X7_valueOfTiles_161 hq h
def f_X7_valueOfTiles_105 (K14 : Nat → Nat → Int32 → Nat → Int32 → Int32 → Int32 → zM → Option (Int32 × zM)) (a0 : Nat) (a1 : Nat) (i2 : Int32) (a3 : Nat) (i5 : Int32) (i6 : Int32) (i_0 : Int32) (i_1 : Int32) (M : zM) : Option (Int32 × zM) :=
  if i6 < ((18 : Int32)) then
  K14 a0 a1 i2 a3 ((i_1 &&& i_0)) ((i5 ||| ((0 : Int32)))) ((i6 + (1 : Int32))) M
  else
  K14 a0 a1 i2 a3 ((i_1 &&& i_0)) ((i5 ||| ((1 : Int32)))) ((i6 + (1 : Int32))) M
set_option maxRecDepth 20000 in
set_option maxHeartbeats 4000000 in
theorem s_X7_valueOfTiles_105 {L : zL} {X : zX} {M0 : zM} {N : Nat × Nat} {Q : State → Prop} {r : Int32 × zM} {K14 : Nat → Nat → Int32 → Nat → Int32 → Int32 → Int32 → zM → Option (Int32 × zM)} (hK14 : ∀ (a0 : Nat) (a1 : Nat) (i2 : Int32) (a3 : Nat) (i4 : Int32) (i5 : Int32) (i6 : Int32) (M : zM), K14 a0 a1 i2 a3 i4 i5 i6 M = some r → V L X yX7_valueOfTiles cX7_valueOfTiles 10 (some FieldType.int) 4 M0 N Q M 14 [(0, .ref (zad L (a0))), (1, .ref (zad L (a1))), (2, .int (i2)), (3, .ref (zad L (a3))), (4, .int (i4)), (5, .int (i5)), (6, .int (i6))] []) (hq : vQ L X M0 N Q (some (.int r.1)) r.2) {a0 : Nat} {a1 : Nat} {i2 : Int32} {a3 : Nat} {i5 : Int32} {i6 : Int32} {i_0 : Int32} {i_1 : Int32} {M : zM} (h : f_X7_valueOfTiles_105 K14 a0 a1 i2 a3 i5 i6 i_0 i_1 M = some r) : V L X yX7_valueOfTiles cX7_valueOfTiles 10 (some FieldType.int) 4 M0 N Q M 105 [(0, .ref (zad L (a0))), (1, .ref (zad L (a1))), (2, .int (i2)), (3, .ref (zad L (a3))), (5, .int (i5)), (6, .int (i6))] [.int (i_0), .int (i_1)] := by
  unfold f_X7_valueOfTiles_105 at h
  refine V_iand dX7_valueOfTiles_105 ?_
  refine V_istore (ls' := [(4, .int ((i_1 &&& i_0))), (0, .ref (zad L (a0))), (1, .ref (zad L (a1))), (2, .int (i2)), (3, .ref (zad L (a3))), (5, .int (i5)), (6, .int (i6))]) dX7_valueOfTiles_106 (by decide) rfl ?_
  refine V_iload dX7_valueOfTiles_108 5 rfl ?_
  refine V_iload dX7_valueOfTiles_110 6 rfl ?_
  refine V_bipush (v := 18) dX7_valueOfTiles_112 (by decide) ?_
  refine V_icmp_lt (tgt := 121) dX7_valueOfTiles_114 (by decide) (fun c1 => ?_) (fun c1 => ?_)
  · replace h := (oi h).1 c1
    refine V_iconst (v := 0) dX7_valueOfTiles_121 (by decide) ?_
    refine V_ior dX7_valueOfTiles_122 ?_
    refine V_istore (ls' := [(5, .int ((i5 ||| ((0 : Int32))))), (4, .int ((i_1 &&& i_0))), (0, .ref (zad L (a0))), (1, .ref (zad L (a1))), (2, .int (i2)), (3, .ref (zad L (a3))), (6, .int (i6))]) dX7_valueOfTiles_123 (by decide) rfl ?_
    refine V_iinc (v := i6 + (1 : Int32)) (ls' := [(6, .int ((i6 + (1 : Int32)))), (5, .int ((i5 ||| ((0 : Int32))))), (4, .int ((i_1 &&& i_0))), (0, .ref (zad L (a0))), (1, .ref (zad L (a1))), (2, .int (i2)), (3, .ref (zad L (a3)))]) dX7_valueOfTiles_125 6 rfl (by rfl) (by decide) rfl ?_
    refine V_goto (tgt := 14) dX7_valueOfTiles_128 (by decide) ?_
    refine V_sub [3, 4, 5, 6, 2, 1, 0] rfl ?_
    exact hK14 _ _ _ _ _ _ _ _ h
  · replace h := (oi h).2 c1
    refine V_iconst (v := 1) dX7_valueOfTiles_117 (by decide) ?_
    refine V_goto (tgt := 122) dX7_valueOfTiles_118 (by decide) ?_
    refine V_ior dX7_valueOfTiles_122 ?_
    refine V_istore (ls' := [(5, .int ((i5 ||| ((1 : Int32))))), (4, .int ((i_1 &&& i_0))), (0, .ref (zad L (a0))), (1, .ref (zad L (a1))), (2, .int (i2)), (3, .ref (zad L (a3))), (6, .int (i6))]) dX7_valueOfTiles_123 (by decide) rfl ?_
    refine V_iinc (v := i6 + (1 : Int32)) (ls' := [(6, .int ((i6 + (1 : Int32)))), (5, .int ((i5 ||| ((1 : Int32))))), (4, .int ((i_1 &&& i_0))), (0, .ref (zad L (a0))), (1, .ref (zad L (a1))), (2, .int (i2)), (3, .ref (zad L (a3)))]) dX7_valueOfTiles_125 6 rfl (by rfl) (by decide) rfl ?_
    refine V_goto (tgt := 14) dX7_valueOfTiles_128 (by decide) ?_
    refine V_sub [3, 4, 5, 6, 2, 1, 0] rfl ?_
    exact hK14 _ _ _ _ _ _ _ _ h
def f_X7_valueOfTiles_41 (K14 : Nat → Nat → Int32 → Nat → Int32 → Int32 → Int32 → zM → Option (Int32 × zM)) (n : Nat) (a0 : Nat) (a1 : Nat) (i2 : Int32) (a3 : Nat) (i4 : Int32) (i5 : Int32) (i6 : Int32) (a7 : Nat) (M : zM) : Option (Int32 × zM) := match n with
  | 0 => none
  | n + 1 =>
    if mK M a7 = 4 then
    (f_Jx35411_hasNext_aae02 a7 M).bind fun r1 =>
    if r1.1 = 0 then
    (lA 0 r1.2 a3 i6).bind fun v3 =>
    if v3 = 0 then
    K14 a0 a1 i2 a3 i4 i5 ((i6 + (1 : Int32))) r1.2
    else
    (f_X7_isEnd i6 r1.2).bind fun r4 =>
    if r4.1 = 0 then
    f_X7_valueOfTiles_105 K14 a0 a1 i2 a3 i5 i6 ((1 : Int32)) i4 r4.2
    else
    f_X7_valueOfTiles_105 K14 a0 a1 i2 a3 i5 i6 ((0 : Int32)) i4 r4.2
    else
    if mK r1.2 a7 = 4 then
    (f_Jx35411_next_0502b a7 r1.2).bind fun r7 =>
    if mK r7.2 r7.1 = 11 ∨ mK r7.2 r7.1 = 311 then
    (lA 0 r7.2 a3 i6).bind fun v10 =>
    if mK r7.2 r7.1 = 11 then
    (f_X5_of r7.1 i6 r7.2).bind fun r11 =>
    (tA r11.2 a3 i6 ((v10 + r11.1))).bind fun M13 =>
    f_X7_valueOfTiles_41 K14 n a0 a1 i2 a3 i4 i5 i6 a7 M13
    else none
    else none
    else none
    else none
set_option maxRecDepth 20000 in
set_option maxHeartbeats 4000000 in
theorem s_X7_valueOfTiles_41 {L : zL} {X : zX} {M0 : zM} {N : Nat × Nat} {Q : State → Prop} {r : Int32 × zM} {K14 : Nat → Nat → Int32 → Nat → Int32 → Int32 → Int32 → zM → Option (Int32 × zM)} (hK14 : ∀ (a0 : Nat) (a1 : Nat) (i2 : Int32) (a3 : Nat) (i4 : Int32) (i5 : Int32) (i6 : Int32) (M : zM), K14 a0 a1 i2 a3 i4 i5 i6 M = some r → V L X yX7_valueOfTiles cX7_valueOfTiles 10 (some FieldType.int) 4 M0 N Q M 14 [(0, .ref (zad L (a0))), (1, .ref (zad L (a1))), (2, .int (i2)), (3, .ref (zad L (a3))), (4, .int (i4)), (5, .int (i5)), (6, .int (i6))] []) (hq : vQ L X M0 N Q (some (.int r.1)) r.2) {n : Nat} {a0 : Nat} {a1 : Nat} {i2 : Int32} {a3 : Nat} {i4 : Int32} {i5 : Int32} {i6 : Int32} {a7 : Nat} {M : zM} : f_X7_valueOfTiles_41 K14 n a0 a1 i2 a3 i4 i5 i6 a7 M = some r → V L X yX7_valueOfTiles cX7_valueOfTiles 10 (some FieldType.int) 4 M0 N Q M 41 [(0, .ref (zad L (a0))), (1, .ref (zad L (a1))), (2, .int (i2)), (3, .ref (zad L (a3))), (4, .int (i4)), (5, .int (i5)), (6, .int (i6)), (7, .ref (zad L (a7)))] [] := by
  induction n generalizing a0 a1 i2 a3 i4 i5 i6 a7 M with
  | zero =>
    intro h
    rw [f_X7_valueOfTiles_41] at h
    cases h
  | succ n ih0 =>
    intro h
    have ih : ∀ (a0 : Nat) (a1 : Nat) (i2 : Int32) (a3 : Nat) (i4 : Int32) (i5 : Int32) (i6 : Int32) (a7 : Nat) (M : zM), f_X7_valueOfTiles_41 K14 n a0 a1 i2 a3 i4 i5 i6 a7 M = some r → V L X yX7_valueOfTiles cX7_valueOfTiles 10 (some FieldType.int) 4 M0 N Q M 41 [(0, .ref (zad L (a0))), (1, .ref (zad L (a1))), (2, .int (i2)), (3, .ref (zad L (a3))), (4, .int (i4)), (5, .int (i5)), (6, .int (i6)), (7, .ref (zad L (a7)))] [] := fun a0 a1 i2 a3 i4 i5 i6 a7 M h => ih0 h
    rw [f_X7_valueOfTiles_41] at h
    refine V_aload dX7_valueOfTiles_41 7 rfl ?_
    replace h := ox h
    obtain ⟨c2, h⟩ := h
    replace h := ob h
    obtain ⟨r1, e_r1, h⟩ := h
    refine V_callF_I (As := []) (rest := []) (c_Jx35411_hasNext_aae02 e_r1) zc_Jx35411_hasNext_aae02 rfl (by decide) rfl (by decide) (Or.inl c2) zm_X7_201 (Nat.le_of_ble_eq_true rfl) rfl dX7_valueOfTiles_43 ?_
    refine V_pc (pc' := 48) rfl ?_
    refine V_if_eq (tgt := 80) dX7_valueOfTiles_48 (by decide) (fun c14 => ?_) (fun c14 => ?_)
    · replace h := (oi h).1 c14
      refine V_aload_n dX7_valueOfTiles_80 rfl 3 rfl ?_
      refine V_iload dX7_valueOfTiles_81 6 rfl ?_
      replace h := ob h
      obtain ⟨v3, e_v3, h⟩ := h
      refine V_iald e_v3 dX7_valueOfTiles_83 ?_
      refine V_pc (pc' := 84) rfl ?_
      refine V_if_ne (tgt := 90) dX7_valueOfTiles_84 (by decide) (fun c6 => ?_) (fun c6 => ?_)
      · replace h := (oi h).2 c6
        refine V_iload dX7_valueOfTiles_90 4 rfl ?_
        refine V_iload dX7_valueOfTiles_92 6 rfl ?_
        replace h := ob h
        obtain ⟨r4, e_r4, h⟩ := h
        refine V_callS_I (As := [.int (i6)]) (rest := [.int (i4)]) (c_X7_isEnd e_r4) zc_X7_isEnd rfl (by decide) zm_X7_213 (Nat.le_of_ble_eq_true rfl) rfl dX7_valueOfTiles_94 ?_
        refine V_pc (pc' := 97) rfl ?_
        refine V_if_ne (tgt := 104) dX7_valueOfTiles_97 (by decide) (fun c5 => ?_) (fun c5 => ?_)
        · replace h := (oi h).2 c5
          refine V_iconst (v := 0) dX7_valueOfTiles_104 (by decide) ?_
          refine V_sub [0, 1, 2, 3, 5, 6] rfl ?_
          exact s_X7_valueOfTiles_105 hK14 hq h
        · replace h := (oi h).1 c5
          refine V_iconst (v := 1) dX7_valueOfTiles_100 (by decide) ?_
          refine V_goto (tgt := 105) dX7_valueOfTiles_101 (by decide) ?_
          refine V_sub [0, 1, 2, 3, 5, 6] rfl ?_
          exact s_X7_valueOfTiles_105 hK14 hq h
      · replace h := (oi h).1 c6
        refine V_goto (tgt := 125) dX7_valueOfTiles_87 (by decide) ?_
        refine V_iinc (v := i6 + (1 : Int32)) (ls' := [(6, .int ((i6 + (1 : Int32)))), (0, .ref (zad L (a0))), (1, .ref (zad L (a1))), (2, .int (i2)), (3, .ref (zad L (a3))), (4, .int (i4)), (5, .int (i5)), (7, .ref (zad L (a7)))]) dX7_valueOfTiles_125 6 rfl (by rfl) (by decide) rfl ?_
        refine V_goto (tgt := 14) dX7_valueOfTiles_128 (by decide) ?_
        refine V_sub [1, 2, 3, 4, 5, 6, 0] rfl ?_
        exact hK14 _ _ _ _ _ _ _ _ h
    · replace h := (oi h).2 c14
      refine V_aload dX7_valueOfTiles_51 7 rfl ?_
      replace h := ox h
      obtain ⟨c8, h⟩ := h
      replace h := ob h
      obtain ⟨r7, e_r7, h⟩ := h
      refine V_callF_A (As := []) (rest := []) (c_Jx35411_next_0502b e_r7) zc_Jx35411_next_0502b rfl (by decide) rfl (by decide) (Or.inl c8) zm_X7_206 (Nat.le_of_ble_eq_true rfl) rfl dX7_valueOfTiles_53 ?_
      refine V_pc (pc' := 58) rfl ?_
      replace h := ox h
      obtain ⟨c9, h⟩ := h
      refine V_cast (k := 11) rfl (by decide) c9 zk_X7_186 dX7_valueOfTiles_58 ?_
      refine V_astore (ls' := [(8, .ref (zad L (r7.1))), (0, .ref (zad L (a0))), (1, .ref (zad L (a1))), (2, .int (i2)), (3, .ref (zad L (a3))), (4, .int (i4)), (5, .int (i5)), (6, .int (i6)), (7, .ref (zad L (a7)))]) dX7_valueOfTiles_61 (by decide) rfl ?_
      refine V_aload_n dX7_valueOfTiles_63 rfl 4 rfl ?_
      refine V_iload dX7_valueOfTiles_64 7 rfl ?_
      refine V_dup2 dX7_valueOfTiles_66 rfl rfl ?_
      replace h := ob h
      obtain ⟨v10, e_v10, h⟩ := h
      refine V_iald e_v10 dX7_valueOfTiles_67 ?_
      refine V_pc (pc' := 68) rfl ?_
      refine V_aload dX7_valueOfTiles_68 0 rfl ?_
      refine V_iload dX7_valueOfTiles_70 7 rfl ?_
      replace h := ox h
      obtain ⟨c12, h⟩ := h
      replace h := ob h
      obtain ⟨r11, e_r11, h⟩ := h
      refine V_callV_I (As := [.int (i6)]) (rest := [.int (v10), .int (i6), .ref (zad L (a3))]) (c_X5_of e_r11) zc_X5_of rfl (by decide) rfl (by decide) (Or.inl c12) zm_X7_210 (Nat.le_of_ble_eq_true rfl) rfl dX7_valueOfTiles_72 ?_
      refine V_pc (pc' := 75) rfl ?_
      refine V_iadd dX7_valueOfTiles_75 ?_
      replace h := ob h
      obtain ⟨M13, e_M13, h⟩ := h
      refine V_iast e_M13 dX7_valueOfTiles_76 ?_
      refine V_goto (tgt := 41) dX7_valueOfTiles_77 (by decide) ?_
      refine V_sub [1, 2, 3, 4, 5, 6, 7, 8] rfl ?_
      exact ih _ _ _ _ _ _ _ _ _ h
def f_X7_valueOfTiles_14 (n : Nat) (a0 : Nat) (a1 : Nat) (i2 : Int32) (a3 : Nat) (i4 : Int32) (i5 : Int32) (i6 : Int32) (M : zM) : Option (Int32 × zM) := match n with
  | 0 => none
  | n + 1 =>
    if ((25 : Int32)) ≤ i6 then
    (gI 12 6 M a1).bind fun v1 =>
    if v1 = 0 then
    f_X7_valueOfTiles_144 a0 a1 i2 a3 i4 i5 ((0 : Int32)) ((1 : Int32)) M
    else
    f_X7_valueOfTiles_144 a0 a1 i2 a3 i4 i5 ((1 : Int32)) ((1 : Int32)) M
    else
    (gR 12 2 M a1).bind fun v3 =>
    (lA 0 M v3 i6).bind fun v4 =>
    (tA M a3 i6 v4).bind fun M5 =>
    (gR 12 3 M5 a1).bind fun v6 =>
    if mK M5 v6 = 5 then
    (f_Jx4a65c_iterator_32c93 v6 M5).bind fun r7 =>
    f_X7_valueOfTiles_41 (f_X7_valueOfTiles_14 n) zN a0 a1 i2 a3 i4 i5 i6 r7.1 r7.2
    else none
set_option maxRecDepth 20000 in
set_option maxHeartbeats 4000000 in
theorem s_X7_valueOfTiles_14 {L : zL} {X : zX} {M0 : zM} {N : Nat × Nat} {Q : State → Prop} {r : Int32 × zM} (hq : vQ L X M0 N Q (some (.int r.1)) r.2) {n : Nat} {a0 : Nat} {a1 : Nat} {i2 : Int32} {a3 : Nat} {i4 : Int32} {i5 : Int32} {i6 : Int32} {M : zM} : f_X7_valueOfTiles_14 n a0 a1 i2 a3 i4 i5 i6 M = some r → V L X yX7_valueOfTiles cX7_valueOfTiles 10 (some FieldType.int) 4 M0 N Q M 14 [(0, .ref (zad L (a0))), (1, .ref (zad L (a1))), (2, .int (i2)), (3, .ref (zad L (a3))), (4, .int (i4)), (5, .int (i5)), (6, .int (i6))] [] := by
  induction n generalizing a0 a1 i2 a3 i4 i5 i6 M with
  | zero =>
    intro h
    rw [f_X7_valueOfTiles_14] at h
    cases h
  | succ n ih0 =>
    intro h
    have ih : ∀ (a0 : Nat) (a1 : Nat) (i2 : Int32) (a3 : Nat) (i4 : Int32) (i5 : Int32) (i6 : Int32) (M : zM), f_X7_valueOfTiles_14 n a0 a1 i2 a3 i4 i5 i6 M = some r → V L X yX7_valueOfTiles cX7_valueOfTiles 10 (some FieldType.int) 4 M0 N Q M 14 [(0, .ref (zad L (a0))), (1, .ref (zad L (a1))), (2, .int (i2)), (3, .ref (zad L (a3))), (4, .int (i4)), (5, .int (i5)), (6, .int (i6))] [] := fun a0 a1 i2 a3 i4 i5 i6 M h => ih0 h
    rw [f_X7_valueOfTiles_14] at h
    refine V_iload dX7_valueOfTiles_14 6 rfl ?_
    refine V_bipush (v := 25) dX7_valueOfTiles_16 (by decide) ?_
    refine V_icmp_ge (tgt := 131) dX7_valueOfTiles_18 (by decide) (fun c9 => ?_) (fun c9 => ?_)
    · replace h := (oi h).1 c9
      refine V_iconst (v := 1) dX7_valueOfTiles_131 (by decide) ?_
      refine V_aload_n dX7_valueOfTiles_132 rfl 1 rfl ?_
      replace h := ob h
      obtain ⟨v1, e_v1, h⟩ := h
      refine V_getI zf_12_6 zl_X7_151 e_v1 dX7_valueOfTiles_133 ?_
      refine V_pc (pc' := 136) rfl ?_
      refine V_if_eq (tgt := 143) dX7_valueOfTiles_136 (by decide) (fun c2 => ?_) (fun c2 => ?_)
      · replace h := (oi h).1 c2
        refine V_iconst (v := 0) dX7_valueOfTiles_143 (by decide) ?_
        refine V_sub [0, 1, 2, 3, 4, 5] rfl ?_
        exact s_X7_valueOfTiles_144 hq h
      · replace h := (oi h).2 c2
        refine V_iconst (v := 1) dX7_valueOfTiles_139 (by decide) ?_
        refine V_goto (tgt := 144) dX7_valueOfTiles_140 (by decide) ?_
        refine V_sub [0, 1, 2, 3, 4, 5] rfl ?_
        exact s_X7_valueOfTiles_144 hq h
    · replace h := (oi h).2 c9
      refine V_aload_n dX7_valueOfTiles_21 rfl 3 rfl ?_
      refine V_iload dX7_valueOfTiles_22 6 rfl ?_
      refine V_aload_n dX7_valueOfTiles_24 rfl 1 rfl ?_
      replace h := ob h
      obtain ⟨v3, e_v3, h⟩ := h
      refine V_getR zf_12_2 zl_X7_94 e_v3 dX7_valueOfTiles_25 ?_
      refine V_pc (pc' := 28) rfl ?_
      refine V_iload dX7_valueOfTiles_28 6 rfl ?_
      replace h := ob h
      obtain ⟨v4, e_v4, h⟩ := h
      refine V_iald e_v4 dX7_valueOfTiles_30 ?_
      refine V_pc (pc' := 31) rfl ?_
      replace h := ob h
      obtain ⟨M5, e_M5, h⟩ := h
      refine V_iast e_M5 dX7_valueOfTiles_31 ?_
      refine V_aload_n dX7_valueOfTiles_32 rfl 1 rfl ?_
      replace h := ob h
      obtain ⟨v6, e_v6, h⟩ := h
      refine V_getR zf_12_3 zl_X7_183 e_v6 dX7_valueOfTiles_33 ?_
      refine V_pc (pc' := 36) rfl ?_
      replace h := ox h
      obtain ⟨c8, h⟩ := h
      replace h := ob h
      obtain ⟨r7, e_r7, h⟩ := h
      refine V_callV_A (As := []) (rest := []) (c_Jx4a65c_iterator_32c93 e_r7) zc_Jx4a65c_iterator_32c93 rfl (by decide) rfl (by decide) (Or.inl c8) zm_X7_197 (Nat.le_of_ble_eq_true rfl) rfl dX7_valueOfTiles_36 ?_
      refine V_pc (pc' := 39) rfl ?_
      refine V_astore (ls' := [(7, .ref (zad L (r7.1))), (0, .ref (zad L (a0))), (1, .ref (zad L (a1))), (2, .int (i2)), (3, .ref (zad L (a3))), (4, .int (i4)), (5, .int (i5)), (6, .int (i6))]) dX7_valueOfTiles_39 (by decide) rfl ?_
      refine V_sub [1, 2, 3, 4, 5, 6, 7, 0] rfl ?_
      exact s_X7_valueOfTiles_41 ih hq h
def f_X7_valueOfTiles_0 (a0 : Nat) (a1 : Nat) (i2 : Int32) (M : zM) : Option (Int32 × zM) :=
  (aA 0 M ((25 : Int32))).bind fun r1 =>
  f_X7_valueOfTiles_14 zN a0 a1 i2 r1.1 ((1 : Int32)) ((0 : Int32)) ((0 : Int32)) r1.2
set_option maxRecDepth 20000 in
set_option maxHeartbeats 4000000 in
theorem s_X7_valueOfTiles_0 {L : zL} {X : zX} {M0 : zM} {N : Nat × Nat} {Q : State → Prop} {r : Int32 × zM} (hq : vQ L X M0 N Q (some (.int r.1)) r.2) {a0 : Nat} {a1 : Nat} {i2 : Int32} {M : zM} (h : f_X7_valueOfTiles_0 a0 a1 i2 M = some r) : V L X yX7_valueOfTiles cX7_valueOfTiles 10 (some FieldType.int) 4 M0 N Q M 0 [(0, .ref (zad L (a0))), (1, .ref (zad L (a1))), (2, .int (i2))] [] := by
  unfold f_X7_valueOfTiles_0 at h
  refine V_bipush (v := 25) dX7_valueOfTiles_0 (by decide) ?_
  replace h := ob h
  obtain ⟨r1, e_r1, h⟩ := h
  refine V_newa (t := 0) (by decide) rfl zna_0 e_r1 dX7_valueOfTiles_2 ?_
  refine V_pc (pc' := 4) rfl ?_
  refine V_astore_n (ls' := [(3, .ref (zad L (r1.1))), (0, .ref (zad L (a0))), (1, .ref (zad L (a1))), (2, .int (i2))]) dX7_valueOfTiles_4 rfl (by decide) rfl ?_
  refine V_iconst (v := 1) dX7_valueOfTiles_5 (by decide) ?_
  refine V_istore (ls' := [(4, .int ((1 : Int32))), (3, .ref (zad L (r1.1))), (0, .ref (zad L (a0))), (1, .ref (zad L (a1))), (2, .int (i2))]) dX7_valueOfTiles_6 (by decide) rfl ?_
  refine V_iconst (v := 0) dX7_valueOfTiles_8 (by decide) ?_
  refine V_istore (ls' := [(5, .int ((0 : Int32))), (4, .int ((1 : Int32))), (3, .ref (zad L (r1.1))), (0, .ref (zad L (a0))), (1, .ref (zad L (a1))), (2, .int (i2))]) dX7_valueOfTiles_9 (by decide) rfl ?_
  refine V_iconst (v := 0) dX7_valueOfTiles_11 (by decide) ?_
  refine V_istore (ls' := [(6, .int ((0 : Int32))), (5, .int ((0 : Int32))), (4, .int ((1 : Int32))), (3, .ref (zad L (r1.1))), (0, .ref (zad L (a0))), (1, .ref (zad L (a1))), (2, .int (i2))]) dX7_valueOfTiles_12 (by decide) rfl ?_
  refine V_sub [4, 5, 6, 3, 2, 1, 0] rfl ?_
  exact s_X7_valueOfTiles_14 hq h
def f_X7_valueOfTiles (a0 : Nat) (a1 : Nat) (i2 : Int32) (M : zM) : Option (Int32 × zM) := f_X7_valueOfTiles_0 a0 a1 i2 M
theorem c_X7_valueOfTiles {L : zL} {l : Launch} {a0 : Nat} {a1 : Nat} {i2 : Int32} {M : zM} {r : Int32 × zM} (h : f_X7_valueOfTiles a0 a1 i2 M = some r) : CP L l yX7_valueOfTiles cX7_valueOfTiles 10 (some FieldType.int) 4 M [.ref (zad L (a0)), .ref (zad L (a1)), .int (i2)] (some (.int r.1)) r.2 :=
  CP.of ⟨by decide +kernel, by decide +kernel⟩ (Nat.le_of_ble_eq_true rfl) fun X Q hq => s_X7_valueOfTiles_0 hq h
/-! WindsparlourModel.valueOfThree(II)I -/
theorem dX7_valueOfThree_0 : decode cX7_valueOfThree 0 = .ok (.iload_n 1, 1) := by decide +kernel
theorem dX7_valueOfThree_1 : decode cX7_valueOfThree 1 = .ok (.bipush 22, 2) := by decide +kernel
theorem dX7_valueOfThree_3 : decode cX7_valueOfThree 3 = .ok (.if_icmp .ge 15, 3) := by decide +kernel
theorem dX7_valueOfThree_6 : decode cX7_valueOfThree 6 = .ok (.iload_n 1, 1) := by decide +kernel
theorem dX7_valueOfThree_7 : decode cX7_valueOfThree 7 = .ok (.bipush 18, 2) := by decide +kernel
theorem dX7_valueOfThree_9 : decode cX7_valueOfThree 9 = .ok (.aload_n 0, 1) := by decide +kernel
theorem dX7_valueOfThree_10 : decode cX7_valueOfThree 10 = .ok (.iload_n 2, 1) := by decide +kernel
theorem dX7_valueOfThree_11 : decode cX7_valueOfThree 11 = .ok (.invokevirtual 226, 3) := by decide +kernel
theorem dX7_valueOfThree_14 : decode cX7_valueOfThree 14 = .ok (.iadd, 1) := by decide +kernel
theorem dX7_valueOfThree_15 : decode cX7_valueOfThree 15 = .ok (.if_icmp .ne 7, 3) := by decide +kernel
theorem dX7_valueOfThree_18 : decode cX7_valueOfThree 18 = .ok (.iconst 1, 1) := by decide +kernel
theorem dX7_valueOfThree_19 : decode cX7_valueOfThree 19 = .ok (.goto 4, 3) := by decide +kernel
theorem dX7_valueOfThree_22 : decode cX7_valueOfThree 22 = .ok (.iconst 0, 1) := by decide +kernel
theorem dX7_valueOfThree_23 : decode cX7_valueOfThree 23 = .ok (.ireturn, 1) := by decide +kernel
def f_X7_valueOfThree_0 (a0 : Nat) (i1 : Int32) (i2 : Int32) (M : zM) : Option (Int32 × zM) :=
  if ((22 : Int32)) ≤ i1 then
  some ((1 : Int32), M)
  else
  if mK M a0 = 13 then
  (f_X7_wind a0 i2 M).bind fun r1 =>
  if i1 = ((((18 : Int32)) + r1.1)) then
  some ((1 : Int32), r1.2)
  else
  some ((0 : Int32), r1.2)
  else none
set_option maxRecDepth 20000 in
set_option maxHeartbeats 4000000 in
theorem s_X7_valueOfThree_0 {L : zL} {X : zX} {M0 : zM} {N : Nat × Nat} {Q : State → Prop} {r : Int32 × zM} (hq : vQ L X M0 N Q (some (.int r.1)) r.2) {a0 : Nat} {i1 : Int32} {i2 : Int32} {M : zM} (h : f_X7_valueOfThree_0 a0 i1 i2 M = some r) : V L X yX7_valueOfThree cX7_valueOfThree 3 (some FieldType.int) 3 M0 N Q M 0 [(0, .ref (zad L (a0))), (1, .int (i1)), (2, .int (i2))] [] := by
  unfold f_X7_valueOfThree_0 at h
  refine V_iload_n dX7_valueOfThree_0 rfl 1 rfl ?_
  refine V_bipush (v := 22) dX7_valueOfThree_1 (by decide) ?_
  refine V_icmp_ge (tgt := 18) dX7_valueOfThree_3 (by decide) (fun c4 => ?_) (fun c4 => ?_)
  · replace h := (oi h).1 c4
    refine V_iconst (v := 1) dX7_valueOfThree_18 (by decide) ?_
    refine V_goto (tgt := 23) dX7_valueOfThree_19 (by decide) ?_
    obtain rfl := Option.some.inj h
    exact V_iret rfl hq dX7_valueOfThree_23
  · replace h := (oi h).2 c4
    refine V_iload_n dX7_valueOfThree_6 rfl 1 rfl ?_
    refine V_bipush (v := 18) dX7_valueOfThree_7 (by decide) ?_
    refine V_aload_n dX7_valueOfThree_9 rfl 0 rfl ?_
    refine V_iload_n dX7_valueOfThree_10 rfl 2 rfl ?_
    replace h := ox h
    obtain ⟨c2, h⟩ := h
    replace h := ob h
    obtain ⟨r1, e_r1, h⟩ := h
    refine V_callV_I (As := [.int (i2)]) (rest := [.int ((18 : Int32)), .int (i1)]) (c_X7_wind e_r1) zc_X7_wind rfl (by decide) rfl (by decide) (Or.inl c2) zm_X7_226 (Nat.le_of_ble_eq_true rfl) rfl dX7_valueOfThree_11 ?_
    refine V_pc (pc' := 14) rfl ?_
    refine V_iadd dX7_valueOfThree_14 ?_
    refine V_icmp_ne (tgt := 22) dX7_valueOfThree_15 (by decide) (fun c3 => ?_) (fun c3 => ?_)
    · replace h := (oi h).2 c3
      refine V_iconst (v := 0) dX7_valueOfThree_22 (by decide) ?_
      obtain rfl := Option.some.inj h
      exact V_iret rfl hq dX7_valueOfThree_23
    · replace h := (oi h).1 c3
      refine V_iconst (v := 1) dX7_valueOfThree_18 (by decide) ?_
      refine V_goto (tgt := 23) dX7_valueOfThree_19 (by decide) ?_
      obtain rfl := Option.some.inj h
      exact V_iret rfl hq dX7_valueOfThree_23
def f_X7_valueOfThree (a0 : Nat) (i1 : Int32) (i2 : Int32) (M : zM) : Option (Int32 × zM) := f_X7_valueOfThree_0 a0 i1 i2 M
theorem c_X7_valueOfThree {L : zL} {l : Launch} {a0 : Nat} {i1 : Int32} {i2 : Int32} {M : zM} {r : Int32 × zM} (h : f_X7_valueOfThree a0 i1 i2 M = some r) : CP L l yX7_valueOfThree cX7_valueOfThree 3 (some FieldType.int) 3 M [.ref (zad L (a0)), .int (i1), .int (i2)] (some (.int r.1)) r.2 :=
  CP.of ⟨by decide +kernel, by decide +kernel⟩ (Nat.le_of_ble_eq_true rfl) fun X Q hq => s_X7_valueOfThree_0 hq h
/-! WindsparlourModel.valueOfSets([IIIII)I -/
theorem dX7_valueOfSets_0 : decode cX7_valueOfSets 0 = .ok (.iconst 0, 1) := by decide +kernel
theorem dX7_valueOfSets_1 : decode cX7_valueOfSets 1 = .ok (.istore 6, 2) := by decide +kernel
theorem dX7_valueOfSets_3 : decode cX7_valueOfSets 3 = .ok (.iload 6, 2) := by decide +kernel
theorem dX7_valueOfSets_5 : decode cX7_valueOfSets 5 = .ok (.bipush 25, 2) := by decide +kernel
theorem dX7_valueOfSets_7 : decode cX7_valueOfSets 7 = .ok (.if_icmp .ge 16, 3) := by decide +kernel
theorem dX7_valueOfSets_10 : decode cX7_valueOfSets 10 = .ok (.aload_n 1, 1) := by decide +kernel
theorem dX7_valueOfSets_11 : decode cX7_valueOfSets 11 = .ok (.iload 6, 2) := by decide +kernel
theorem dX7_valueOfSets_13 : decode cX7_valueOfSets 13 = .ok (.iaload, 1) := by decide +kernel
theorem dX7_valueOfSets_14 : decode cX7_valueOfSets 14 = .ok (.ifCond .ne 9, 3) := by decide +kernel
theorem dX7_valueOfSets_17 : decode cX7_valueOfSets 17 = .ok (.iinc 6 1, 3) := by decide +kernel
theorem dX7_valueOfSets_20 : decode cX7_valueOfSets 20 = .ok (.goto (-17), 3) := by decide +kernel
theorem dX7_valueOfSets_23 : decode cX7_valueOfSets 23 = .ok (.iload 6, 2) := by decide +kernel
theorem dX7_valueOfSets_25 : decode cX7_valueOfSets 25 = .ok (.bipush 25, 2) := by decide +kernel
theorem dX7_valueOfSets_27 : decode cX7_valueOfSets 27 = .ok (.if_icmp .ne 27, 3) := by decide +kernel
theorem dX7_valueOfSets_30 : decode cX7_valueOfSets 30 = .ok (.iload_n 3, 1) := by decide +kernel
theorem dX7_valueOfSets_31 : decode cX7_valueOfSets 31 = .ok (.iconst 3, 1) := by decide +kernel
theorem dX7_valueOfSets_32 : decode cX7_valueOfSets 32 = .ok (.if_icmp .eq 7, 3) := by decide +kernel
theorem dX7_valueOfSets_35 : decode cX7_valueOfSets 35 = .ok (.iconst (-1), 1) := by decide +kernel
theorem dX7_valueOfSets_36 : decode cX7_valueOfSets 36 = .ok (.goto 17, 3) := by decide +kernel
theorem dX7_valueOfSets_39 : decode cX7_valueOfSets 39 = .ok (.iload 5, 2) := by decide +kernel
theorem dX7_valueOfSets_41 : decode cX7_valueOfSets 41 = .ok (.iload 4, 2) := by decide +kernel
theorem dX7_valueOfSets_43 : decode cX7_valueOfSets 43 = .ok (.iconst 3, 1) := by decide +kernel
theorem dX7_valueOfSets_44 : decode cX7_valueOfSets 44 = .ok (.if_icmp .ne 7, 3) := by decide +kernel
theorem dX7_valueOfSets_47 : decode cX7_valueOfSets 47 = .ok (.iconst 2, 1) := by decide +kernel
theorem dX7_valueOfSets_48 : decode cX7_valueOfSets 48 = .ok (.goto 4, 3) := by decide +kernel
theorem dX7_valueOfSets_51 : decode cX7_valueOfSets 51 = .ok (.iconst 0, 1) := by decide +kernel
theorem dX7_valueOfSets_52 : decode cX7_valueOfSets 52 = .ok (.iadd, 1) := by decide +kernel
theorem dX7_valueOfSets_53 : decode cX7_valueOfSets 53 = .ok (.ireturn, 1) := by decide +kernel
theorem dX7_valueOfSets_54 : decode cX7_valueOfSets 54 = .ok (.iconst (-1), 1) := by decide +kernel
theorem dX7_valueOfSets_55 : decode cX7_valueOfSets 55 = .ok (.istore 7, 2) := by decide +kernel
theorem dX7_valueOfSets_57 : decode cX7_valueOfSets 57 = .ok (.aload_n 1, 1) := by decide +kernel
theorem dX7_valueOfSets_58 : decode cX7_valueOfSets 58 = .ok (.iload 6, 2) := by decide +kernel
theorem dX7_valueOfSets_60 : decode cX7_valueOfSets 60 = .ok (.iaload, 1) := by decide +kernel
theorem dX7_valueOfSets_61 : decode cX7_valueOfSets 61 = .ok (.iconst 3, 1) := by decide +kernel
theorem dX7_valueOfSets_62 : decode cX7_valueOfSets 62 = .ok (.if_icmp .lt 44, 3) := by decide +kernel
theorem dX7_valueOfSets_65 : decode cX7_valueOfSets 65 = .ok (.aload_n 1, 1) := by decide +kernel
theorem dX7_valueOfSets_66 : decode cX7_valueOfSets 66 = .ok (.iload 6, 2) := by decide +kernel
theorem dX7_valueOfSets_68 : decode cX7_valueOfSets 68 = .ok (.dup2, 1) := by decide +kernel
theorem dX7_valueOfSets_69 : decode cX7_valueOfSets 69 = .ok (.iaload, 1) := by decide +kernel
theorem dX7_valueOfSets_70 : decode cX7_valueOfSets 70 = .ok (.iconst 3, 1) := by decide +kernel
theorem dX7_valueOfSets_71 : decode cX7_valueOfSets 71 = .ok (.isub, 1) := by decide +kernel
theorem dX7_valueOfSets_72 : decode cX7_valueOfSets 72 = .ok (.iastore, 1) := by decide +kernel
theorem dX7_valueOfSets_73 : decode cX7_valueOfSets 73 = .ok (.aload_n 0, 1) := by decide +kernel
theorem dX7_valueOfSets_74 : decode cX7_valueOfSets 74 = .ok (.aload_n 1, 1) := by decide +kernel
theorem dX7_valueOfSets_75 : decode cX7_valueOfSets 75 = .ok (.iload_n 2, 1) := by decide +kernel
theorem dX7_valueOfSets_76 : decode cX7_valueOfSets 76 = .ok (.iload_n 3, 1) := by decide +kernel
theorem dX7_valueOfSets_77 : decode cX7_valueOfSets 77 = .ok (.iconst 1, 1) := by decide +kernel
theorem dX7_valueOfSets_78 : decode cX7_valueOfSets 78 = .ok (.iadd, 1) := by decide +kernel
theorem dX7_valueOfSets_79 : decode cX7_valueOfSets 79 = .ok (.iload 4, 2) := by decide +kernel
theorem dX7_valueOfSets_81 : decode cX7_valueOfSets 81 = .ok (.iconst 1, 1) := by decide +kernel
theorem dX7_valueOfSets_82 : decode cX7_valueOfSets 82 = .ok (.iadd, 1) := by decide +kernel
theorem dX7_valueOfSets_83 : decode cX7_valueOfSets 83 = .ok (.iload 5, 2) := by decide +kernel
theorem dX7_valueOfSets_85 : decode cX7_valueOfSets 85 = .ok (.aload_n 0, 1) := by decide +kernel
theorem dX7_valueOfSets_86 : decode cX7_valueOfSets 86 = .ok (.iload 6, 2) := by decide +kernel
theorem dX7_valueOfSets_88 : decode cX7_valueOfSets 88 = .ok (.iload_n 2, 1) := by decide +kernel
theorem dX7_valueOfSets_89 : decode cX7_valueOfSets 89 = .ok (.invokevirtual 229, 3) := by decide +kernel
theorem dX7_valueOfSets_92 : decode cX7_valueOfSets 92 = .ok (.iadd, 1) := by decide +kernel
theorem dX7_valueOfSets_93 : decode cX7_valueOfSets 93 = .ok (.invokevirtual 232, 3) := by decide +kernel
theorem dX7_valueOfSets_96 : decode cX7_valueOfSets 96 = .ok (.istore 7, 2) := by decide +kernel
theorem dX7_valueOfSets_98 : decode cX7_valueOfSets 98 = .ok (.aload_n 1, 1) := by decide +kernel
theorem dX7_valueOfSets_99 : decode cX7_valueOfSets 99 = .ok (.iload 6, 2) := by decide +kernel
theorem dX7_valueOfSets_101 : decode cX7_valueOfSets 101 = .ok (.dup2, 1) := by decide +kernel
theorem dX7_valueOfSets_102 : decode cX7_valueOfSets 102 = .ok (.iaload, 1) := by decide +kernel
theorem dX7_valueOfSets_103 : decode cX7_valueOfSets 103 = .ok (.iconst 3, 1) := by decide +kernel
theorem dX7_valueOfSets_104 : decode cX7_valueOfSets 104 = .ok (.iadd, 1) := by decide +kernel
theorem dX7_valueOfSets_105 : decode cX7_valueOfSets 105 = .ok (.iastore, 1) := by decide +kernel
theorem dX7_valueOfSets_106 : decode cX7_valueOfSets 106 = .ok (.iload 6, 2) := by decide +kernel
theorem dX7_valueOfSets_108 : decode cX7_valueOfSets 108 = .ok (.iconst 3, 1) := by decide +kernel
theorem dX7_valueOfSets_109 : decode cX7_valueOfSets 109 = .ok (.invokestatic 17, 3) := by decide +kernel
theorem dX7_valueOfSets_112 : decode cX7_valueOfSets 112 = .ok (.ifCond .eq 21, 3) := by decide +kernel
theorem dX7_valueOfSets_115 : decode cX7_valueOfSets 115 = .ok (.aload_n 1, 1) := by decide +kernel
theorem dX7_valueOfSets_116 : decode cX7_valueOfSets 116 = .ok (.iload 6, 2) := by decide +kernel
theorem dX7_valueOfSets_118 : decode cX7_valueOfSets 118 = .ok (.iconst 1, 1) := by decide +kernel
theorem dX7_valueOfSets_119 : decode cX7_valueOfSets 119 = .ok (.iadd, 1) := by decide +kernel
theorem dX7_valueOfSets_120 : decode cX7_valueOfSets 120 = .ok (.iaload, 1) := by decide +kernel
theorem dX7_valueOfSets_121 : decode cX7_valueOfSets 121 = .ok (.ifCond .eq 12, 3) := by decide +kernel
theorem dX7_valueOfSets_124 : decode cX7_valueOfSets 124 = .ok (.aload_n 1, 1) := by decide +kernel
theorem dX7_valueOfSets_125 : decode cX7_valueOfSets 125 = .ok (.iload 6, 2) := by decide +kernel
theorem dX7_valueOfSets_127 : decode cX7_valueOfSets 127 = .ok (.iconst 2, 1) := by decide +kernel
theorem dX7_valueOfSets_128 : decode cX7_valueOfSets 128 = .ok (.iadd, 1) := by decide +kernel
theorem dX7_valueOfSets_129 : decode cX7_valueOfSets 129 = .ok (.iaload, 1) := by decide +kernel
theorem dX7_valueOfSets_130 : decode cX7_valueOfSets 130 = .ok (.ifCond .ne 6, 3) := by decide +kernel
theorem dX7_valueOfSets_133 : decode cX7_valueOfSets 133 = .ok (.iload 7, 2) := by decide +kernel
theorem dX7_valueOfSets_135 : decode cX7_valueOfSets 135 = .ok (.ireturn, 1) := by decide +kernel
theorem dX7_valueOfSets_136 : decode cX7_valueOfSets 136 = .ok (.iconst 0, 1) := by decide +kernel
theorem dX7_valueOfSets_137 : decode cX7_valueOfSets 137 = .ok (.istore 8, 2) := by decide +kernel
theorem dX7_valueOfSets_139 : decode cX7_valueOfSets 139 = .ok (.iload 8, 2) := by decide +kernel
theorem dX7_valueOfSets_141 : decode cX7_valueOfSets 141 = .ok (.iconst 3, 1) := by decide +kernel
theorem dX7_valueOfSets_142 : decode cX7_valueOfSets 142 = .ok (.if_icmp .ge 20, 3) := by decide +kernel
theorem dX7_valueOfSets_145 : decode cX7_valueOfSets 145 = .ok (.aload_n 1, 1) := by decide +kernel
theorem dX7_valueOfSets_146 : decode cX7_valueOfSets 146 = .ok (.iload 6, 2) := by decide +kernel
theorem dX7_valueOfSets_148 : decode cX7_valueOfSets 148 = .ok (.iload 8, 2) := by decide +kernel
theorem dX7_valueOfSets_150 : decode cX7_valueOfSets 150 = .ok (.iadd, 1) := by decide +kernel
theorem dX7_valueOfSets_151 : decode cX7_valueOfSets 151 = .ok (.dup2, 1) := by decide +kernel
theorem dX7_valueOfSets_152 : decode cX7_valueOfSets 152 = .ok (.iaload, 1) := by decide +kernel
theorem dX7_valueOfSets_153 : decode cX7_valueOfSets 153 = .ok (.iconst 1, 1) := by decide +kernel
theorem dX7_valueOfSets_154 : decode cX7_valueOfSets 154 = .ok (.isub, 1) := by decide +kernel
theorem dX7_valueOfSets_155 : decode cX7_valueOfSets 155 = .ok (.iastore, 1) := by decide +kernel
theorem dX7_valueOfSets_156 : decode cX7_valueOfSets 156 = .ok (.iinc 8 1, 3) := by decide +kernel
theorem dX7_valueOfSets_159 : decode cX7_valueOfSets 159 = .ok (.goto (-20), 3) := by decide +kernel
theorem dX7_valueOfSets_162 : decode cX7_valueOfSets 162 = .ok (.iload 7, 2) := by decide +kernel
theorem dX7_valueOfSets_164 : decode cX7_valueOfSets 164 = .ok (.aload_n 0, 1) := by decide +kernel
theorem dX7_valueOfSets_165 : decode cX7_valueOfSets 165 = .ok (.aload_n 1, 1) := by decide +kernel
theorem dX7_valueOfSets_166 : decode cX7_valueOfSets 166 = .ok (.iload_n 2, 1) := by decide +kernel
theorem dX7_valueOfSets_167 : decode cX7_valueOfSets 167 = .ok (.iload_n 3, 1) := by decide +kernel
theorem dX7_valueOfSets_168 : decode cX7_valueOfSets 168 = .ok (.iconst 1, 1) := by decide +kernel
theorem dX7_valueOfSets_169 : decode cX7_valueOfSets 169 = .ok (.iadd, 1) := by decide +kernel
theorem dX7_valueOfSets_170 : decode cX7_valueOfSets 170 = .ok (.iload 4, 2) := by decide +kernel
theorem dX7_valueOfSets_172 : decode cX7_valueOfSets 172 = .ok (.iload 5, 2) := by decide +kernel
theorem dX7_valueOfSets_174 : decode cX7_valueOfSets 174 = .ok (.invokevirtual 232, 3) := by decide +kernel
theorem dX7_valueOfSets_177 : decode cX7_valueOfSets 177 = .ok (.invokestatic 235, 3) := by decide +kernel
theorem dX7_valueOfSets_180 : decode cX7_valueOfSets 180 = .ok (.istore 7, 2) := by decide +kernel
theorem dX7_valueOfSets_182 : decode cX7_valueOfSets 182 = .ok (.iconst 0, 1) := by decide +kernel
theorem dX7_valueOfSets_183 : decode cX7_valueOfSets 183 = .ok (.istore 8, 2) := by decide +kernel
theorem dX7_valueOfSets_185 : decode cX7_valueOfSets 185 = .ok (.iload 8, 2) := by decide +kernel
theorem dX7_valueOfSets_187 : decode cX7_valueOfSets 187 = .ok (.iconst 3, 1) := by decide +kernel
theorem dX7_valueOfSets_188 : decode cX7_valueOfSets 188 = .ok (.if_icmp .ge 20, 3) := by decide +kernel
theorem dX7_valueOfSets_191 : decode cX7_valueOfSets 191 = .ok (.aload_n 1, 1) := by decide +kernel
theorem dX7_valueOfSets_192 : decode cX7_valueOfSets 192 = .ok (.iload 6, 2) := by decide +kernel
theorem dX7_valueOfSets_194 : decode cX7_valueOfSets 194 = .ok (.iload 8, 2) := by decide +kernel
theorem dX7_valueOfSets_196 : decode cX7_valueOfSets 196 = .ok (.iadd, 1) := by decide +kernel
theorem dX7_valueOfSets_197 : decode cX7_valueOfSets 197 = .ok (.dup2, 1) := by decide +kernel
theorem dX7_valueOfSets_198 : decode cX7_valueOfSets 198 = .ok (.iaload, 1) := by decide +kernel
theorem dX7_valueOfSets_199 : decode cX7_valueOfSets 199 = .ok (.iconst 1, 1) := by decide +kernel
theorem dX7_valueOfSets_200 : decode cX7_valueOfSets 200 = .ok (.iadd, 1) := by decide +kernel
theorem dX7_valueOfSets_201 : decode cX7_valueOfSets 201 = .ok (.iastore, 1) := by decide +kernel
theorem dX7_valueOfSets_202 : decode cX7_valueOfSets 202 = .ok (.iinc 8 1, 3) := by decide +kernel
theorem dX7_valueOfSets_205 : decode cX7_valueOfSets 205 = .ok (.goto (-20), 3) := by decide +kernel
theorem dX7_valueOfSets_208 : decode cX7_valueOfSets 208 = .ok (.iload 7, 2) := by decide +kernel
theorem dX7_valueOfSets_210 : decode cX7_valueOfSets 210 = .ok (.ireturn, 1) := by decide +kernel
def f_X7_valueOfSets_185 (RC_X7_valueOfSets : Nat → Nat → Int32 → Int32 → Int32 → Int32 → zM → Option (Int32 × zM)) (n : Nat) (a1 : Nat) (i6 : Int32) (i7 : Int32) (i8 : Int32) (M : zM) : Option (Int32 × zM) := match n with
  | 0 => none
  | n + 1 =>
    if ((3 : Int32)) ≤ i8 then
    some (i7, M)
    else
    (lA 0 M a1 ((i6 + i8))).bind fun v1 =>
    (tA M a1 ((i6 + i8)) ((v1 + ((1 : Int32))))).bind fun M2 =>
    f_X7_valueOfSets_185 RC_X7_valueOfSets n a1 i6 i7 ((i8 + (1 : Int32))) M2
set_option maxRecDepth 20000 in
set_option maxHeartbeats 4000000 in
theorem s_X7_valueOfSets_185 {L : zL} {X : zX} {M0 : zM} {N : Nat × Nat} {Q : State → Prop} {r : Int32 × zM} {dd : Nat} {RC_X7_valueOfSets : Nat → Nat → Int32 → Int32 → Int32 → Int32 → zM → Option (Int32 × zM)} {d_X7_valueOfSets : Nat} (hRC_X7_valueOfSets : ∀ (l : Launch) (a0 : Nat) (a1 : Nat) (i2 : Int32) (i3 : Int32) (i4 : Int32) (i5 : Int32) (M : zM) (r : Int32 × zM), RC_X7_valueOfSets a0 a1 i2 i3 i4 i5 M = some r → CP L l yX7_valueOfSets cX7_valueOfSets 9 (some FieldType.int) d_X7_valueOfSets M [.ref (zad L (a0)), .ref (zad L (a1)), .int (i2), .int (i3), .int (i4), .int (i5)] (some (.int r.1)) r.2) (hd : d_X7_valueOfSets + 1 ≤ dd ∧ 4 ≤ dd) (hq : vQ L X M0 N Q (some (.int r.1)) r.2) {n : Nat} {a1 : Nat} {i6 : Int32} {i7 : Int32} {i8 : Int32} {M : zM} : f_X7_valueOfSets_185 RC_X7_valueOfSets n a1 i6 i7 i8 M = some r → V L X yX7_valueOfSets cX7_valueOfSets 9 (some FieldType.int) dd M0 N Q M 185 [(1, .ref (zad L (a1))), (6, .int (i6)), (7, .int (i7)), (8, .int (i8))] [] := by
  induction n generalizing a1 i6 i7 i8 M with
  | zero =>
    intro h
    rw [f_X7_valueOfSets_185] at h
    cases h
  | succ n ih0 =>
    intro h
    have ih : ∀ (a1 : Nat) (i6 : Int32) (i7 : Int32) (i8 : Int32) (M : zM), f_X7_valueOfSets_185 RC_X7_valueOfSets n a1 i6 i7 i8 M = some r → V L X yX7_valueOfSets cX7_valueOfSets 9 (some FieldType.int) dd M0 N Q M 185 [(1, .ref (zad L (a1))), (6, .int (i6)), (7, .int (i7)), (8, .int (i8))] [] := fun a1 i6 i7 i8 M h => ih0 h
    rw [f_X7_valueOfSets_185] at h
    refine V_iload dX7_valueOfSets_185 3 rfl ?_
    refine V_iconst (v := 3) dX7_valueOfSets_187 (by decide) ?_
    refine V_icmp_ge (tgt := 208) dX7_valueOfSets_188 (by decide) (fun c3 => ?_) (fun c3 => ?_)
    · replace h := (oi h).1 c3
      refine V_iload dX7_valueOfSets_208 2 rfl ?_
      obtain rfl := Option.some.inj h
      exact V_iret rfl hq dX7_valueOfSets_210
    · replace h := (oi h).2 c3
      refine V_aload_n dX7_valueOfSets_191 rfl 0 rfl ?_
      refine V_iload dX7_valueOfSets_192 1 rfl ?_
      refine V_iload dX7_valueOfSets_194 3 rfl ?_
      refine V_iadd dX7_valueOfSets_196 ?_
      refine V_dup2 dX7_valueOfSets_197 rfl rfl ?_
      replace h := ob h
      obtain ⟨v1, e_v1, h⟩ := h
      refine V_iald e_v1 dX7_valueOfSets_198 ?_
      refine V_pc (pc' := 199) rfl ?_
      refine V_iconst (v := 1) dX7_valueOfSets_199 (by decide) ?_
      refine V_iadd dX7_valueOfSets_200 ?_
      replace h := ob h
      obtain ⟨M2, e_M2, h⟩ := h
      refine V_iast e_M2 dX7_valueOfSets_201 ?_
      refine V_iinc (v := i8 + (1 : Int32)) (ls' := [(8, .int ((i8 + (1 : Int32)))), (1, .ref (zad L (a1))), (6, .int (i6)), (7, .int (i7))]) dX7_valueOfSets_202 3 rfl (by rfl) (by decide) rfl ?_
      refine V_goto (tgt := 185) dX7_valueOfSets_205 (by decide) ?_
      refine V_sub [1, 2, 3, 0] rfl ?_
      exact ih _ _ _ _ _ h
def f_X7_valueOfSets_139 (RC_X7_valueOfSets : Nat → Nat → Int32 → Int32 → Int32 → Int32 → zM → Option (Int32 × zM)) (n : Nat) (a0 : Nat) (a1 : Nat) (i2 : Int32) (i3 : Int32) (i4 : Int32) (i5 : Int32) (i6 : Int32) (i7 : Int32) (i8 : Int32) (M : zM) : Option (Int32 × zM) := match n with
  | 0 => none
  | n + 1 =>
    if ((3 : Int32)) ≤ i8 then
    if mK M a0 = 13 then
    (RC_X7_valueOfSets a0 a1 i2 ((i3 + ((1 : Int32)))) i4 i5 M).bind fun r1 =>
    (f_J9_max_7cf53 i7 r1.1 r1.2).bind fun r3 =>
    f_X7_valueOfSets_185 RC_X7_valueOfSets zN a1 i6 r3.1 ((0 : Int32)) r3.2
    else none
    else
    (lA 0 M a1 ((i6 + i8))).bind fun v4 =>
    (tA M a1 ((i6 + i8)) ((v4 - ((1 : Int32))))).bind fun M5 =>
    f_X7_valueOfSets_139 RC_X7_valueOfSets n a0 a1 i2 i3 i4 i5 i6 i7 ((i8 + (1 : Int32))) M5
set_option maxRecDepth 20000 in
set_option maxHeartbeats 4000000 in
theorem s_X7_valueOfSets_139 {L : zL} {X : zX} {M0 : zM} {N : Nat × Nat} {Q : State → Prop} {r : Int32 × zM} {dd : Nat} {RC_X7_valueOfSets : Nat → Nat → Int32 → Int32 → Int32 → Int32 → zM → Option (Int32 × zM)} {d_X7_valueOfSets : Nat} (hRC_X7_valueOfSets : ∀ (l : Launch) (a0 : Nat) (a1 : Nat) (i2 : Int32) (i3 : Int32) (i4 : Int32) (i5 : Int32) (M : zM) (r : Int32 × zM), RC_X7_valueOfSets a0 a1 i2 i3 i4 i5 M = some r → CP L l yX7_valueOfSets cX7_valueOfSets 9 (some FieldType.int) d_X7_valueOfSets M [.ref (zad L (a0)), .ref (zad L (a1)), .int (i2), .int (i3), .int (i4), .int (i5)] (some (.int r.1)) r.2) (hd : d_X7_valueOfSets + 1 ≤ dd ∧ 4 ≤ dd) (hq : vQ L X M0 N Q (some (.int r.1)) r.2) {n : Nat} {a0 : Nat} {a1 : Nat} {i2 : Int32} {i3 : Int32} {i4 : Int32} {i5 : Int32} {i6 : Int32} {i7 : Int32} {i8 : Int32} {M : zM} : f_X7_valueOfSets_139 RC_X7_valueOfSets n a0 a1 i2 i3 i4 i5 i6 i7 i8 M = some r → V L X yX7_valueOfSets cX7_valueOfSets 9 (some FieldType.int) dd M0 N Q M 139 [(0, .ref (zad L (a0))), (1, .ref (zad L (a1))), (2, .int (i2)), (3, .int (i3)), (4, .int (i4)), (5, .int (i5)), (6, .int (i6)), (7, .int (i7)), (8, .int (i8))] [] := by
  induction n generalizing a0 a1 i2 i3 i4 i5 i6 i7 i8 M with
  | zero =>
    intro h
    rw [f_X7_valueOfSets_139] at h
    cases h
  | succ n ih0 =>
    intro h
    have ih : ∀ (a0 : Nat) (a1 : Nat) (i2 : Int32) (i3 : Int32) (i4 : Int32) (i5 : Int32) (i6 : Int32) (i7 : Int32) (i8 : Int32) (M : zM), f_X7_valueOfSets_139 RC_X7_valueOfSets n a0 a1 i2 i3 i4 i5 i6 i7 i8 M = some r → V L X yX7_valueOfSets cX7_valueOfSets 9 (some FieldType.int) dd M0 N Q M 139 [(0, .ref (zad L (a0))), (1, .ref (zad L (a1))), (2, .int (i2)), (3, .int (i3)), (4, .int (i4)), (5, .int (i5)), (6, .int (i6)), (7, .int (i7)), (8, .int (i8))] [] := fun a0 a1 i2 i3 i4 i5 i6 i7 i8 M h => ih0 h
    rw [f_X7_valueOfSets_139] at h
    refine V_iload dX7_valueOfSets_139 8 rfl ?_
    refine V_iconst (v := 3) dX7_valueOfSets_141 (by decide) ?_
    refine V_icmp_ge (tgt := 162) dX7_valueOfSets_142 (by decide) (fun c6 => ?_) (fun c6 => ?_)
    · replace h := (oi h).1 c6
      refine V_iload dX7_valueOfSets_162 7 rfl ?_
      refine V_aload_n dX7_valueOfSets_164 rfl 0 rfl ?_
      refine V_aload_n dX7_valueOfSets_165 rfl 1 rfl ?_
      refine V_iload_n dX7_valueOfSets_166 rfl 2 rfl ?_
      refine V_iload_n dX7_valueOfSets_167 rfl 3 rfl ?_
      refine V_iconst (v := 1) dX7_valueOfSets_168 (by decide) ?_
      refine V_iadd dX7_valueOfSets_169 ?_
      refine V_iload dX7_valueOfSets_170 4 rfl ?_
      refine V_iload dX7_valueOfSets_172 5 rfl ?_
      replace h := ox h
      obtain ⟨c2, h⟩ := h
      replace h := ob h
      obtain ⟨r1, e_r1, h⟩ := h
      refine V_callV_I (As := [.ref (zad L (a1)), .int (i2), .int ((i3 + ((1 : Int32)))), .int (i4), .int (i5)]) (rest := [.int (i7)]) (hRC_X7_valueOfSets X.2.1 _ _ _ _ _ _ _ _ e_r1) zc_X7_valueOfSets rfl (by omega) rfl (by decide) (Or.inl c2) zm_X7_232 (Nat.le_of_ble_eq_true rfl) rfl dX7_valueOfSets_174 ?_
      refine V_pc (pc' := 177) rfl ?_
      replace h := ob h
      obtain ⟨r3, e_r3, h⟩ := h
      refine V_callS_I (As := [.int (i7), .int (r1.1)]) (rest := []) (c_J9_max_7cf53 e_r3) zc_J9_max_7cf53 rfl (by omega) zm_X7_235 (Nat.le_of_ble_eq_true rfl) rfl dX7_valueOfSets_177 ?_
      refine V_pc (pc' := 180) rfl ?_
      refine V_istore (ls' := [(7, .int (r3.1)), (0, .ref (zad L (a0))), (1, .ref (zad L (a1))), (2, .int (i2)), (3, .int (i3)), (4, .int (i4)), (5, .int (i5)), (6, .int (i6)), (8, .int (i8))]) dX7_valueOfSets_180 (by decide) rfl ?_
      refine V_iconst (v := 0) dX7_valueOfSets_182 (by decide) ?_
      refine V_istore (ls' := [(8, .int ((0 : Int32))), (7, .int (r3.1)), (0, .ref (zad L (a0))), (1, .ref (zad L (a1))), (2, .int (i2)), (3, .int (i3)), (4, .int (i4)), (5, .int (i5)), (6, .int (i6))]) dX7_valueOfSets_183 (by decide) rfl ?_
      refine V_sub [3, 8, 1, 0] rfl ?_
      exact s_X7_valueOfSets_185 hRC_X7_valueOfSets hd hq h
    · replace h := (oi h).2 c6
      refine V_aload_n dX7_valueOfSets_145 rfl 1 rfl ?_
      refine V_iload dX7_valueOfSets_146 6 rfl ?_
      refine V_iload dX7_valueOfSets_148 8 rfl ?_
      refine V_iadd dX7_valueOfSets_150 ?_
      refine V_dup2 dX7_valueOfSets_151 rfl rfl ?_
      replace h := ob h
      obtain ⟨v4, e_v4, h⟩ := h
      refine V_iald e_v4 dX7_valueOfSets_152 ?_
      refine V_pc (pc' := 153) rfl ?_
      refine V_iconst (v := 1) dX7_valueOfSets_153 (by decide) ?_
      refine V_isub dX7_valueOfSets_154 ?_
      replace h := ob h
      obtain ⟨M5, e_M5, h⟩ := h
      refine V_iast e_M5 dX7_valueOfSets_155 ?_
      refine V_iinc (v := i8 + (1 : Int32)) (ls' := [(8, .int ((i8 + (1 : Int32)))), (0, .ref (zad L (a0))), (1, .ref (zad L (a1))), (2, .int (i2)), (3, .int (i3)), (4, .int (i4)), (5, .int (i5)), (6, .int (i6)), (7, .int (i7))]) dX7_valueOfSets_156 8 rfl (by rfl) (by decide) rfl ?_
      refine V_goto (tgt := 139) dX7_valueOfSets_159 (by decide) ?_
      refine V_sub [1, 2, 3, 4, 5, 6, 7, 8, 0] rfl ?_
      exact ih _ _ _ _ _ _ _ _ _ _ h
def f_X7_valueOfSets_106 (RC_X7_valueOfSets : Nat → Nat → Int32 → Int32 → Int32 → Int32 → zM → Option (Int32 × zM)) (a0 : Nat) (a1 : Nat) (i2 : Int32) (i3 : Int32) (i4 : Int32) (i5 : Int32) (i6 : Int32) (i7 : Int32) (M : zM) : Option (Int32 × zM) :=
  (f_X7_isRun i6 ((3 : Int32)) M).bind fun r1 =>
  if r1.1 = 0 then
  some (i7, r1.2)
  else
  (lA 0 r1.2 a1 ((i6 + ((1 : Int32))))).bind fun v2 =>
  if v2 = 0 then
  some (i7, r1.2)
  else
  (lA 0 r1.2 a1 ((i6 + ((2 : Int32))))).bind fun v3 =>
  if v3 = 0 then
  some (i7, r1.2)
  else
  f_X7_valueOfSets_139 RC_X7_valueOfSets zN a0 a1 i2 i3 i4 i5 i6 i7 ((0 : Int32)) r1.2
set_option maxRecDepth 20000 in
set_option maxHeartbeats 4000000 in
theorem s_X7_valueOfSets_106 {L : zL} {X : zX} {M0 : zM} {N : Nat × Nat} {Q : State → Prop} {r : Int32 × zM} {dd : Nat} {RC_X7_valueOfSets : Nat → Nat → Int32 → Int32 → Int32 → Int32 → zM → Option (Int32 × zM)} {d_X7_valueOfSets : Nat} (hRC_X7_valueOfSets : ∀ (l : Launch) (a0 : Nat) (a1 : Nat) (i2 : Int32) (i3 : Int32) (i4 : Int32) (i5 : Int32) (M : zM) (r : Int32 × zM), RC_X7_valueOfSets a0 a1 i2 i3 i4 i5 M = some r → CP L l yX7_valueOfSets cX7_valueOfSets 9 (some FieldType.int) d_X7_valueOfSets M [.ref (zad L (a0)), .ref (zad L (a1)), .int (i2), .int (i3), .int (i4), .int (i5)] (some (.int r.1)) r.2) (hd : d_X7_valueOfSets + 1 ≤ dd ∧ 4 ≤ dd) (hq : vQ L X M0 N Q (some (.int r.1)) r.2) {a0 : Nat} {a1 : Nat} {i2 : Int32} {i3 : Int32} {i4 : Int32} {i5 : Int32} {i6 : Int32} {i7 : Int32} {M : zM} (h : f_X7_valueOfSets_106 RC_X7_valueOfSets a0 a1 i2 i3 i4 i5 i6 i7 M = some r) : V L X yX7_valueOfSets cX7_valueOfSets 9 (some FieldType.int) dd M0 N Q M 106 [(0, .ref (zad L (a0))), (1, .ref (zad L (a1))), (2, .int (i2)), (3, .int (i3)), (4, .int (i4)), (5, .int (i5)), (6, .int (i6)), (7, .int (i7))] [] := by
  unfold f_X7_valueOfSets_106 at h
  refine V_iload dX7_valueOfSets_106 6 rfl ?_
  refine V_iconst (v := 3) dX7_valueOfSets_108 (by decide) ?_
  replace h := ob h
  obtain ⟨r1, e_r1, h⟩ := h
  refine V_callS_I (As := [.int (i6), .int ((3 : Int32))]) (rest := []) (c_X7_isRun e_r1) zc_X7_isRun rfl (by omega) zm_X7_17 (Nat.le_of_ble_eq_true rfl) rfl dX7_valueOfSets_109 ?_
  refine V_pc (pc' := 112) rfl ?_
  refine V_if_eq (tgt := 133) dX7_valueOfSets_112 (by decide) (fun c6 => ?_) (fun c6 => ?_)
  · replace h := (oi h).1 c6
    refine V_iload dX7_valueOfSets_133 7 rfl ?_
    obtain rfl := Option.some.inj h
    exact V_iret rfl hq dX7_valueOfSets_135
  · replace h := (oi h).2 c6
    refine V_aload_n dX7_valueOfSets_115 rfl 1 rfl ?_
    refine V_iload dX7_valueOfSets_116 6 rfl ?_
    refine V_iconst (v := 1) dX7_valueOfSets_118 (by decide) ?_
    refine V_iadd dX7_valueOfSets_119 ?_
    replace h := ob h
    obtain ⟨v2, e_v2, h⟩ := h
    refine V_iald e_v2 dX7_valueOfSets_120 ?_
    refine V_pc (pc' := 121) rfl ?_
    refine V_if_eq (tgt := 133) dX7_valueOfSets_121 (by decide) (fun c5 => ?_) (fun c5 => ?_)
    · replace h := (oi h).1 c5
      refine V_iload dX7_valueOfSets_133 7 rfl ?_
      obtain rfl := Option.some.inj h
      exact V_iret rfl hq dX7_valueOfSets_135
    · replace h := (oi h).2 c5
      refine V_aload_n dX7_valueOfSets_124 rfl 1 rfl ?_
      refine V_iload dX7_valueOfSets_125 6 rfl ?_
      refine V_iconst (v := 2) dX7_valueOfSets_127 (by decide) ?_
      refine V_iadd dX7_valueOfSets_128 ?_
      replace h := ob h
      obtain ⟨v3, e_v3, h⟩ := h
      refine V_iald e_v3 dX7_valueOfSets_129 ?_
      refine V_pc (pc' := 130) rfl ?_
      refine V_if_ne (tgt := 136) dX7_valueOfSets_130 (by decide) (fun c4 => ?_) (fun c4 => ?_)
      · replace h := (oi h).2 c4
        refine V_iconst (v := 0) dX7_valueOfSets_136 (by decide) ?_
        refine V_istore (ls' := [(8, .int ((0 : Int32))), (0, .ref (zad L (a0))), (1, .ref (zad L (a1))), (2, .int (i2)), (3, .int (i3)), (4, .int (i4)), (5, .int (i5)), (6, .int (i6)), (7, .int (i7))]) dX7_valueOfSets_137 (by decide) rfl ?_
        refine V_sub [1, 2, 3, 4, 5, 6, 7, 8, 0] rfl ?_
        exact s_X7_valueOfSets_139 hRC_X7_valueOfSets hd hq h
      · replace h := (oi h).1 c4
        refine V_iload dX7_valueOfSets_133 7 rfl ?_
        obtain rfl := Option.some.inj h
        exact V_iret rfl hq dX7_valueOfSets_135
def f_X7_valueOfSets_23 (RC_X7_valueOfSets : Nat → Nat → Int32 → Int32 → Int32 → Int32 → zM → Option (Int32 × zM)) (a0 : Nat) (a1 : Nat) (i2 : Int32) (i3 : Int32) (i4 : Int32) (i5 : Int32) (i6 : Int32) (M : zM) : Option (Int32 × zM) :=
  if i6 = ((25 : Int32)) then
  if i3 = ((3 : Int32)) then
  if i4 = ((3 : Int32)) then
  some ((i5 + ((2 : Int32))), M)
  else
  some ((i5 + ((0 : Int32))), M)
  else
  some ((-1 : Int32), M)
  else
  (lA 0 M a1 i6).bind fun v1 =>
  if v1 < ((3 : Int32)) then
  f_X7_valueOfSets_106 RC_X7_valueOfSets a0 a1 i2 i3 i4 i5 i6 ((-1 : Int32)) M
  else
  (lA 0 M a1 i6).bind fun v2 =>
  (tA M a1 i6 ((v2 - ((3 : Int32))))).bind fun M3 =>
  if mK M3 a0 = 13 then
  (f_X7_valueOfThree a0 i6 i2 M3).bind fun r4 =>
  if mK r4.2 a0 = 13 then
  (RC_X7_valueOfSets a0 a1 i2 ((i3 + ((1 : Int32)))) ((i4 + ((1 : Int32)))) ((i5 + r4.1)) r4.2).bind fun r6 =>
  (lA 0 r6.2 a1 i6).bind fun v8 =>
  (tA r6.2 a1 i6 ((v8 + ((3 : Int32))))).bind fun M9 =>
  f_X7_valueOfSets_106 RC_X7_valueOfSets a0 a1 i2 i3 i4 i5 i6 r6.1 M9
  else none
  else none
set_option maxRecDepth 20000 in
set_option maxHeartbeats 4000000 in
theorem s_X7_valueOfSets_23 {L : zL} {X : zX} {M0 : zM} {N : Nat × Nat} {Q : State → Prop} {r : Int32 × zM} {dd : Nat} {RC_X7_valueOfSets : Nat → Nat → Int32 → Int32 → Int32 → Int32 → zM → Option (Int32 × zM)} {d_X7_valueOfSets : Nat} (hRC_X7_valueOfSets : ∀ (l : Launch) (a0 : Nat) (a1 : Nat) (i2 : Int32) (i3 : Int32) (i4 : Int32) (i5 : Int32) (M : zM) (r : Int32 × zM), RC_X7_valueOfSets a0 a1 i2 i3 i4 i5 M = some r → CP L l yX7_valueOfSets cX7_valueOfSets 9 (some FieldType.int) d_X7_valueOfSets M [.ref (zad L (a0)), .ref (zad L (a1)), .int (i2), .int (i3), .int (i4), .int (i5)] (some (.int r.1)) r.2) (hd : d_X7_valueOfSets + 1 ≤ dd ∧ 4 ≤ dd) (hq : vQ L X M0 N Q (some (.int r.1)) r.2) {a0 : Nat} {a1 : Nat} {i2 : Int32} {i3 : Int32} {i4 : Int32} {i5 : Int32} {i6 : Int32} {M : zM} (h : f_X7_valueOfSets_23 RC_X7_valueOfSets a0 a1 i2 i3 i4 i5 i6 M = some r) : V L X yX7_valueOfSets cX7_valueOfSets 9 (some FieldType.int) dd M0 N Q M 23 [(0, .ref (zad L (a0))), (1, .ref (zad L (a1))), (2, .int (i2)), (3, .int (i3)), (4, .int (i4)), (5, .int (i5)), (6, .int (i6))] [] := by
  unfold f_X7_valueOfSets_23 at h
  refine V_iload dX7_valueOfSets_23 6 rfl ?_
  refine V_bipush (v := 25) dX7_valueOfSets_25 (by decide) ?_
  refine V_icmp_ne (tgt := 54) dX7_valueOfSets_27 (by decide) (fun c13 => ?_) (fun c13 => ?_)
  · replace h := (oi h).2 c13
    refine V_iconst (v := -1) dX7_valueOfSets_54 (by decide) ?_
    refine V_istore (ls' := [(7, .int ((-1 : Int32))), (0, .ref (zad L (a0))), (1, .ref (zad L (a1))), (2, .int (i2)), (3, .int (i3)), (4, .int (i4)), (5, .int (i5)), (6, .int (i6))]) dX7_valueOfSets_55 (by decide) rfl ?_
    refine V_aload_n dX7_valueOfSets_57 rfl 2 rfl ?_
    refine V_iload dX7_valueOfSets_58 7 rfl ?_
    replace h := ob h
    obtain ⟨v1, e_v1, h⟩ := h
    refine V_iald e_v1 dX7_valueOfSets_60 ?_
    refine V_pc (pc' := 61) rfl ?_
    refine V_iconst (v := 3) dX7_valueOfSets_61 (by decide) ?_
    refine V_icmp_lt (tgt := 106) dX7_valueOfSets_62 (by decide) (fun c10 => ?_) (fun c10 => ?_)
    · replace h := (oi h).1 c10
      refine V_sub [1, 2, 3, 4, 5, 6, 7, 0] rfl ?_
      exact s_X7_valueOfSets_106 hRC_X7_valueOfSets hd hq h
    · replace h := (oi h).2 c10
      refine V_aload_n dX7_valueOfSets_65 rfl 2 rfl ?_
      refine V_iload dX7_valueOfSets_66 7 rfl ?_
      refine V_dup2 dX7_valueOfSets_68 rfl rfl ?_
      replace h := ob h
      obtain ⟨v2, e_v2, h⟩ := h
      refine V_iald e_v2 dX7_valueOfSets_69 ?_
      refine V_pc (pc' := 70) rfl ?_
      refine V_iconst (v := 3) dX7_valueOfSets_70 (by decide) ?_
      refine V_isub dX7_valueOfSets_71 ?_
      replace h := ob h
      obtain ⟨M3, e_M3, h⟩ := h
      refine V_iast e_M3 dX7_valueOfSets_72 ?_
      refine V_aload_n dX7_valueOfSets_73 rfl 1 rfl ?_
      refine V_aload_n dX7_valueOfSets_74 rfl 2 rfl ?_
      refine V_iload_n dX7_valueOfSets_75 rfl 3 rfl ?_
      refine V_iload_n dX7_valueOfSets_76 rfl 4 rfl ?_
      refine V_iconst (v := 1) dX7_valueOfSets_77 (by decide) ?_
      refine V_iadd dX7_valueOfSets_78 ?_
      refine V_iload dX7_valueOfSets_79 5 rfl ?_
      refine V_iconst (v := 1) dX7_valueOfSets_81 (by decide) ?_
      refine V_iadd dX7_valueOfSets_82 ?_
      refine V_iload dX7_valueOfSets_83 6 rfl ?_
      refine V_aload_n dX7_valueOfSets_85 rfl 1 rfl ?_
      refine V_iload dX7_valueOfSets_86 7 rfl ?_
      refine V_iload_n dX7_valueOfSets_88 rfl 3 rfl ?_
      replace h := ox h
      obtain ⟨c5, h⟩ := h
      replace h := ob h
      obtain ⟨r4, e_r4, h⟩ := h
      refine V_callV_I (As := [.int (i6), .int (i2)]) (rest := [.int (i5), .int ((i4 + ((1 : Int32)))), .int ((i3 + ((1 : Int32)))), .int (i2), .ref (zad L (a1)), .ref (zad L (a0))]) (c_X7_valueOfThree e_r4) zc_X7_valueOfThree rfl (by omega) rfl (by decide) (Or.inl c5) zm_X7_229 (Nat.le_of_ble_eq_true rfl) rfl dX7_valueOfSets_89 ?_
      refine V_pc (pc' := 92) rfl ?_
      refine V_iadd dX7_valueOfSets_92 ?_
      replace h := ox h
      obtain ⟨c7, h⟩ := h
      replace h := ob h
      obtain ⟨r6, e_r6, h⟩ := h
      refine V_callV_I (As := [.ref (zad L (a1)), .int (i2), .int ((i3 + ((1 : Int32)))), .int ((i4 + ((1 : Int32)))), .int ((i5 + r4.1))]) (rest := []) (hRC_X7_valueOfSets X.2.1 _ _ _ _ _ _ _ _ e_r6) zc_X7_valueOfSets rfl (by omega) rfl (by decide) (Or.inl c7) zm_X7_232 (Nat.le_of_ble_eq_true rfl) rfl dX7_valueOfSets_93 ?_
      refine V_pc (pc' := 96) rfl ?_
      refine V_istore (ls' := [(7, .int (r6.1)), (0, .ref (zad L (a0))), (1, .ref (zad L (a1))), (2, .int (i2)), (3, .int (i3)), (4, .int (i4)), (5, .int (i5)), (6, .int (i6))]) dX7_valueOfSets_96 (by decide) rfl ?_
      refine V_aload_n dX7_valueOfSets_98 rfl 2 rfl ?_
      refine V_iload dX7_valueOfSets_99 7 rfl ?_
      refine V_dup2 dX7_valueOfSets_101 rfl rfl ?_
      replace h := ob h
      obtain ⟨v8, e_v8, h⟩ := h
      refine V_iald e_v8 dX7_valueOfSets_102 ?_
      refine V_pc (pc' := 103) rfl ?_
      refine V_iconst (v := 3) dX7_valueOfSets_103 (by decide) ?_
      refine V_iadd dX7_valueOfSets_104 ?_
      replace h := ob h
      obtain ⟨M9, e_M9, h⟩ := h
      refine V_iast e_M9 dX7_valueOfSets_105 ?_
      refine V_sub [1, 2, 3, 4, 5, 6, 7, 0] rfl ?_
      exact s_X7_valueOfSets_106 hRC_X7_valueOfSets hd hq h
  · replace h := (oi h).1 c13
    refine V_iload_n dX7_valueOfSets_30 rfl 3 rfl ?_
    refine V_iconst (v := 3) dX7_valueOfSets_31 (by decide) ?_
    refine V_icmp_eq (tgt := 39) dX7_valueOfSets_32 (by decide) (fun c12 => ?_) (fun c12 => ?_)
    · replace h := (oi h).1 c12
      refine V_iload dX7_valueOfSets_39 5 rfl ?_
      refine V_iload dX7_valueOfSets_41 4 rfl ?_
      refine V_iconst (v := 3) dX7_valueOfSets_43 (by decide) ?_
      refine V_icmp_ne (tgt := 51) dX7_valueOfSets_44 (by decide) (fun c11 => ?_) (fun c11 => ?_)
      · replace h := (oi h).2 c11
        refine V_iconst (v := 0) dX7_valueOfSets_51 (by decide) ?_
        refine V_iadd dX7_valueOfSets_52 ?_
        obtain rfl := Option.some.inj h
        exact V_iret rfl hq dX7_valueOfSets_53
      · replace h := (oi h).1 c11
        refine V_iconst (v := 2) dX7_valueOfSets_47 (by decide) ?_
        refine V_goto (tgt := 52) dX7_valueOfSets_48 (by decide) ?_
        refine V_iadd dX7_valueOfSets_52 ?_
        obtain rfl := Option.some.inj h
        exact V_iret rfl hq dX7_valueOfSets_53
    · replace h := (oi h).2 c12
      refine V_iconst (v := -1) dX7_valueOfSets_35 (by decide) ?_
      refine V_goto (tgt := 53) dX7_valueOfSets_36 (by decide) ?_
      obtain rfl := Option.some.inj h
      exact V_iret rfl hq dX7_valueOfSets_53
def f_X7_valueOfSets_3 (RC_X7_valueOfSets : Nat → Nat → Int32 → Int32 → Int32 → Int32 → zM → Option (Int32 × zM)) (n : Nat) (a0 : Nat) (a1 : Nat) (i2 : Int32) (i3 : Int32) (i4 : Int32) (i5 : Int32) (i6 : Int32) (M : zM) : Option (Int32 × zM) := match n with
  | 0 => none
  | n + 1 =>
    if ((25 : Int32)) ≤ i6 then
    f_X7_valueOfSets_23 RC_X7_valueOfSets a0 a1 i2 i3 i4 i5 i6 M
    else
    (lA 0 M a1 i6).bind fun v1 =>
    if v1 = 0 then
    f_X7_valueOfSets_3 RC_X7_valueOfSets n a0 a1 i2 i3 i4 i5 ((i6 + (1 : Int32))) M
    else
    f_X7_valueOfSets_23 RC_X7_valueOfSets a0 a1 i2 i3 i4 i5 i6 M
set_option maxRecDepth 20000 in
set_option maxHeartbeats 4000000 in
theorem s_X7_valueOfSets_3 {L : zL} {X : zX} {M0 : zM} {N : Nat × Nat} {Q : State → Prop} {r : Int32 × zM} {dd : Nat} {RC_X7_valueOfSets : Nat → Nat → Int32 → Int32 → Int32 → Int32 → zM → Option (Int32 × zM)} {d_X7_valueOfSets : Nat} (hRC_X7_valueOfSets : ∀ (l : Launch) (a0 : Nat) (a1 : Nat) (i2 : Int32) (i3 : Int32) (i4 : Int32) (i5 : Int32) (M : zM) (r : Int32 × zM), RC_X7_valueOfSets a0 a1 i2 i3 i4 i5 M = some r → CP L l yX7_valueOfSets cX7_valueOfSets 9 (some FieldType.int) d_X7_valueOfSets M [.ref (zad L (a0)), .ref (zad L (a1)), .int (i2), .int (i3), .int (i4), .int (i5)] (some (.int r.1)) r.2) (hd : d_X7_valueOfSets + 1 ≤ dd ∧ 4 ≤ dd) (hq : vQ L X M0 N Q (some (.int r.1)) r.2) {n : Nat} {a0 : Nat} {a1 : Nat} {i2 : Int32} {i3 : Int32} {i4 : Int32} {i5 : Int32} {i6 : Int32} {M : zM} : f_X7_valueOfSets_3 RC_X7_valueOfSets n a0 a1 i2 i3 i4 i5 i6 M = some r → V L X yX7_valueOfSets cX7_valueOfSets 9 (some FieldType.int) dd M0 N Q M 3 [(0, .ref (zad L (a0))), (1, .ref (zad L (a1))), (2, .int (i2)), (3, .int (i3)), (4, .int (i4)), (5, .int (i5)), (6, .int (i6))] [] := by
  induction n generalizing a0 a1 i2 i3 i4 i5 i6 M with
  | zero =>
    intro h
    rw [f_X7_valueOfSets_3] at h
    cases h
  | succ n ih0 =>
    intro h
    have ih : ∀ (a0 : Nat) (a1 : Nat) (i2 : Int32) (i3 : Int32) (i4 : Int32) (i5 : Int32) (i6 : Int32) (M : zM), f_X7_valueOfSets_3 RC_X7_valueOfSets n a0 a1 i2 i3 i4 i5 i6 M = some r → V L X yX7_valueOfSets cX7_valueOfSets 9 (some FieldType.int) dd M0 N Q M 3 [(0, .ref (zad L (a0))), (1, .ref (zad L (a1))), (2, .int (i2)), (3, .int (i3)), (4, .int (i4)), (5, .int (i5)), (6, .int (i6))] [] := fun a0 a1 i2 i3 i4 i5 i6 M h => ih0 h
    rw [f_X7_valueOfSets_3] at h
    refine V_iload dX7_valueOfSets_3 6 rfl ?_
    refine V_bipush (v := 25) dX7_valueOfSets_5 (by decide) ?_
    refine V_icmp_ge (tgt := 23) dX7_valueOfSets_7 (by decide) (fun c3 => ?_) (fun c3 => ?_)
    · replace h := (oi h).1 c3
      exact s_X7_valueOfSets_23 hRC_X7_valueOfSets hd hq h
    · replace h := (oi h).2 c3
      refine V_aload_n dX7_valueOfSets_10 rfl 1 rfl ?_
      refine V_iload dX7_valueOfSets_11 6 rfl ?_
      replace h := ob h
      obtain ⟨v1, e_v1, h⟩ := h
      refine V_iald e_v1 dX7_valueOfSets_13 ?_
      refine V_pc (pc' := 14) rfl ?_
      refine V_if_ne (tgt := 23) dX7_valueOfSets_14 (by decide) (fun c2 => ?_) (fun c2 => ?_)
      · replace h := (oi h).2 c2
        exact s_X7_valueOfSets_23 hRC_X7_valueOfSets hd hq h
      · replace h := (oi h).1 c2
        refine V_iinc (v := i6 + (1 : Int32)) (ls' := [(6, .int ((i6 + (1 : Int32)))), (0, .ref (zad L (a0))), (1, .ref (zad L (a1))), (2, .int (i2)), (3, .int (i3)), (4, .int (i4)), (5, .int (i5))]) dX7_valueOfSets_17 6 rfl (by rfl) (by decide) rfl ?_
        refine V_goto (tgt := 3) dX7_valueOfSets_20 (by decide) ?_
        refine V_sub [1, 2, 3, 4, 5, 6, 0] rfl ?_
        exact ih _ _ _ _ _ _ _ _ h
def f_X7_valueOfSets_0 (RC_X7_valueOfSets : Nat → Nat → Int32 → Int32 → Int32 → Int32 → zM → Option (Int32 × zM)) (a0 : Nat) (a1 : Nat) (i2 : Int32) (i3 : Int32) (i4 : Int32) (i5 : Int32) (M : zM) : Option (Int32 × zM) :=
  f_X7_valueOfSets_3 RC_X7_valueOfSets zN a0 a1 i2 i3 i4 i5 ((0 : Int32)) M
set_option maxRecDepth 20000 in
set_option maxHeartbeats 4000000 in
theorem s_X7_valueOfSets_0 {L : zL} {X : zX} {M0 : zM} {N : Nat × Nat} {Q : State → Prop} {r : Int32 × zM} {dd : Nat} {RC_X7_valueOfSets : Nat → Nat → Int32 → Int32 → Int32 → Int32 → zM → Option (Int32 × zM)} {d_X7_valueOfSets : Nat} (hRC_X7_valueOfSets : ∀ (l : Launch) (a0 : Nat) (a1 : Nat) (i2 : Int32) (i3 : Int32) (i4 : Int32) (i5 : Int32) (M : zM) (r : Int32 × zM), RC_X7_valueOfSets a0 a1 i2 i3 i4 i5 M = some r → CP L l yX7_valueOfSets cX7_valueOfSets 9 (some FieldType.int) d_X7_valueOfSets M [.ref (zad L (a0)), .ref (zad L (a1)), .int (i2), .int (i3), .int (i4), .int (i5)] (some (.int r.1)) r.2) (hd : d_X7_valueOfSets + 1 ≤ dd ∧ 4 ≤ dd) (hq : vQ L X M0 N Q (some (.int r.1)) r.2) {a0 : Nat} {a1 : Nat} {i2 : Int32} {i3 : Int32} {i4 : Int32} {i5 : Int32} {M : zM} (h : f_X7_valueOfSets_0 RC_X7_valueOfSets a0 a1 i2 i3 i4 i5 M = some r) : V L X yX7_valueOfSets cX7_valueOfSets 9 (some FieldType.int) dd M0 N Q M 0 [(0, .ref (zad L (a0))), (1, .ref (zad L (a1))), (2, .int (i2)), (3, .int (i3)), (4, .int (i4)), (5, .int (i5))] [] := by
  unfold f_X7_valueOfSets_0 at h
  refine V_iconst (v := 0) dX7_valueOfSets_0 (by decide) ?_
  refine V_istore (ls' := [(6, .int ((0 : Int32))), (0, .ref (zad L (a0))), (1, .ref (zad L (a1))), (2, .int (i2)), (3, .int (i3)), (4, .int (i4)), (5, .int (i5))]) dX7_valueOfSets_1 (by decide) rfl ?_
  refine V_sub [1, 2, 3, 4, 5, 6, 0] rfl ?_
  exact s_X7_valueOfSets_3 hRC_X7_valueOfSets hd hq h
def f_X7_valueOfSets (n : Nat) (a0 : Nat) (a1 : Nat) (i2 : Int32) (i3 : Int32) (i4 : Int32) (i5 : Int32) (M : zM) : Option (Int32 × zM) := match n with
  | 0 => none
  | n + 1 => f_X7_valueOfSets_0 (f_X7_valueOfSets n) a0 a1 i2 i3 i4 i5 M
theorem cr_X7_valueOfSets {L : zL} {l : Launch} {n : Nat} {a0 : Nat} {a1 : Nat} {i2 : Int32} {i3 : Int32} {i4 : Int32} {i5 : Int32} {M : zM} {r : Int32 × zM} : f_X7_valueOfSets n a0 a1 i2 i3 i4 i5 M = some r → CP L l yX7_valueOfSets cX7_valueOfSets 9 (some FieldType.int) (n + 4) M [.ref (zad L (a0)), .ref (zad L (a1)), .int (i2), .int (i3), .int (i4), .int (i5)] (some (.int r.1)) r.2 := by
  induction n generalizing l a0 a1 i2 i3 i4 i5 M r with
  | zero =>
    intro h
    rw [f_X7_valueOfSets] at h
    cases h
  | succ n ih =>
    intro h
    rw [f_X7_valueOfSets] at h
    exact CP.of ⟨by decide +kernel, by decide +kernel⟩ (Nat.le_of_ble_eq_true rfl) fun X Q hq => s_X7_valueOfSets_0 (d_X7_valueOfSets := n + 4) (fun l a0 a1 i2 i3 i4 i5 M r e => ih e) ⟨by omega, by omega⟩ hq h
theorem c_X7_valueOfSets {L : zL} {l : Launch} {a0 : Nat} {a1 : Nat} {i2 : Int32} {i3 : Int32} {i4 : Int32} {i5 : Int32} {M : zM} {r : Int32 × zM} (h : f_X7_valueOfSets zR a0 a1 i2 i3 i4 i5 M = some r) : CP L l yX7_valueOfSets cX7_valueOfSets 9 (some FieldType.int) 68 M [.ref (zad L (a0)), .ref (zad L (a1)), .int (i2), .int (i3), .int (i4), .int (i5)] (some (.int r.1)) r.2 := by
  have q := cr_X7_valueOfSets (L := L) (l := l) (n := zR) h
  have e : zR + 4 = 68 := by decide
  rw [e] at q
  exact q
