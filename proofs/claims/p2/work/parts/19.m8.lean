/-! ===== METHODS, by program ===== -/
/-! WindsparlourModel.valueOfTiles(LWindsparlourModel$Player;Z)I -/
theorem dX7_valueOfTiles_0 : decode cX7_valueOfTiles 0 = .ok (.bipush 25, 2) := by decide +kernel
theorem dX7_valueOfTiles_2 : decode cX7_valueOfTiles 2 = .ok (.newarray .int, 2) := by decide +kernel
theorem dX7_valueOfTiles_4 : decode cX7_valueOfTiles 4 = .ok (.astore_n 3, 1) := by decide +kernel
theorem dX7_valueOfTiles_5 : decode cX7_valueOfTiles 5 = .ok (.iconst 1, 1) := by decide +kernel
theorem dX7_valueOfTiles_6 : decode cX7_valueOfTiles 6 = .ok (.istore 4, 2) := by decide +kernel
theorem dX7_valueOfTiles_8 : decode cX7_valueOfTiles 8 = .ok (.iconst 0, 1) := by decide +kernel
theorem dX7_valueOfTiles_9 : decode cX7_valueOfTiles 9 = .ok (.istore 5, 2) := by decide +kernel
theorem dX7_valueOfTiles_11 : decode cX7_valueOfTiles 11 = .ok (.iconst 0, 1) := by decide +kernel
theorem dX7_valueOfTiles_12 : decode cX7_valueOfTiles 12 = .ok (.istore 6, 2) := by decide +kernel
theorem dX7_valueOfTiles_14 : decode cX7_valueOfTiles 14 = .ok (.iload 6, 2) := by decide +kernel
theorem dX7_valueOfTiles_16 : decode cX7_valueOfTiles 16 = .ok (.bipush 25, 2) := by decide +kernel
theorem dX7_valueOfTiles_18 : decode cX7_valueOfTiles 18 = .ok (.if_icmp .ge 113, 3) := by decide +kernel
theorem dX7_valueOfTiles_21 : decode cX7_valueOfTiles 21 = .ok (.aload_n 3, 1) := by decide +kernel
theorem dX7_valueOfTiles_22 : decode cX7_valueOfTiles 22 = .ok (.iload 6, 2) := by decide +kernel
theorem dX7_valueOfTiles_24 : decode cX7_valueOfTiles 24 = .ok (.aload_n 1, 1) := by decide +kernel
theorem dX7_valueOfTiles_25 : decode cX7_valueOfTiles 25 = .ok (.getfield 94, 3) := by decide +kernel
theorem dX7_valueOfTiles_28 : decode cX7_valueOfTiles 28 = .ok (.iload 6, 2) := by decide +kernel
theorem dX7_valueOfTiles_30 : decode cX7_valueOfTiles 30 = .ok (.iaload, 1) := by decide +kernel
theorem dX7_valueOfTiles_31 : decode cX7_valueOfTiles 31 = .ok (.iastore, 1) := by decide +kernel
theorem dX7_valueOfTiles_32 : decode cX7_valueOfTiles 32 = .ok (.aload_n 1, 1) := by decide +kernel
theorem dX7_valueOfTiles_33 : decode cX7_valueOfTiles 33 = .ok (.getfield 183, 3) := by decide +kernel
theorem dX7_valueOfTiles_36 : decode cX7_valueOfTiles 36 = .ok (.invokevirtual 197, 3) := by decide +kernel
theorem dX7_valueOfTiles_39 : decode cX7_valueOfTiles 39 = .ok (.astore 7, 2) := by decide +kernel
theorem dX7_valueOfTiles_41 : decode cX7_valueOfTiles 41 = .ok (.aload 7, 2) := by decide +kernel
theorem dX7_valueOfTiles_43 : decode cX7_valueOfTiles 43 = .ok (.invokeinterface 201 1, 5) := by decide +kernel
theorem dX7_valueOfTiles_48 : decode cX7_valueOfTiles 48 = .ok (.ifCond .eq 32, 3) := by decide +kernel
theorem dX7_valueOfTiles_51 : decode cX7_valueOfTiles 51 = .ok (.aload 7, 2) := by decide +kernel
theorem dX7_valueOfTiles_53 : decode cX7_valueOfTiles 53 = .ok (.invokeinterface 206 1, 5) := by decide +kernel
theorem dX7_valueOfTiles_58 : decode cX7_valueOfTiles 58 = .ok (.checkcast 186, 3) := by decide +kernel
theorem dX7_valueOfTiles_61 : decode cX7_valueOfTiles 61 = .ok (.astore 8, 2) := by decide +kernel
theorem dX7_valueOfTiles_63 : decode cX7_valueOfTiles 63 = .ok (.aload_n 3, 1) := by decide +kernel
theorem dX7_valueOfTiles_64 : decode cX7_valueOfTiles 64 = .ok (.iload 6, 2) := by decide +kernel
theorem dX7_valueOfTiles_66 : decode cX7_valueOfTiles 66 = .ok (.dup2, 1) := by decide +kernel
theorem dX7_valueOfTiles_67 : decode cX7_valueOfTiles 67 = .ok (.iaload, 1) := by decide +kernel
theorem dX7_valueOfTiles_68 : decode cX7_valueOfTiles 68 = .ok (.aload 8, 2) := by decide +kernel
theorem dX7_valueOfTiles_70 : decode cX7_valueOfTiles 70 = .ok (.iload 6, 2) := by decide +kernel
theorem dX7_valueOfTiles_72 : decode cX7_valueOfTiles 72 = .ok (.invokevirtual 210, 3) := by decide +kernel
theorem dX7_valueOfTiles_75 : decode cX7_valueOfTiles 75 = .ok (.iadd, 1) := by decide +kernel
theorem dX7_valueOfTiles_76 : decode cX7_valueOfTiles 76 = .ok (.iastore, 1) := by decide +kernel
theorem dX7_valueOfTiles_77 : decode cX7_valueOfTiles 77 = .ok (.goto (-36), 3) := by decide +kernel
theorem dX7_valueOfTiles_80 : decode cX7_valueOfTiles 80 = .ok (.aload_n 3, 1) := by decide +kernel
theorem dX7_valueOfTiles_81 : decode cX7_valueOfTiles 81 = .ok (.iload 6, 2) := by decide +kernel
theorem dX7_valueOfTiles_83 : decode cX7_valueOfTiles 83 = .ok (.iaload, 1) := by decide +kernel
theorem dX7_valueOfTiles_84 : decode cX7_valueOfTiles 84 = .ok (.ifCond .ne 6, 3) := by decide +kernel
theorem dX7_valueOfTiles_87 : decode cX7_valueOfTiles 87 = .ok (.goto 38, 3) := by decide +kernel
theorem dX7_valueOfTiles_90 : decode cX7_valueOfTiles 90 = .ok (.iload 4, 2) := by decide +kernel
theorem dX7_valueOfTiles_92 : decode cX7_valueOfTiles 92 = .ok (.iload 6, 2) := by decide +kernel
theorem dX7_valueOfTiles_94 : decode cX7_valueOfTiles 94 = .ok (.invokestatic 213, 3) := by decide +kernel
theorem dX7_valueOfTiles_97 : decode cX7_valueOfTiles 97 = .ok (.ifCond .ne 7, 3) := by decide +kernel
theorem dX7_valueOfTiles_100 : decode cX7_valueOfTiles 100 = .ok (.iconst 1, 1) := by decide +kernel
theorem dX7_valueOfTiles_101 : decode cX7_valueOfTiles 101 = .ok (.goto 4, 3) := by decide +kernel
theorem dX7_valueOfTiles_104 : decode cX7_valueOfTiles 104 = .ok (.iconst 0, 1) := by decide +kernel
theorem dX7_valueOfTiles_105 : decode cX7_valueOfTiles 105 = .ok (.iand, 1) := by decide +kernel
theorem dX7_valueOfTiles_106 : decode cX7_valueOfTiles 106 = .ok (.istore 4, 2) := by decide +kernel
theorem dX7_valueOfTiles_108 : decode cX7_valueOfTiles 108 = .ok (.iload 5, 2) := by decide +kernel
theorem dX7_valueOfTiles_110 : decode cX7_valueOfTiles 110 = .ok (.iload 6, 2) := by decide +kernel
theorem dX7_valueOfTiles_112 : decode cX7_valueOfTiles 112 = .ok (.bipush 18, 2) := by decide +kernel
theorem dX7_valueOfTiles_114 : decode cX7_valueOfTiles 114 = .ok (.if_icmp .lt 7, 3) := by decide +kernel
theorem dX7_valueOfTiles_117 : decode cX7_valueOfTiles 117 = .ok (.iconst 1, 1) := by decide +kernel
theorem dX7_valueOfTiles_118 : decode cX7_valueOfTiles 118 = .ok (.goto 4, 3) := by decide +kernel
theorem dX7_valueOfTiles_121 : decode cX7_valueOfTiles 121 = .ok (.iconst 0, 1) := by decide +kernel
theorem dX7_valueOfTiles_122 : decode cX7_valueOfTiles 122 = .ok (.ior, 1) := by decide +kernel
theorem dX7_valueOfTiles_123 : decode cX7_valueOfTiles 123 = .ok (.istore 5, 2) := by decide +kernel
theorem dX7_valueOfTiles_125 : decode cX7_valueOfTiles 125 = .ok (.iinc 6 1, 3) := by decide +kernel
theorem dX7_valueOfTiles_128 : decode cX7_valueOfTiles 128 = .ok (.goto (-114), 3) := by decide +kernel
theorem dX7_valueOfTiles_131 : decode cX7_valueOfTiles 131 = .ok (.iconst 1, 1) := by decide +kernel
theorem dX7_valueOfTiles_132 : decode cX7_valueOfTiles 132 = .ok (.aload_n 1, 1) := by decide +kernel
theorem dX7_valueOfTiles_133 : decode cX7_valueOfTiles 133 = .ok (.getfield 151, 3) := by decide +kernel
theorem dX7_valueOfTiles_136 : decode cX7_valueOfTiles 136 = .ok (.ifCond .eq 7, 3) := by decide +kernel
theorem dX7_valueOfTiles_139 : decode cX7_valueOfTiles 139 = .ok (.iconst 1, 1) := by decide +kernel
theorem dX7_valueOfTiles_140 : decode cX7_valueOfTiles 140 = .ok (.goto 4, 3) := by decide +kernel
theorem dX7_valueOfTiles_143 : decode cX7_valueOfTiles 143 = .ok (.iconst 0, 1) := by decide +kernel
theorem dX7_valueOfTiles_144 : decode cX7_valueOfTiles 144 = .ok (.iadd, 1) := by decide +kernel
theorem dX7_valueOfTiles_145 : decode cX7_valueOfTiles 145 = .ok (.iload_n 2, 1) := by decide +kernel
theorem dX7_valueOfTiles_146 : decode cX7_valueOfTiles 146 = .ok (.ifCond .eq 14, 3) := by decide +kernel
theorem dX7_valueOfTiles_149 : decode cX7_valueOfTiles 149 = .ok (.aload_n 1, 1) := by decide +kernel
theorem dX7_valueOfTiles_150 : decode cX7_valueOfTiles 150 = .ok (.invokevirtual 158, 3) := by decide +kernel
theorem dX7_valueOfTiles_153 : decode cX7_valueOfTiles 153 = .ok (.ifCond .ne 7, 3) := by decide +kernel
theorem dX7_valueOfTiles_156 : decode cX7_valueOfTiles 156 = .ok (.iconst 1, 1) := by decide +kernel
theorem dX7_valueOfTiles_157 : decode cX7_valueOfTiles 157 = .ok (.goto 4, 3) := by decide +kernel
theorem dX7_valueOfTiles_160 : decode cX7_valueOfTiles 160 = .ok (.iconst 0, 1) := by decide +kernel
theorem dX7_valueOfTiles_161 : decode cX7_valueOfTiles 161 = .ok (.iadd, 1) := by decide +kernel
theorem dX7_valueOfTiles_162 : decode cX7_valueOfTiles 162 = .ok (.aload_n 3, 1) := by decide +kernel
theorem dX7_valueOfTiles_163 : decode cX7_valueOfTiles 163 = .ok (.aload_n 0, 1) := by decide +kernel
theorem dX7_valueOfTiles_164 : decode cX7_valueOfTiles 164 = .ok (.getfield 46, 3) := by decide +kernel
theorem dX7_valueOfTiles_167 : decode cX7_valueOfTiles 167 = .ok (.iaload, 1) := by decide +kernel
theorem dX7_valueOfTiles_168 : decode cX7_valueOfTiles 168 = .ok (.iadd, 1) := by decide +kernel
theorem dX7_valueOfTiles_169 : decode cX7_valueOfTiles 169 = .ok (.iload 4, 2) := by decide +kernel
theorem dX7_valueOfTiles_171 : decode cX7_valueOfTiles 171 = .ok (.ifCond .eq 7, 3) := by decide +kernel
theorem dX7_valueOfTiles_174 : decode cX7_valueOfTiles 174 = .ok (.iconst 1, 1) := by decide +kernel
theorem dX7_valueOfTiles_175 : decode cX7_valueOfTiles 175 = .ok (.goto 4, 3) := by decide +kernel
theorem dX7_valueOfTiles_178 : decode cX7_valueOfTiles 178 = .ok (.iconst 0, 1) := by decide +kernel
theorem dX7_valueOfTiles_179 : decode cX7_valueOfTiles 179 = .ok (.iadd, 1) := by decide +kernel
theorem dX7_valueOfTiles_180 : decode cX7_valueOfTiles 180 = .ok (.istore 6, 2) := by decide +kernel
theorem dX7_valueOfTiles_182 : decode cX7_valueOfTiles 182 = .ok (.bipush 25, 2) := by decide +kernel
theorem dX7_valueOfTiles_184 : decode cX7_valueOfTiles 184 = .ok (.newarray .int, 2) := by decide +kernel
theorem dX7_valueOfTiles_186 : decode cX7_valueOfTiles 186 = .ok (.astore 7, 2) := by decide +kernel
theorem dX7_valueOfTiles_188 : decode cX7_valueOfTiles 188 = .ok (.aload_n 3, 1) := by decide +kernel
theorem dX7_valueOfTiles_189 : decode cX7_valueOfTiles 189 = .ok (.iconst 0, 1) := by decide +kernel
theorem dX7_valueOfTiles_190 : decode cX7_valueOfTiles 190 = .ok (.aload 7, 2) := by decide +kernel
theorem dX7_valueOfTiles_192 : decode cX7_valueOfTiles 192 = .ok (.iconst 0, 1) := by decide +kernel
theorem dX7_valueOfTiles_193 : decode cX7_valueOfTiles 193 = .ok (.bipush 18, 2) := by decide +kernel
theorem dX7_valueOfTiles_195 : decode cX7_valueOfTiles 195 = .ok (.invokestatic 216, 3) := by decide +kernel
theorem dX7_valueOfTiles_198 : decode cX7_valueOfTiles 198 = .ok (.aload 7, 2) := by decide +kernel
theorem dX7_valueOfTiles_200 : decode cX7_valueOfTiles 200 = .ok (.bipush 18, 2) := by decide +kernel
theorem dX7_valueOfTiles_202 : decode cX7_valueOfTiles 202 = .ok (.bipush 24, 2) := by decide +kernel
theorem dX7_valueOfTiles_204 : decode cX7_valueOfTiles 204 = .ok (.invokestatic 222, 3) := by decide +kernel
theorem dX7_valueOfTiles_207 : decode cX7_valueOfTiles 207 = .ok (.ifCond .ne 7, 3) := by decide +kernel
theorem dX7_valueOfTiles_210 : decode cX7_valueOfTiles 210 = .ok (.iconst 1, 1) := by decide +kernel
theorem dX7_valueOfTiles_211 : decode cX7_valueOfTiles 211 = .ok (.goto 4, 3) := by decide +kernel
theorem dX7_valueOfTiles_214 : decode cX7_valueOfTiles 214 = .ok (.iconst 0, 1) := by decide +kernel
theorem dX7_valueOfTiles_215 : decode cX7_valueOfTiles 215 = .ok (.istore 8, 2) := by decide +kernel
theorem dX7_valueOfTiles_217 : decode cX7_valueOfTiles 217 = .ok (.iload 8, 2) := by decide +kernel
theorem dX7_valueOfTiles_219 : decode cX7_valueOfTiles 219 = .ok (.ifCond .eq 30, 3) := by decide +kernel
theorem dX7_valueOfTiles_222 : decode cX7_valueOfTiles 222 = .ok (.aload 7, 2) := by decide +kernel
theorem dX7_valueOfTiles_224 : decode cX7_valueOfTiles 224 = .ok (.iconst 0, 1) := by decide +kernel
theorem dX7_valueOfTiles_225 : decode cX7_valueOfTiles 225 = .ok (.bipush 8, 2) := by decide +kernel
theorem dX7_valueOfTiles_227 : decode cX7_valueOfTiles 227 = .ok (.invokestatic 222, 3) := by decide +kernel
theorem dX7_valueOfTiles_230 : decode cX7_valueOfTiles 230 = .ok (.ifCond .ne 15, 3) := by decide +kernel
theorem dX7_valueOfTiles_233 : decode cX7_valueOfTiles 233 = .ok (.aload 7, 2) := by decide +kernel
theorem dX7_valueOfTiles_235 : decode cX7_valueOfTiles 235 = .ok (.bipush 9, 2) := by decide +kernel
theorem dX7_valueOfTiles_237 : decode cX7_valueOfTiles 237 = .ok (.bipush 17, 2) := by decide +kernel
theorem dX7_valueOfTiles_239 : decode cX7_valueOfTiles 239 = .ok (.invokestatic 222, 3) := by decide +kernel
theorem dX7_valueOfTiles_242 : decode cX7_valueOfTiles 242 = .ok (.ifCond .eq 7, 3) := by decide +kernel
theorem dX7_valueOfTiles_245 : decode cX7_valueOfTiles 245 = .ok (.iconst 1, 1) := by decide +kernel
theorem dX7_valueOfTiles_246 : decode cX7_valueOfTiles 246 = .ok (.goto 4, 3) := by decide +kernel
theorem dX7_valueOfTiles_249 : decode cX7_valueOfTiles 249 = .ok (.iconst 0, 1) := by decide +kernel
theorem dX7_valueOfTiles_250 : decode cX7_valueOfTiles 250 = .ok (.istore 9, 2) := by decide +kernel
theorem dX7_valueOfTiles_252 : decode cX7_valueOfTiles 252 = .ok (.iload 6, 2) := by decide +kernel
theorem dX7_valueOfTiles_254 : decode cX7_valueOfTiles 254 = .ok (.iload 9, 2) := by decide +kernel
theorem dX7_valueOfTiles_256 : decode cX7_valueOfTiles 256 = .ok (.ifCond .ne 7, 3) := by decide +kernel
theorem dX7_valueOfTiles_259 : decode cX7_valueOfTiles 259 = .ok (.iconst 0, 1) := by decide +kernel
theorem dX7_valueOfTiles_260 : decode cX7_valueOfTiles 260 = .ok (.goto 13, 3) := by decide +kernel
theorem dX7_valueOfTiles_263 : decode cX7_valueOfTiles 263 = .ok (.iload 5, 2) := by decide +kernel
theorem dX7_valueOfTiles_265 : decode cX7_valueOfTiles 265 = .ok (.ifCond .eq 7, 3) := by decide +kernel
theorem dX7_valueOfTiles_268 : decode cX7_valueOfTiles 268 = .ok (.iconst 2, 1) := by decide +kernel
theorem dX7_valueOfTiles_269 : decode cX7_valueOfTiles 269 = .ok (.goto 4, 3) := by decide +kernel
theorem dX7_valueOfTiles_272 : decode cX7_valueOfTiles 272 = .ok (.iconst 4, 1) := by decide +kernel
theorem dX7_valueOfTiles_273 : decode cX7_valueOfTiles 273 = .ok (.iadd, 1) := by decide +kernel
theorem dX7_valueOfTiles_274 : decode cX7_valueOfTiles 274 = .ok (.ireturn, 1) := by decide +kernel
def f_X7_valueOfTiles_179 (a3 : Nat) (i5 : Int32) (i_0 : Int32) (i_1 : Int32) (M : zM) : Option (Int32 × zM) :=
  (aA 0 M ((25 : Int32))).bind fun r1 =>
  none
set_option maxRecDepth 20000 in
set_option maxHeartbeats 4000000 in
theorem s_X7_valueOfTiles_179 {L : zL} {X : zX} {M0 : zM} {N : Nat × Nat} {Q : State → Prop} {r : Int32 × zM} (hq : vQ L X M0 N Q (some (.int r.1)) r.2) {a3 : Nat} {i5 : Int32} {i_0 : Int32} {i_1 : Int32} {M : zM} (h : f_X7_valueOfTiles_179 a3 i5 i_0 i_1 M = some r) : V L X yX7_valueOfTiles cX7_valueOfTiles 10 (some FieldType.int) 3 M0 N Q M 179 [(3, .ref (zad L (a3))), (5, .int (i5))] [.int (i_0), .int (i_1)] := by
  unfold f_X7_valueOfTiles_179 at h
  refine V_iadd dX7_valueOfTiles_179 ?_
  refine V_istore (ls' := [(6, .int ((i_1 + i_0))), (3, .ref (zad L (a3))), (5, .int (i5))]) dX7_valueOfTiles_180 (by decide) rfl ?_
  refine V_bipush (v := 25) dX7_valueOfTiles_182 (by decide) ?_
  replace h := ob h
  obtain ⟨r1, e_r1, h⟩ := h
  refine V_newa (t := 0) (by decide) rfl zna_0 e_r1 dX7_valueOfTiles_184 ?_
  refine V_pc (pc' := 186) rfl ?_
  refine V_astore (ls' := [(7, .ref (zad L (r1.1))), (6, .int ((i_1 + i_0))), (3, .ref (zad L (a3))), (5, .int (i5))]) dX7_valueOfTiles_186 (by decide) rfl ?_
  refine V_aload_n dX7_valueOfTiles_188 rfl 2 rfl ?_
  refine V_iconst (v := 0) dX7_valueOfTiles_189 (by decide) ?_
  refine V_aload dX7_valueOfTiles_190 0 rfl ?_
  refine V_iconst (v := 0) dX7_valueOfTiles_192 (by decide) ?_
  refine V_bipush (v := 18) dX7_valueOfTiles_193 (by decide) ?_
  cases h
def f_X7_valueOfTiles_161 (a0 : Nat) (a3 : Nat) (i4 : Int32) (i5 : Int32) (i_0 : Int32) (i_1 : Int32) (M : zM) : Option (Int32 × zM) :=
  (gI 13 5 M a0).bind fun v1 =>
  (lA 0 M a3 v1).bind fun v2 =>
  if i4 = 0 then
  f_X7_valueOfTiles_179 a3 i5 ((0 : Int32)) ((((i_1 + i_0)) + v2)) M
  else
  f_X7_valueOfTiles_179 a3 i5 ((1 : Int32)) ((((i_1 + i_0)) + v2)) M
set_option maxRecDepth 20000 in
set_option maxHeartbeats 4000000 in
theorem s_X7_valueOfTiles_161 {L : zL} {X : zX} {M0 : zM} {N : Nat × Nat} {Q : State → Prop} {r : Int32 × zM} (hq : vQ L X M0 N Q (some (.int r.1)) r.2) {a0 : Nat} {a3 : Nat} {i4 : Int32} {i5 : Int32} {i_0 : Int32} {i_1 : Int32} {M : zM} (h : f_X7_valueOfTiles_161 a0 a3 i4 i5 i_0 i_1 M = some r) : V L X yX7_valueOfTiles cX7_valueOfTiles 10 (some FieldType.int) 3 M0 N Q M 161 [(0, .ref (zad L (a0))), (3, .ref (zad L (a3))), (4, .int (i4)), (5, .int (i5))] [.int (i_0), .int (i_1)] := by
  unfold f_X7_valueOfTiles_161 at h
  refine V_iadd dX7_valueOfTiles_161 ?_
  refine V_aload_n dX7_valueOfTiles_162 rfl 1 rfl ?_
  refine V_aload_n dX7_valueOfTiles_163 rfl 0 rfl ?_
  replace h := ob h
  obtain ⟨v1, e_v1, h⟩ := h
  refine V_getI zf_13_5 zl_X7_46 e_v1 dX7_valueOfTiles_164 ?_
  refine V_pc (pc' := 167) rfl ?_
  replace h := ob h
  obtain ⟨v2, e_v2, h⟩ := h
  refine V_iald e_v2 dX7_valueOfTiles_167 ?_
  refine V_pc (pc' := 168) rfl ?_
  refine V_iadd dX7_valueOfTiles_168 ?_
  refine V_iload dX7_valueOfTiles_169 2 rfl ?_
  refine V_if_eq (tgt := 178) dX7_valueOfTiles_171 (by decide) (fun c3 => ?_) (fun c3 => ?_)
  · replace h := (oi h).1 c3
    refine V_iconst (v := 0) dX7_valueOfTiles_178 (by decide) ?_
    refine V_sub [1, 3] rfl ?_
    exact s_X7_valueOfTiles_179 hq h
  · replace h := (oi h).2 c3
    refine V_iconst (v := 1) dX7_valueOfTiles_174 (by decide) ?_
    refine V_goto (tgt := 179) dX7_valueOfTiles_175 (by decide) ?_
    refine V_sub [1, 3] rfl ?_
    exact s_X7_valueOfTiles_179 hq h
def f_X7_valueOfTiles_160 (a0 : Nat) (a3 : Nat) (i4 : Int32) (i5 : Int32) (i_0 : Int32) (M : zM) : Option (Int32 × zM) :=
  f_X7_valueOfTiles_161 a0 a3 i4 i5 ((0 : Int32)) i_0 M
set_option maxRecDepth 20000 in
set_option maxHeartbeats 4000000 in
theorem s_X7_valueOfTiles_160 {L : zL} {X : zX} {M0 : zM} {N : Nat × Nat} {Q : State → Prop} {r : Int32 × zM} (hq : vQ L X M0 N Q (some (.int r.1)) r.2) {a0 : Nat} {a3 : Nat} {i4 : Int32} {i5 : Int32} {i_0 : Int32} {M : zM} (h : f_X7_valueOfTiles_160 a0 a3 i4 i5 i_0 M = some r) : V L X yX7_valueOfTiles cX7_valueOfTiles 10 (some FieldType.int) 3 M0 N Q M 160 [(0, .ref (zad L (a0))), (3, .ref (zad L (a3))), (4, .int (i4)), (5, .int (i5))] [.int (i_0)] := by
  unfold f_X7_valueOfTiles_160 at h
  refine V_iconst (v := 0) dX7_valueOfTiles_160 (by decide) ?_
  exact s_X7_valueOfTiles_161 hq h
def f_X7_valueOfTiles_144 (a0 : Nat) (a1 : Nat) (i2 : Int32) (a3 : Nat) (i4 : Int32) (i5 : Int32) (i_0 : Int32) (i_1 : Int32) (M : zM) : Option (Int32 × zM) :=
  if i2 = 0 then
  f_X7_valueOfTiles_160 a0 a3 i4 i5 ((i_1 + i_0)) M
  else
  if mK M a1 = 12 then
  (f_X6_open a1 M).bind fun r1 =>
  if r1.1 = 0 then
  f_X7_valueOfTiles_161 a0 a3 i4 i5 ((1 : Int32)) ((i_1 + i_0)) r1.2
  else
  f_X7_valueOfTiles_160 a0 a3 i4 i5 ((i_1 + i_0)) r1.2
  else none
set_option maxRecDepth 20000 in
set_option maxHeartbeats 4000000 in
theorem s_X7_valueOfTiles_144 {L : zL} {X : zX} {M0 : zM} {N : Nat × Nat} {Q : State → Prop} {r : Int32 × zM} (hq : vQ L X M0 N Q (some (.int r.1)) r.2) {a0 : Nat} {a1 : Nat} {i2 : Int32} {a3 : Nat} {i4 : Int32} {i5 : Int32} {i_0 : Int32} {i_1 : Int32} {M : zM} (h : f_X7_valueOfTiles_144 a0 a1 i2 a3 i4 i5 i_0 i_1 M = some r) : V L X yX7_valueOfTiles cX7_valueOfTiles 10 (some FieldType.int) 3 M0 N Q M 144 [(0, .ref (zad L (a0))), (1, .ref (zad L (a1))), (2, .int (i2)), (3, .ref (zad L (a3))), (4, .int (i4)), (5, .int (i5))] [.int (i_0), .int (i_1)] := by
  unfold f_X7_valueOfTiles_144 at h
  refine V_iadd dX7_valueOfTiles_144 ?_
  refine V_iload_n dX7_valueOfTiles_145 rfl 2 rfl ?_
  refine V_if_eq (tgt := 160) dX7_valueOfTiles_146 (by decide) (fun c4 => ?_) (fun c4 => ?_)
  · replace h := (oi h).1 c4
    refine V_sub [0, 3, 4, 5] rfl ?_
    exact s_X7_valueOfTiles_160 hq h
  · replace h := (oi h).2 c4
    refine V_aload_n dX7_valueOfTiles_149 rfl 1 rfl ?_
    replace h := ox h
    obtain ⟨c2, h⟩ := h
    replace h := ob h
    obtain ⟨r1, e_r1, h⟩ := h
    refine V_callV_I (As := []) (rest := [.int ((i_1 + i_0))]) (c_X6_open e_r1) zc_X6_open rfl (by decide) rfl (by decide) (Or.inl c2) zm_X7_158 (Nat.le_of_ble_eq_true rfl) rfl dX7_valueOfTiles_150 ?_
    refine V_pc (pc' := 153) rfl ?_
    refine V_if_ne (tgt := 160) dX7_valueOfTiles_153 (by decide) (fun c3 => ?_) (fun c3 => ?_)
    · replace h := (oi h).2 c3
      refine V_sub [0, 3, 4, 5] rfl ?_
      exact s_X7_valueOfTiles_160 hq h
    · replace h := (oi h).1 c3
      refine V_iconst (v := 1) dX7_valueOfTiles_156 (by decide) ?_
      refine V_goto (tgt := 161) dX7_valueOfTiles_157 (by decide) ?_
      refine V_sub [0, 3, 4, 5] rfl ?_
      exact s_X7_valueOfTiles_161 hq h
def f_X7_valueOfTiles_14 (n : Nat) (a0 : Nat) (a1 : Nat) (i2 : Int32) (a3 : Nat) (i4 : Int32) (i5 : Int32) (i6 : Int32) (M : zM) : Option (Int32 × zM) := match n with
  | 0 => none
  | n + 1 =>
    if ((25 : Int32)) ≤ i6 then
    (gI 12 6 M a1).bind fun v1 =>
    if v1 = 0 then
    f_X7_valueOfTiles_144 a0 a1 i2 a3 i4 i5 ((0 : Int32)) ((1 : Int32)) M
    else
    f_X7_valueOfTiles_144 a0 a1 i2 a3 i4 i5 ((1 : Int32)) ((1 : Int32)) M
    else
    (gR 12 2 M a1).bind fun v3 =>
    (lA 0 M v3 i6).bind fun v4 =>
    (tA M a3 i6 v4).bind fun M5 =>
    (gR 12 3 M5 a1).bind fun v6 =>
    none
set_option maxRecDepth 20000 in
set_option maxHeartbeats 4000000 in
theorem s_X7_valueOfTiles_14 {L : zL} {X : zX} {M0 : zM} {N : Nat × Nat} {Q : State → Prop} {r : Int32 × zM} (hq : vQ L X M0 N Q (some (.int r.1)) r.2) {n : Nat} {a0 : Nat} {a1 : Nat} {i2 : Int32} {a3 : Nat} {i4 : Int32} {i5 : Int32} {i6 : Int32} {M : zM} : f_X7_valueOfTiles_14 n a0 a1 i2 a3 i4 i5 i6 M = some r → V L X yX7_valueOfTiles cX7_valueOfTiles 10 (some FieldType.int) 3 M0 N Q M 14 [(0, .ref (zad L (a0))), (1, .ref (zad L (a1))), (2, .int (i2)), (3, .ref (zad L (a3))), (4, .int (i4)), (5, .int (i5)), (6, .int (i6))] [] := by
  induction n generalizing a0 a1 i2 a3 i4 i5 i6 M with
  | zero =>
    intro h
    rw [f_X7_valueOfTiles_14] at h
    cases h
  | succ n ih0 =>
    intro h
    have ih : ∀ (a0 : Nat) (a1 : Nat) (i2 : Int32) (a3 : Nat) (i4 : Int32) (i5 : Int32) (i6 : Int32) (M : zM), f_X7_valueOfTiles_14 n a0 a1 i2 a3 i4 i5 i6 M = some r → V L X yX7_valueOfTiles cX7_valueOfTiles 10 (some FieldType.int) 3 M0 N Q M 14 [(0, .ref (zad L (a0))), (1, .ref (zad L (a1))), (2, .int (i2)), (3, .ref (zad L (a3))), (4, .int (i4)), (5, .int (i5)), (6, .int (i6))] [] := fun a0 a1 i2 a3 i4 i5 i6 M h => ih0 h
    rw [f_X7_valueOfTiles_14] at h
    refine V_iload dX7_valueOfTiles_14 6 rfl ?_
    refine V_bipush (v := 25) dX7_valueOfTiles_16 (by decide) ?_
    refine V_icmp_ge (tgt := 131) dX7_valueOfTiles_18 (by decide) (fun c7 => ?_) (fun c7 => ?_)
    · replace h := (oi h).1 c7
      refine V_iconst (v := 1) dX7_valueOfTiles_131 (by decide) ?_
      refine V_aload_n dX7_valueOfTiles_132 rfl 1 rfl ?_
      replace h := ob h
      obtain ⟨v1, e_v1, h⟩ := h
      refine V_getI zf_12_6 zl_X7_151 e_v1 dX7_valueOfTiles_133 ?_
      refine V_pc (pc' := 136) rfl ?_
      refine V_if_eq (tgt := 143) dX7_valueOfTiles_136 (by decide) (fun c2 => ?_) (fun c2 => ?_)
      · replace h := (oi h).1 c2
        refine V_iconst (v := 0) dX7_valueOfTiles_143 (by decide) ?_
        refine V_sub [0, 1, 2, 3, 4, 5] rfl ?_
        exact s_X7_valueOfTiles_144 hq h
      · replace h := (oi h).2 c2
        refine V_iconst (v := 1) dX7_valueOfTiles_139 (by decide) ?_
        refine V_goto (tgt := 144) dX7_valueOfTiles_140 (by decide) ?_
        refine V_sub [0, 1, 2, 3, 4, 5] rfl ?_
        exact s_X7_valueOfTiles_144 hq h
    · replace h := (oi h).2 c7
      refine V_aload_n dX7_valueOfTiles_21 rfl 3 rfl ?_
      refine V_iload dX7_valueOfTiles_22 6 rfl ?_
      refine V_aload_n dX7_valueOfTiles_24 rfl 1 rfl ?_
      replace h := ob h
      obtain ⟨v3, e_v3, h⟩ := h
      refine V_getR zf_12_2 zl_X7_94 e_v3 dX7_valueOfTiles_25 ?_
      refine V_pc (pc' := 28) rfl ?_
      refine V_iload dX7_valueOfTiles_28 6 rfl ?_
      replace h := ob h
      obtain ⟨v4, e_v4, h⟩ := h
      refine V_iald e_v4 dX7_valueOfTiles_30 ?_
      refine V_pc (pc' := 31) rfl ?_
      replace h := ob h
      obtain ⟨M5, e_M5, h⟩ := h
      refine V_iast e_M5 dX7_valueOfTiles_31 ?_
      refine V_aload_n dX7_valueOfTiles_32 rfl 1 rfl ?_
      replace h := ob h
      obtain ⟨v6, e_v6, h⟩ := h
      refine V_getR zf_12_3 zl_X7_183 e_v6 dX7_valueOfTiles_33 ?_
      refine V_pc (pc' := 36) rfl ?_
      cases h
def f_X7_valueOfTiles_0 (a0 : Nat) (a1 : Nat) (i2 : Int32) (M : zM) : Option (Int32 × zM) :=
  (aA 0 M ((25 : Int32))).bind fun r1 =>
  f_X7_valueOfTiles_14 zN a0 a1 i2 r1.1 ((1 : Int32)) ((0 : Int32)) ((0 : Int32)) r1.2
set_option maxRecDepth 20000 in
set_option maxHeartbeats 4000000 in
theorem s_X7_valueOfTiles_0 {L : zL} {X : zX} {M0 : zM} {N : Nat × Nat} {Q : State → Prop} {r : Int32 × zM} (hq : vQ L X M0 N Q (some (.int r.1)) r.2) {a0 : Nat} {a1 : Nat} {i2 : Int32} {M : zM} (h : f_X7_valueOfTiles_0 a0 a1 i2 M = some r) : V L X yX7_valueOfTiles cX7_valueOfTiles 10 (some FieldType.int) 3 M0 N Q M 0 [(0, .ref (zad L (a0))), (1, .ref (zad L (a1))), (2, .int (i2))] [] := by
  unfold f_X7_valueOfTiles_0 at h
  refine V_bipush (v := 25) dX7_valueOfTiles_0 (by decide) ?_
  replace h := ob h
  obtain ⟨r1, e_r1, h⟩ := h
  refine V_newa (t := 0) (by decide) rfl zna_0 e_r1 dX7_valueOfTiles_2 ?_
  refine V_pc (pc' := 4) rfl ?_
  refine V_astore_n (ls' := [(3, .ref (zad L (r1.1))), (0, .ref (zad L (a0))), (1, .ref (zad L (a1))), (2, .int (i2))]) dX7_valueOfTiles_4 rfl (by decide) rfl ?_
  refine V_iconst (v := 1) dX7_valueOfTiles_5 (by decide) ?_
  refine V_istore (ls' := [(4, .int ((1 : Int32))), (3, .ref (zad L (r1.1))), (0, .ref (zad L (a0))), (1, .ref (zad L (a1))), (2, .int (i2))]) dX7_valueOfTiles_6 (by decide) rfl ?_
  refine V_iconst (v := 0) dX7_valueOfTiles_8 (by decide) ?_
  refine V_istore (ls' := [(5, .int ((0 : Int32))), (4, .int ((1 : Int32))), (3, .ref (zad L (r1.1))), (0, .ref (zad L (a0))), (1, .ref (zad L (a1))), (2, .int (i2))]) dX7_valueOfTiles_9 (by decide) rfl ?_
  refine V_iconst (v := 0) dX7_valueOfTiles_11 (by decide) ?_
  refine V_istore (ls' := [(6, .int ((0 : Int32))), (5, .int ((0 : Int32))), (4, .int ((1 : Int32))), (3, .ref (zad L (r1.1))), (0, .ref (zad L (a0))), (1, .ref (zad L (a1))), (2, .int (i2))]) dX7_valueOfTiles_12 (by decide) rfl ?_
  refine V_sub [4, 5, 6, 3, 2, 1, 0] rfl ?_
  exact s_X7_valueOfTiles_14 hq h
def f_X7_valueOfTiles (a0 : Nat) (a1 : Nat) (i2 : Int32) (M : zM) : Option (Int32 × zM) := f_X7_valueOfTiles_0 a0 a1 i2 M
theorem c_X7_valueOfTiles {L : zL} {l : Launch} {a0 : Nat} {a1 : Nat} {i2 : Int32} {M : zM} {r : Int32 × zM} (h : f_X7_valueOfTiles a0 a1 i2 M = some r) : CP L l yX7_valueOfTiles cX7_valueOfTiles 10 (some FieldType.int) 3 M [.ref (zad L (a0)), .ref (zad L (a1)), .int (i2)] (some (.int r.1)) r.2 :=
  CP.of ⟨by decide +kernel, by decide +kernel⟩ (Nat.le_of_ble_eq_true rfl) fun X Q hq => s_X7_valueOfTiles_0 hq h
/-! WindsparlourModel.valueOfThree(II)I -/
theorem dX7_valueOfThree_0 : decode cX7_valueOfThree 0 = .ok (.iload_n 1, 1) := by decide +kernel
theorem dX7_valueOfThree_1 : decode cX7_valueOfThree 1 = .ok (.bipush 22, 2) := by decide +kernel
theorem dX7_valueOfThree_3 : decode cX7_valueOfThree 3 = .ok (.if_icmp .ge 15, 3) := by decide +kernel
theorem dX7_valueOfThree_6 : decode cX7_valueOfThree 6 = .ok (.iload_n 1, 1) := by decide +kernel
theorem dX7_valueOfThree_7 : decode cX7_valueOfThree 7 = .ok (.bipush 18, 2) := by decide +kernel
theorem dX7_valueOfThree_9 : decode cX7_valueOfThree 9 = .ok (.aload_n 0, 1) := by decide +kernel
theorem dX7_valueOfThree_10 : decode cX7_valueOfThree 10 = .ok (.iload_n 2, 1) := by decide +kernel
theorem dX7_valueOfThree_11 : decode cX7_valueOfThree 11 = .ok (.invokevirtual 226, 3) := by decide +kernel
theorem dX7_valueOfThree_14 : decode cX7_valueOfThree 14 = .ok (.iadd, 1) := by decide +kernel
theorem dX7_valueOfThree_15 : decode cX7_valueOfThree 15 = .ok (.if_icmp .ne 7, 3) := by decide +kernel
theorem dX7_valueOfThree_18 : decode cX7_valueOfThree 18 = .ok (.iconst 1, 1) := by decide +kernel
theorem dX7_valueOfThree_19 : decode cX7_valueOfThree 19 = .ok (.goto 4, 3) := by decide +kernel
theorem dX7_valueOfThree_22 : decode cX7_valueOfThree 22 = .ok (.iconst 0, 1) := by decide +kernel
theorem dX7_valueOfThree_23 : decode cX7_valueOfThree 23 = .ok (.ireturn, 1) := by decide +kernel
def f_X7_valueOfThree_0 (a0 : Nat) (i1 : Int32) (i2 : Int32) (M : zM) : Option (Int32 × zM) :=
  if ((22 : Int32)) ≤ i1 then
  some ((1 : Int32), M)
  else
  if mK M a0 = 13 then
  (f_X7_wind a0 i2 M).bind fun r1 =>
  if i1 = ((((18 : Int32)) + r1.1)) then
  some ((1 : Int32), r1.2)
  else
  some ((0 : Int32), r1.2)
  else none
set_option maxRecDepth 20000 in
set_option maxHeartbeats 4000000 in
theorem s_X7_valueOfThree_0 {L : zL} {X : zX} {M0 : zM} {N : Nat × Nat} {Q : State → Prop} {r : Int32 × zM} (hq : vQ L X M0 N Q (some (.int r.1)) r.2) {a0 : Nat} {i1 : Int32} {i2 : Int32} {M : zM} (h : f_X7_valueOfThree_0 a0 i1 i2 M = some r) : V L X yX7_valueOfThree cX7_valueOfThree 3 (some FieldType.int) 3 M0 N Q M 0 [(0, .ref (zad L (a0))), (1, .int (i1)), (2, .int (i2))] [] := by
  unfold f_X7_valueOfThree_0 at h
  refine V_iload_n dX7_valueOfThree_0 rfl 1 rfl ?_
  refine V_bipush (v := 22) dX7_valueOfThree_1 (by decide) ?_
  refine V_icmp_ge (tgt := 18) dX7_valueOfThree_3 (by decide) (fun c4 => ?_) (fun c4 => ?_)
  · replace h := (oi h).1 c4
    refine V_iconst (v := 1) dX7_valueOfThree_18 (by decide) ?_
    refine V_goto (tgt := 23) dX7_valueOfThree_19 (by decide) ?_
    cases h
    exact V_iret rfl hq dX7_valueOfThree_23
  · replace h := (oi h).2 c4
    refine V_iload_n dX7_valueOfThree_6 rfl 1 rfl ?_
    refine V_bipush (v := 18) dX7_valueOfThree_7 (by decide) ?_
    refine V_aload_n dX7_valueOfThree_9 rfl 0 rfl ?_
    refine V_iload_n dX7_valueOfThree_10 rfl 2 rfl ?_
    replace h := ox h
    obtain ⟨c2, h⟩ := h
    replace h := ob h
    obtain ⟨r1, e_r1, h⟩ := h
    refine V_callV_I (As := [.int (i2)]) (rest := [.int ((18 : Int32)), .int (i1)]) (c_X7_wind e_r1) zc_X7_wind rfl (by decide) rfl (by decide) (Or.inl c2) zm_X7_226 (Nat.le_of_ble_eq_true rfl) rfl dX7_valueOfThree_11 ?_
    refine V_pc (pc' := 14) rfl ?_
    refine V_iadd dX7_valueOfThree_14 ?_
    refine V_icmp_ne (tgt := 22) dX7_valueOfThree_15 (by decide) (fun c3 => ?_) (fun c3 => ?_)
    · replace h := (oi h).2 c3
      refine V_iconst (v := 0) dX7_valueOfThree_22 (by decide) ?_
      cases h
      exact V_iret rfl hq dX7_valueOfThree_23
    · replace h := (oi h).1 c3
      refine V_iconst (v := 1) dX7_valueOfThree_18 (by decide) ?_
      refine V_goto (tgt := 23) dX7_valueOfThree_19 (by decide) ?_
      cases h
      exact V_iret rfl hq dX7_valueOfThree_23
def f_X7_valueOfThree (a0 : Nat) (i1 : Int32) (i2 : Int32) (M : zM) : Option (Int32 × zM) := f_X7_valueOfThree_0 a0 i1 i2 M
theorem c_X7_valueOfThree {L : zL} {l : Launch} {a0 : Nat} {i1 : Int32} {i2 : Int32} {M : zM} {r : Int32 × zM} (h : f_X7_valueOfThree a0 i1 i2 M = some r) : CP L l yX7_valueOfThree cX7_valueOfThree 3 (some FieldType.int) 3 M [.ref (zad L (a0)), .int (i1), .int (i2)] (some (.int r.1)) r.2 :=
  CP.of ⟨by decide +kernel, by decide +kernel⟩ (Nat.le_of_ble_eq_true rfl) fun X Q hq => s_X7_valueOfThree_0 hq h
/-! WindsparlourModel.valueOfSets([IIIII)I -/
theorem dX7_valueOfSets_0 : decode cX7_valueOfSets 0 = .ok (.iconst 0, 1) := by decide +kernel
theorem dX7_valueOfSets_1 : decode cX7_valueOfSets 1 = .ok (.istore 6, 2) := by decide +kernel
theorem dX7_valueOfSets_3 : decode cX7_valueOfSets 3 = .ok (.iload 6, 2) := by decide +kernel
theorem dX7_valueOfSets_5 : decode cX7_valueOfSets 5 = .ok (.bipush 25, 2) := by decide +kernel
theorem dX7_valueOfSets_7 : decode cX7_valueOfSets 7 = .ok (.if_icmp .ge 16, 3) := by decide +kernel
theorem dX7_valueOfSets_10 : decode cX7_valueOfSets 10 = .ok (.aload_n 1, 1) := by decide +kernel
theorem dX7_valueOfSets_11 : decode cX7_valueOfSets 11 = .ok (.iload 6, 2) := by decide +kernel
theorem dX7_valueOfSets_13 : decode cX7_valueOfSets 13 = .ok (.iaload, 1) := by decide +kernel
theorem dX7_valueOfSets_14 : decode cX7_valueOfSets 14 = .ok (.ifCond .ne 9, 3) := by decide +kernel
theorem dX7_valueOfSets_17 : decode cX7_valueOfSets 17 = .ok (.iinc 6 1, 3) := by decide +kernel
theorem dX7_valueOfSets_20 : decode cX7_valueOfSets 20 = .ok (.goto (-17), 3) := by decide +kernel
theorem dX7_valueOfSets_23 : decode cX7_valueOfSets 23 = .ok (.iload 6, 2) := by decide +kernel
theorem dX7_valueOfSets_25 : decode cX7_valueOfSets 25 = .ok (.bipush 25, 2) := by decide +kernel
theorem dX7_valueOfSets_27 : decode cX7_valueOfSets 27 = .ok (.if_icmp .ne 27, 3) := by decide +kernel
theorem dX7_valueOfSets_30 : decode cX7_valueOfSets 30 = .ok (.iload_n 3, 1) := by decide +kernel
theorem dX7_valueOfSets_31 : decode cX7_valueOfSets 31 = .ok (.iconst 3, 1) := by decide +kernel
theorem dX7_valueOfSets_32 : decode cX7_valueOfSets 32 = .ok (.if_icmp .eq 7, 3) := by decide +kernel
theorem dX7_valueOfSets_35 : decode cX7_valueOfSets 35 = .ok (.iconst (-1), 1) := by decide +kernel
theorem dX7_valueOfSets_36 : decode cX7_valueOfSets 36 = .ok (.goto 17, 3) := by decide +kernel
theorem dX7_valueOfSets_39 : decode cX7_valueOfSets 39 = .ok (.iload 5, 2) := by decide +kernel
theorem dX7_valueOfSets_41 : decode cX7_valueOfSets 41 = .ok (.iload 4, 2) := by decide +kernel
theorem dX7_valueOfSets_43 : decode cX7_valueOfSets 43 = .ok (.iconst 3, 1) := by decide +kernel
theorem dX7_valueOfSets_44 : decode cX7_valueOfSets 44 = .ok (.if_icmp .ne 7, 3) := by decide +kernel
theorem dX7_valueOfSets_47 : decode cX7_valueOfSets 47 = .ok (.iconst 2, 1) := by decide +kernel
theorem dX7_valueOfSets_48 : decode cX7_valueOfSets 48 = .ok (.goto 4, 3) := by decide +kernel
theorem dX7_valueOfSets_51 : decode cX7_valueOfSets 51 = .ok (.iconst 0, 1) := by decide +kernel
theorem dX7_valueOfSets_52 : decode cX7_valueOfSets 52 = .ok (.iadd, 1) := by decide +kernel
theorem dX7_valueOfSets_53 : decode cX7_valueOfSets 53 = .ok (.ireturn, 1) := by decide +kernel
theorem dX7_valueOfSets_54 : decode cX7_valueOfSets 54 = .ok (.iconst (-1), 1) := by decide +kernel
theorem dX7_valueOfSets_55 : decode cX7_valueOfSets 55 = .ok (.istore 7, 2) := by decide +kernel
theorem dX7_valueOfSets_57 : decode cX7_valueOfSets 57 = .ok (.aload_n 1, 1) := by decide +kernel
theorem dX7_valueOfSets_58 : decode cX7_valueOfSets 58 = .ok (.iload 6, 2) := by decide +kernel
theorem dX7_valueOfSets_60 : decode cX7_valueOfSets 60 = .ok (.iaload, 1) := by decide +kernel
theorem dX7_valueOfSets_61 : decode cX7_valueOfSets 61 = .ok (.iconst 3, 1) := by decide +kernel
theorem dX7_valueOfSets_62 : decode cX7_valueOfSets 62 = .ok (.if_icmp .lt 44, 3) := by decide +kernel
theorem dX7_valueOfSets_65 : decode cX7_valueOfSets 65 = .ok (.aload_n 1, 1) := by decide +kernel
theorem dX7_valueOfSets_66 : decode cX7_valueOfSets 66 = .ok (.iload 6, 2) := by decide +kernel
theorem dX7_valueOfSets_68 : decode cX7_valueOfSets 68 = .ok (.dup2, 1) := by decide +kernel
theorem dX7_valueOfSets_69 : decode cX7_valueOfSets 69 = .ok (.iaload, 1) := by decide +kernel
theorem dX7_valueOfSets_70 : decode cX7_valueOfSets 70 = .ok (.iconst 3, 1) := by decide +kernel
theorem dX7_valueOfSets_71 : decode cX7_valueOfSets 71 = .ok (.isub, 1) := by decide +kernel
theorem dX7_valueOfSets_72 : decode cX7_valueOfSets 72 = .ok (.iastore, 1) := by decide +kernel
theorem dX7_valueOfSets_73 : decode cX7_valueOfSets 73 = .ok (.aload_n 0, 1) := by decide +kernel
theorem dX7_valueOfSets_74 : decode cX7_valueOfSets 74 = .ok (.aload_n 1, 1) := by decide +kernel
theorem dX7_valueOfSets_75 : decode cX7_valueOfSets 75 = .ok (.iload_n 2, 1) := by decide +kernel
theorem dX7_valueOfSets_76 : decode cX7_valueOfSets 76 = .ok (.iload_n 3, 1) := by decide +kernel
theorem dX7_valueOfSets_77 : decode cX7_valueOfSets 77 = .ok (.iconst 1, 1) := by decide +kernel
theorem dX7_valueOfSets_78 : decode cX7_valueOfSets 78 = .ok (.iadd, 1) := by decide +kernel
theorem dX7_valueOfSets_79 : decode cX7_valueOfSets 79 = .ok (.iload 4, 2) := by decide +kernel
theorem dX7_valueOfSets_81 : decode cX7_valueOfSets 81 = .ok (.iconst 1, 1) := by decide +kernel
theorem dX7_valueOfSets_82 : decode cX7_valueOfSets 82 = .ok (.iadd, 1) := by decide +kernel
theorem dX7_valueOfSets_83 : decode cX7_valueOfSets 83 = .ok (.iload 5, 2) := by decide +kernel
theorem dX7_valueOfSets_85 : decode cX7_valueOfSets 85 = .ok (.aload_n 0, 1) := by decide +kernel
theorem dX7_valueOfSets_86 : decode cX7_valueOfSets 86 = .ok (.iload 6, 2) := by decide +kernel
theorem dX7_valueOfSets_88 : decode cX7_valueOfSets 88 = .ok (.iload_n 2, 1) := by decide +kernel
theorem dX7_valueOfSets_89 : decode cX7_valueOfSets 89 = .ok (.invokevirtual 229, 3) := by decide +kernel
theorem dX7_valueOfSets_92 : decode cX7_valueOfSets 92 = .ok (.iadd, 1) := by decide +kernel
theorem dX7_valueOfSets_93 : decode cX7_valueOfSets 93 = .ok (.invokevirtual 232, 3) := by decide +kernel
theorem dX7_valueOfSets_96 : decode cX7_valueOfSets 96 = .ok (.istore 7, 2) := by decide +kernel
theorem dX7_valueOfSets_98 : decode cX7_valueOfSets 98 = .ok (.aload_n 1, 1) := by decide +kernel
theorem dX7_valueOfSets_99 : decode cX7_valueOfSets 99 = .ok (.iload 6, 2) := by decide +kernel
theorem dX7_valueOfSets_101 : decode cX7_valueOfSets 101 = .ok (.dup2, 1) := by decide +kernel
theorem dX7_valueOfSets_102 : decode cX7_valueOfSets 102 = .ok (.iaload, 1) := by decide +kernel
theorem dX7_valueOfSets_103 : decode cX7_valueOfSets 103 = .ok (.iconst 3, 1) := by decide +kernel
theorem dX7_valueOfSets_104 : decode cX7_valueOfSets 104 = .ok (.iadd, 1) := by decide +kernel
theorem dX7_valueOfSets_105 : decode cX7_valueOfSets 105 = .ok (.iastore, 1) := by decide +kernel
theorem dX7_valueOfSets_106 : decode cX7_valueOfSets 106 = .ok (.iload 6, 2) := by decide +kernel
theorem dX7_valueOfSets_108 : decode cX7_valueOfSets 108 = .ok (.iconst 3, 1) := by decide +kernel
theorem dX7_valueOfSets_109 : decode cX7_valueOfSets 109 = .ok (.invokestatic 17, 3) := by decide +kernel
theorem dX7_valueOfSets_112 : decode cX7_valueOfSets 112 = .ok (.ifCond .eq 21, 3) := by decide +kernel
theorem dX7_valueOfSets_115 : decode cX7_valueOfSets 115 = .ok (.aload_n 1, 1) := by decide +kernel
theorem dX7_valueOfSets_116 : decode cX7_valueOfSets 116 = .ok (.iload 6, 2) := by decide +kernel
theorem dX7_valueOfSets_118 : decode cX7_valueOfSets 118 = .ok (.iconst 1, 1) := by decide +kernel
theorem dX7_valueOfSets_119 : decode cX7_valueOfSets 119 = .ok (.iadd, 1) := by decide +kernel
theorem dX7_valueOfSets_120 : decode cX7_valueOfSets 120 = .ok (.iaload, 1) := by decide +kernel
theorem dX7_valueOfSets_121 : decode cX7_valueOfSets 121 = .ok (.ifCond .eq 12, 3) := by decide +kernel
theorem dX7_valueOfSets_124 : decode cX7_valueOfSets 124 = .ok (.aload_n 1, 1) := by decide +kernel
theorem dX7_valueOfSets_125 : decode cX7_valueOfSets 125 = .ok (.iload 6, 2) := by decide +kernel
theorem dX7_valueOfSets_127 : decode cX7_valueOfSets 127 = .ok (.iconst 2, 1) := by decide +kernel
theorem dX7_valueOfSets_128 : decode cX7_valueOfSets 128 = .ok (.iadd, 1) := by decide +kernel
theorem dX7_valueOfSets_129 : decode cX7_valueOfSets 129 = .ok (.iaload, 1) := by decide +kernel
theorem dX7_valueOfSets_130 : decode cX7_valueOfSets 130 = .ok (.ifCond .ne 6, 3) := by decide +kernel
theorem dX7_valueOfSets_133 : decode cX7_valueOfSets 133 = .ok (.iload 7, 2) := by decide +kernel
theorem dX7_valueOfSets_135 : decode cX7_valueOfSets 135 = .ok (.ireturn, 1) := by decide +kernel
theorem dX7_valueOfSets_136 : decode cX7_valueOfSets 136 = .ok (.iconst 0, 1) := by decide +kernel
theorem dX7_valueOfSets_137 : decode cX7_valueOfSets 137 = .ok (.istore 8, 2) := by decide +kernel
theorem dX7_valueOfSets_139 : decode cX7_valueOfSets 139 = .ok (.iload 8, 2) := by decide +kernel
theorem dX7_valueOfSets_141 : decode cX7_valueOfSets 141 = .ok (.iconst 3, 1) := by decide +kernel
theorem dX7_valueOfSets_142 : decode cX7_valueOfSets 142 = .ok (.if_icmp .ge 20, 3) := by decide +kernel
theorem dX7_valueOfSets_145 : decode cX7_valueOfSets 145 = .ok (.aload_n 1, 1) := by decide +kernel
theorem dX7_valueOfSets_146 : decode cX7_valueOfSets 146 = .ok (.iload 6, 2) := by decide +kernel
theorem dX7_valueOfSets_148 : decode cX7_valueOfSets 148 = .ok (.iload 8, 2) := by decide +kernel
theorem dX7_valueOfSets_150 : decode cX7_valueOfSets 150 = .ok (.iadd, 1) := by decide +kernel
theorem dX7_valueOfSets_151 : decode cX7_valueOfSets 151 = .ok (.dup2, 1) := by decide +kernel
theorem dX7_valueOfSets_152 : decode cX7_valueOfSets 152 = .ok (.iaload, 1) := by decide +kernel
theorem dX7_valueOfSets_153 : decode cX7_valueOfSets 153 = .ok (.iconst 1, 1) := by decide +kernel
theorem dX7_valueOfSets_154 : decode cX7_valueOfSets 154 = .ok (.isub, 1) := by decide +kernel
theorem dX7_valueOfSets_155 : decode cX7_valueOfSets 155 = .ok (.iastore, 1) := by decide +kernel
theorem dX7_valueOfSets_156 : decode cX7_valueOfSets 156 = .ok (.iinc 8 1, 3) := by decide +kernel
theorem dX7_valueOfSets_159 : decode cX7_valueOfSets 159 = .ok (.goto (-20), 3) := by decide +kernel
theorem dX7_valueOfSets_162 : decode cX7_valueOfSets 162 = .ok (.iload 7, 2) := by decide +kernel
theorem dX7_valueOfSets_164 : decode cX7_valueOfSets 164 = .ok (.aload_n 0, 1) := by decide +kernel
theorem dX7_valueOfSets_165 : decode cX7_valueOfSets 165 = .ok (.aload_n 1, 1) := by decide +kernel
theorem dX7_valueOfSets_166 : decode cX7_valueOfSets 166 = .ok (.iload_n 2, 1) := by decide +kernel
theorem dX7_valueOfSets_167 : decode cX7_valueOfSets 167 = .ok (.iload_n 3, 1) := by decide +kernel
theorem dX7_valueOfSets_168 : decode cX7_valueOfSets 168 = .ok (.iconst 1, 1) := by decide +kernel
theorem dX7_valueOfSets_169 : decode cX7_valueOfSets 169 = .ok (.iadd, 1) := by decide +kernel
theorem dX7_valueOfSets_170 : decode cX7_valueOfSets 170 = .ok (.iload 4, 2) := by decide +kernel
theorem dX7_valueOfSets_172 : decode cX7_valueOfSets 172 = .ok (.iload 5, 2) := by decide +kernel
theorem dX7_valueOfSets_174 : decode cX7_valueOfSets 174 = .ok (.invokevirtual 232, 3) := by decide +kernel
theorem dX7_valueOfSets_177 : decode cX7_valueOfSets 177 = .ok (.invokestatic 235, 3) := by decide +kernel
theorem dX7_valueOfSets_180 : decode cX7_valueOfSets 180 = .ok (.istore 7, 2) := by decide +kernel
theorem dX7_valueOfSets_182 : decode cX7_valueOfSets 182 = .ok (.iconst 0, 1) := by decide +kernel
theorem dX7_valueOfSets_183 : decode cX7_valueOfSets 183 = .ok (.istore 8, 2) := by decide +kernel
theorem dX7_valueOfSets_185 : decode cX7_valueOfSets 185 = .ok (.iload 8, 2) := by decide +kernel
theorem dX7_valueOfSets_187 : decode cX7_valueOfSets 187 = .ok (.iconst 3, 1) := by decide +kernel
theorem dX7_valueOfSets_188 : decode cX7_valueOfSets 188 = .ok (.if_icmp .ge 20, 3) := by decide +kernel
theorem dX7_valueOfSets_191 : decode cX7_valueOfSets 191 = .ok (.aload_n 1, 1) := by decide +kernel
theorem dX7_valueOfSets_192 : decode cX7_valueOfSets 192 = .ok (.iload 6, 2) := by decide +kernel
theorem dX7_valueOfSets_194 : decode cX7_valueOfSets 194 = .ok (.iload 8, 2) := by decide +kernel
theorem dX7_valueOfSets_196 : decode cX7_valueOfSets 196 = .ok (.iadd, 1) := by decide +kernel
theorem dX7_valueOfSets_197 : decode cX7_valueOfSets 197 = .ok (.dup2, 1) := by decide +kernel
theorem dX7_valueOfSets_198 : decode cX7_valueOfSets 198 = .ok (.iaload, 1) := by decide +kernel
theorem dX7_valueOfSets_199 : decode cX7_valueOfSets 199 = .ok (.iconst 1, 1) := by decide +kernel
theorem dX7_valueOfSets_200 : decode cX7_valueOfSets 200 = .ok (.iadd, 1) := by decide +kernel
theorem dX7_valueOfSets_201 : decode cX7_valueOfSets 201 = .ok (.iastore, 1) := by decide +kernel
theorem dX7_valueOfSets_202 : decode cX7_valueOfSets 202 = .ok (.iinc 8 1, 3) := by decide +kernel
theorem dX7_valueOfSets_205 : decode cX7_valueOfSets 205 = .ok (.goto (-20), 3) := by decide +kernel
theorem dX7_valueOfSets_208 : decode cX7_valueOfSets 208 = .ok (.iload 7, 2) := by decide +kernel
theorem dX7_valueOfSets_210 : decode cX7_valueOfSets 210 = .ok (.ireturn, 1) := by decide +kernel
def f_X7_valueOfSets_185 (RC_X7_valueOfSets : Nat → Nat → Int32 → Int32 → Int32 → Int32 → zM → Option (Int32 × zM)) (n : Nat) (a1 : Nat) (i6 : Int32) (i7 : Int32) (i8 : Int32) (M : zM) : Option (Int32 × zM) := match n with
  | 0 => none
  | n + 1 =>
    if ((3 : Int32)) ≤ i8 then
    some (i7, M)
    else
    (lA 0 M a1 ((i6 + i8))).bind fun v1 =>
    (tA M a1 ((i6 + i8)) ((v1 + ((1 : Int32))))).bind fun M2 =>
    f_X7_valueOfSets_185 RC_X7_valueOfSets n a1 i6 i7 ((i8 + (1 : Int32))) M2
set_option maxRecDepth 20000 in
set_option maxHeartbeats 4000000 in
theorem s_X7_valueOfSets_185 {L : zL} {X : zX} {M0 : zM} {N : Nat × Nat} {Q : State → Prop} {r : Int32 × zM} {dd : Nat} {RC_X7_valueOfSets : Nat → Nat → Int32 → Int32 → Int32 → Int32 → zM → Option (Int32 × zM)} {d_X7_valueOfSets : Nat} (hRC_X7_valueOfSets : ∀ (l : Launch) (a0 : Nat) (a1 : Nat) (i2 : Int32) (i3 : Int32) (i4 : Int32) (i5 : Int32) (M : zM) (r : Int32 × zM), RC_X7_valueOfSets a0 a1 i2 i3 i4 i5 M = some r → CP L l yX7_valueOfSets cX7_valueOfSets 9 (some FieldType.int) d_X7_valueOfSets M [.ref (zad L (a0)), .ref (zad L (a1)), .int (i2), .int (i3), .int (i4), .int (i5)] (some (.int r.1)) r.2) (hd : d_X7_valueOfSets + 1 ≤ dd ∧ 4 ≤ dd) (hq : vQ L X M0 N Q (some (.int r.1)) r.2) {n : Nat} {a1 : Nat} {i6 : Int32} {i7 : Int32} {i8 : Int32} {M : zM} : f_X7_valueOfSets_185 RC_X7_valueOfSets n a1 i6 i7 i8 M = some r → V L X yX7_valueOfSets cX7_valueOfSets 9 (some FieldType.int) dd M0 N Q M 185 [(1, .ref (zad L (a1))), (6, .int (i6)), (7, .int (i7)), (8, .int (i8))] [] := by
  induction n generalizing a1 i6 i7 i8 M with
  | zero =>
    intro h
    rw [f_X7_valueOfSets_185] at h
    cases h
  | succ n ih0 =>
    intro h
    have ih : ∀ (a1 : Nat) (i6 : Int32) (i7 : Int32) (i8 : Int32) (M : zM), f_X7_valueOfSets_185 RC_X7_valueOfSets n a1 i6 i7 i8 M = some r → V L X yX7_valueOfSets cX7_valueOfSets 9 (some FieldType.int) dd M0 N Q M 185 [(1, .ref (zad L (a1))), (6, .int (i6)), (7, .int (i7)), (8, .int (i8))] [] := fun a1 i6 i7 i8 M h => ih0 h
    rw [f_X7_valueOfSets_185] at h
    refine V_iload dX7_valueOfSets_185 3 rfl ?_
    refine V_iconst (v := 3) dX7_valueOfSets_187 (by decide) ?_
    refine V_icmp_ge (tgt := 208) dX7_valueOfSets_188 (by decide) (fun c3 => ?_) (fun c3 => ?_)
    · replace h := (oi h).1 c3
      refine V_iload dX7_valueOfSets_208 2 rfl ?_
      cases h
      exact V_iret rfl hq dX7_valueOfSets_210
    · replace h := (oi h).2 c3
      refine V_aload_n dX7_valueOfSets_191 rfl 0 rfl ?_
      refine V_iload dX7_valueOfSets_192 1 rfl ?_
      refine V_iload dX7_valueOfSets_194 3 rfl ?_
      refine V_iadd dX7_valueOfSets_196 ?_
      refine V_dup2 dX7_valueOfSets_197 rfl rfl ?_
      replace h := ob h
      obtain ⟨v1, e_v1, h⟩ := h
      refine V_iald e_v1 dX7_valueOfSets_198 ?_
      refine V_pc (pc' := 199) rfl ?_
      refine V_iconst (v := 1) dX7_valueOfSets_199 (by decide) ?_
      refine V_iadd dX7_valueOfSets_200 ?_
      replace h := ob h
      obtain ⟨M2, e_M2, h⟩ := h
      refine V_iast e_M2 dX7_valueOfSets_201 ?_
      refine V_iinc (v := i8 + (1 : Int32)) (ls' := [(8, .int ((i8 + (1 : Int32)))), (1, .ref (zad L (a1))), (6, .int (i6)), (7, .int (i7))]) dX7_valueOfSets_202 3 rfl (by rfl) (by decide) rfl ?_
      refine V_goto (tgt := 185) dX7_valueOfSets_205 (by decide) ?_
      refine V_sub [1, 2, 3, 0] rfl ?_
      exact ih _ _ _ _ _ h
def f_X7_valueOfSets_139 (RC_X7_valueOfSets : Nat → Nat → Int32 → Int32 → Int32 → Int32 → zM → Option (Int32 × zM)) (n : Nat) (a0 : Nat) (a1 : Nat) (i2 : Int32) (i3 : Int32) (i4 : Int32) (i5 : Int32) (i6 : Int32) (i7 : Int32) (i8 : Int32) (M : zM) : Option (Int32 × zM) := match n with
  | 0 => none
  | n + 1 =>
    if ((3 : Int32)) ≤ i8 then
    if mK M a0 = 13 then
    (RC_X7_valueOfSets a0 a1 i2 ((i3 + ((1 : Int32)))) i4 i5 M).bind fun r1 =>
    (f_J9_max_7cf53 i7 r1.1 r1.2).bind fun r3 =>
    f_X7_valueOfSets_185 RC_X7_valueOfSets zN a1 i6 r3.1 ((0 : Int32)) r3.2
    else none
    else
    (lA 0 M a1 ((i6 + i8))).bind fun v4 =>
    (tA M a1 ((i6 + i8)) ((v4 - ((1 : Int32))))).bind fun M5 =>
    f_X7_valueOfSets_139 RC_X7_valueOfSets n a0 a1 i2 i3 i4 i5 i6 i7 ((i8 + (1 : Int32))) M5
set_option maxRecDepth 20000 in
set_option maxHeartbeats 4000000 in
theorem s_X7_valueOfSets_139 {L : zL} {X : zX} {M0 : zM} {N : Nat × Nat} {Q : State → Prop} {r : Int32 × zM} {dd : Nat} {RC_X7_valueOfSets : Nat → Nat → Int32 → Int32 → Int32 → Int32 → zM → Option (Int32 × zM)} {d_X7_valueOfSets : Nat} (hRC_X7_valueOfSets : ∀ (l : Launch) (a0 : Nat) (a1 : Nat) (i2 : Int32) (i3 : Int32) (i4 : Int32) (i5 : Int32) (M : zM) (r : Int32 × zM), RC_X7_valueOfSets a0 a1 i2 i3 i4 i5 M = some r → CP L l yX7_valueOfSets cX7_valueOfSets 9 (some FieldType.int) d_X7_valueOfSets M [.ref (zad L (a0)), .ref (zad L (a1)), .int (i2), .int (i3), .int (i4), .int (i5)] (some (.int r.1)) r.2) (hd : d_X7_valueOfSets + 1 ≤ dd ∧ 4 ≤ dd) (hq : vQ L X M0 N Q (some (.int r.1)) r.2) {n : Nat} {a0 : Nat} {a1 : Nat} {i2 : Int32} {i3 : Int32} {i4 : Int32} {i5 : Int32} {i6 : Int32} {i7 : Int32} {i8 : Int32} {M : zM} : f_X7_valueOfSets_139 RC_X7_valueOfSets n a0 a1 i2 i3 i4 i5 i6 i7 i8 M = some r → V L X yX7_valueOfSets cX7_valueOfSets 9 (some FieldType.int) dd M0 N Q M 139 [(0, .ref (zad L (a0))), (1, .ref (zad L (a1))), (2, .int (i2)), (3, .int (i3)), (4, .int (i4)), (5, .int (i5)), (6, .int (i6)), (7, .int (i7)), (8, .int (i8))] [] := by
  induction n generalizing a0 a1 i2 i3 i4 i5 i6 i7 i8 M with
  | zero =>
    intro h
    rw [f_X7_valueOfSets_139] at h
    cases h
  | succ n ih0 =>
    intro h
    have ih : ∀ (a0 : Nat) (a1 : Nat) (i2 : Int32) (i3 : Int32) (i4 : Int32) (i5 : Int32) (i6 : Int32) (i7 : Int32) (i8 : Int32) (M : zM), f_X7_valueOfSets_139 RC_X7_valueOfSets n a0 a1 i2 i3 i4 i5 i6 i7 i8 M = some r → V L X yX7_valueOfSets cX7_valueOfSets 9 (some FieldType.int) dd M0 N Q M 139 [(0, .ref (zad L (a0))), (1, .ref (zad L (a1))), (2, .int (i2)), (3, .int (i3)), (4, .int (i4)), (5, .int (i5)), (6, .int (i6)), (7, .int (i7)), (8, .int (i8))] [] := fun a0 a1 i2 i3 i4 i5 i6 i7 i8 M h => ih0 h
    rw [f_X7_valueOfSets_139] at h
    refine V_iload dX7_valueOfSets_139 8 rfl ?_
    refine V_iconst (v := 3) dX7_valueOfSets_141 (by decide) ?_
    refine V_icmp_ge (tgt := 162) dX7_valueOfSets_142 (by decide) (fun c6 => ?_) (fun c6 => ?_)
    · replace h := (oi h).1 c6
      refine V_iload dX7_valueOfSets_162 7 rfl ?_
      refine V_aload_n dX7_valueOfSets_164 rfl 0 rfl ?_
      refine V_aload_n dX7_valueOfSets_165 rfl 1 rfl ?_
      refine V_iload_n dX7_valueOfSets_166 rfl 2 rfl ?_
      refine V_iload_n dX7_valueOfSets_167 rfl 3 rfl ?_
      refine V_iconst (v := 1) dX7_valueOfSets_168 (by decide) ?_
      refine V_iadd dX7_valueOfSets_169 ?_
      refine V_iload dX7_valueOfSets_170 4 rfl ?_
      refine V_iload dX7_valueOfSets_172 5 rfl ?_
      replace h := ox h
      obtain ⟨c2, h⟩ := h
      replace h := ob h
      obtain ⟨r1, e_r1, h⟩ := h
      refine V_callV_I (As := [.ref (zad L (a1)), .int (i2), .int ((i3 + ((1 : Int32)))), .int (i4), .int (i5)]) (rest := [.int (i7)]) (hRC_X7_valueOfSets X.2.1 _ _ _ _ _ _ _ _ e_r1) zc_X7_valueOfSets rfl (by omega) rfl (by decide) (Or.inl c2) zm_X7_232 (Nat.le_of_ble_eq_true rfl) rfl dX7_valueOfSets_174 ?_
      refine V_pc (pc' := 177) rfl ?_
      replace h := ob h
      obtain ⟨r3, e_r3, h⟩ := h
      refine V_callS_I (As := [.int (i7), .int (r1.1)]) (rest := []) (c_J9_max_7cf53 e_r3) zc_J9_max_7cf53 rfl (by omega) zm_X7_235 (Nat.le_of_ble_eq_true rfl) rfl dX7_valueOfSets_177 ?_
      refine V_pc (pc' := 180) rfl ?_
      refine V_istore (ls' := [(7, .int (r3.1)), (0, .ref (zad L (a0))), (1, .ref (zad L (a1))), (2, .int (i2)), (3, .int (i3)), (4, .int (i4)), (5, .int (i5)), (6, .int (i6)), (8, .int (i8))]) dX7_valueOfSets_180 (by decide) rfl ?_
      refine V_iconst (v := 0) dX7_valueOfSets_182 (by decide) ?_
      refine V_istore (ls' := [(8, .int ((0 : Int32))), (7, .int (r3.1)), (0, .ref (zad L (a0))), (1, .ref (zad L (a1))), (2, .int (i2)), (3, .int (i3)), (4, .int (i4)), (5, .int (i5)), (6, .int (i6))]) dX7_valueOfSets_183 (by decide) rfl ?_
      refine V_sub [3, 8, 1, 0] rfl ?_
      exact s_X7_valueOfSets_185 hRC_X7_valueOfSets hd hq h
    · replace h := (oi h).2 c6
      refine V_aload_n dX7_valueOfSets_145 rfl 1 rfl ?_
      refine V_iload dX7_valueOfSets_146 6 rfl ?_
      refine V_iload dX7_valueOfSets_148 8 rfl ?_
      refine V_iadd dX7_valueOfSets_150 ?_
      refine V_dup2 dX7_valueOfSets_151 rfl rfl ?_
      replace h := ob h
      obtain ⟨v4, e_v4, h⟩ := h
      refine V_iald e_v4 dX7_valueOfSets_152 ?_
      refine V_pc (pc' := 153) rfl ?_
      refine V_iconst (v := 1) dX7_valueOfSets_153 (by decide) ?_
      refine V_isub dX7_valueOfSets_154 ?_
      replace h := ob h
      obtain ⟨M5, e_M5, h⟩ := h
      refine V_iast e_M5 dX7_valueOfSets_155 ?_
      refine V_iinc (v := i8 + (1 : Int32)) (ls' := [(8, .int ((i8 + (1 : Int32)))), (0, .ref (zad L (a0))), (1, .ref (zad L (a1))), (2, .int (i2)), (3, .int (i3)), (4, .int (i4)), (5, .int (i5)), (6, .int (i6)), (7, .int (i7))]) dX7_valueOfSets_156 8 rfl (by rfl) (by decide) rfl ?_
      refine V_goto (tgt := 139) dX7_valueOfSets_159 (by decide) ?_
      refine V_sub [1, 2, 3, 4, 5, 6, 7, 8, 0] rfl ?_
      exact ih _ _ _ _ _ _ _ _ _ _ h
def f_X7_valueOfSets_106 (RC_X7_valueOfSets : Nat → Nat → Int32 → Int32 → Int32 → Int32 → zM → Option (Int32 × zM)) (a0 : Nat) (a1 : Nat) (i2 : Int32) (i3 : Int32) (i4 : Int32) (i5 : Int32) (i6 : Int32) (i7 : Int32) (M : zM) : Option (Int32 × zM) :=
  (f_X7_isRun i6 ((3 : Int32)) M).bind fun r1 =>
  if r1.1 = 0 then
  some (i7, r1.2)
  else
  (lA 0 r1.2 a1 ((i6 + ((1 : Int32))))).bind fun v2 =>
  if v2 = 0 then
  some (i7, r1.2)
  else
  (lA 0 r1.2 a1 ((i6 + ((2 : Int32))))).bind fun v3 =>
  if v3 = 0 then
  some (i7, r1.2)
  else
  f_X7_valueOfSets_139 RC_X7_valueOfSets zN a0 a1 i2 i3 i4 i5 i6 i7 ((0 : Int32)) r1.2
set_option maxRecDepth 20000 in
set_option maxHeartbeats 4000000 in
theorem s_X7_valueOfSets_106 {L : zL} {X : zX} {M0 : zM} {N : Nat × Nat} {Q : State → Prop} {r : Int32 × zM} {dd : Nat} {RC_X7_valueOfSets : Nat → Nat → Int32 → Int32 → Int32 → Int32 → zM → Option (Int32 × zM)} {d_X7_valueOfSets : Nat} (hRC_X7_valueOfSets : ∀ (l : Launch) (a0 : Nat) (a1 : Nat) (i2 : Int32) (i3 : Int32) (i4 : Int32) (i5 : Int32) (M : zM) (r : Int32 × zM), RC_X7_valueOfSets a0 a1 i2 i3 i4 i5 M = some r → CP L l yX7_valueOfSets cX7_valueOfSets 9 (some FieldType.int) d_X7_valueOfSets M [.ref (zad L (a0)), .ref (zad L (a1)), .int (i2), .int (i3), .int (i4), .int (i5)] (some (.int r.1)) r.2) (hd : d_X7_valueOfSets + 1 ≤ dd ∧ 4 ≤ dd) (hq : vQ L X M0 N Q (some (.int r.1)) r.2) {a0 : Nat} {a1 : Nat} {i2 : Int32} {i3 : Int32} {i4 : Int32} {i5 : Int32} {i6 : Int32} {i7 : Int32} {M : zM} (h : f_X7_valueOfSets_106 RC_X7_valueOfSets a0 a1 i2 i3 i4 i5 i6 i7 M = some r) : V L X yX7_valueOfSets cX7_valueOfSets 9 (some FieldType.int) dd M0 N Q M 106 [(0, .ref (zad L (a0))), (1, .ref (zad L (a1))), (2, .int (i2)), (3, .int (i3)), (4, .int (i4)), (5, .int (i5)), (6, .int (i6)), (7, .int (i7))] [] := by
  unfold f_X7_valueOfSets_106 at h
  refine V_iload dX7_valueOfSets_106 6 rfl ?_
  refine V_iconst (v := 3) dX7_valueOfSets_108 (by decide) ?_
  replace h := ob h
  obtain ⟨r1, e_r1, h⟩ := h
  refine V_callS_I (As := [.int (i6), .int ((3 : Int32))]) (rest := []) (c_X7_isRun e_r1) zc_X7_isRun rfl (by omega) zm_X7_17 (Nat.le_of_ble_eq_true rfl) rfl dX7_valueOfSets_109 ?_
  refine V_pc (pc' := 112) rfl ?_
  refine V_if_eq (tgt := 133) dX7_valueOfSets_112 (by decide) (fun c6 => ?_) (fun c6 => ?_)
  · replace h := (oi h).1 c6
    refine V_iload dX7_valueOfSets_133 7 rfl ?_
    cases h
    exact V_iret rfl hq dX7_valueOfSets_135
  · replace h := (oi h).2 c6
    refine V_aload_n dX7_valueOfSets_115 rfl 1 rfl ?_
    refine V_iload dX7_valueOfSets_116 6 rfl ?_
    refine V_iconst (v := 1) dX7_valueOfSets_118 (by decide) ?_
    refine V_iadd dX7_valueOfSets_119 ?_
    replace h := ob h
    obtain ⟨v2, e_v2, h⟩ := h
    refine V_iald e_v2 dX7_valueOfSets_120 ?_
    refine V_pc (pc' := 121) rfl ?_
    refine V_if_eq (tgt := 133) dX7_valueOfSets_121 (by decide) (fun c5 => ?_) (fun c5 => ?_)
    · replace h := (oi h).1 c5
      refine V_iload dX7_valueOfSets_133 7 rfl ?_
      cases h
      exact V_iret rfl hq dX7_valueOfSets_135
    · replace h := (oi h).2 c5
      refine V_aload_n dX7_valueOfSets_124 rfl 1 rfl ?_
      refine V_iload dX7_valueOfSets_125 6 rfl ?_
      refine V_iconst (v := 2) dX7_valueOfSets_127 (by decide) ?_
      refine V_iadd dX7_valueOfSets_128 ?_
      replace h := ob h
      obtain ⟨v3, e_v3, h⟩ := h
      refine V_iald e_v3 dX7_valueOfSets_129 ?_
      refine V_pc (pc' := 130) rfl ?_
      refine V_if_ne (tgt := 136) dX7_valueOfSets_130 (by decide) (fun c4 => ?_) (fun c4 => ?_)
      · replace h := (oi h).2 c4
        refine V_iconst (v := 0) dX7_valueOfSets_136 (by decide) ?_
        refine V_istore (ls' := [(8, .int ((0 : Int32))), (0, .ref (zad L (a0))), (1, .ref (zad L (a1))), (2, .int (i2)), (3, .int (i3)), (4, .int (i4)), (5, .int (i5)), (6, .int (i6)), (7, .int (i7))]) dX7_valueOfSets_137 (by decide) rfl ?_
        refine V_sub [1, 2, 3, 4, 5, 6, 7, 8, 0] rfl ?_
        exact s_X7_valueOfSets_139 hRC_X7_valueOfSets hd hq h
      · replace h := (oi h).1 c4
        refine V_iload dX7_valueOfSets_133 7 rfl ?_
        cases h
        exact V_iret rfl hq dX7_valueOfSets_135
def f_X7_valueOfSets_23 (RC_X7_valueOfSets : Nat → Nat → Int32 → Int32 → Int32 → Int32 → zM → Option (Int32 × zM)) (a0 : Nat) (a1 : Nat) (i2 : Int32) (i3 : Int32) (i4 : Int32) (i5 : Int32) (i6 : Int32) (M : zM) : Option (Int32 × zM) :=
  if i6 = ((25 : Int32)) then
  if i3 = ((3 : Int32)) then
  if i4 = ((3 : Int32)) then
  some ((i5 + ((2 : Int32))), M)
  else
  some ((i5 + ((0 : Int32))), M)
  else
  some ((-1 : Int32), M)
  else
  (lA 0 M a1 i6).bind fun v1 =>
  if v1 < ((3 : Int32)) then
  f_X7_valueOfSets_106 RC_X7_valueOfSets a0 a1 i2 i3 i4 i5 i6 ((-1 : Int32)) M
  else
  (lA 0 M a1 i6).bind fun v2 =>
  (tA M a1 i6 ((v2 - ((3 : Int32))))).bind fun M3 =>
  if mK M3 a0 = 13 then
  (f_X7_valueOfThree a0 i6 i2 M3).bind fun r4 =>
  if mK r4.2 a0 = 13 then
  (RC_X7_valueOfSets a0 a1 i2 ((i3 + ((1 : Int32)))) ((i4 + ((1 : Int32)))) ((i5 + r4.1)) r4.2).bind fun r6 =>
  (lA 0 r6.2 a1 i6).bind fun v8 =>
  (tA r6.2 a1 i6 ((v8 + ((3 : Int32))))).bind fun M9 =>
  f_X7_valueOfSets_106 RC_X7_valueOfSets a0 a1 i2 i3 i4 i5 i6 r6.1 M9
  else none
  else none
set_option maxRecDepth 20000 in
set_option maxHeartbeats 4000000 in
theorem s_X7_valueOfSets_23 {L : zL} {X : zX} {M0 : zM} {N : Nat × Nat} {Q : State → Prop} {r : Int32 × zM} {dd : Nat} {RC_X7_valueOfSets : Nat → Nat → Int32 → Int32 → Int32 → Int32 → zM → Option (Int32 × zM)} {d_X7_valueOfSets : Nat} (hRC_X7_valueOfSets : ∀ (l : Launch) (a0 : Nat) (a1 : Nat) (i2 : Int32) (i3 : Int32) (i4 : Int32) (i5 : Int32) (M : zM) (r : Int32 × zM), RC_X7_valueOfSets a0 a1 i2 i3 i4 i5 M = some r → CP L l yX7_valueOfSets cX7_valueOfSets 9 (some FieldType.int) d_X7_valueOfSets M [.ref (zad L (a0)), .ref (zad L (a1)), .int (i2), .int (i3), .int (i4), .int (i5)] (some (.int r.1)) r.2) (hd : d_X7_valueOfSets + 1 ≤ dd ∧ 4 ≤ dd) (hq : vQ L X M0 N Q (some (.int r.1)) r.2) {a0 : Nat} {a1 : Nat} {i2 : Int32} {i3 : Int32} {i4 : Int32} {i5 : Int32} {i6 : Int32} {M : zM} (h : f_X7_valueOfSets_23 RC_X7_valueOfSets a0 a1 i2 i3 i4 i5 i6 M = some r) : V L X yX7_valueOfSets cX7_valueOfSets 9 (some FieldType.int) dd M0 N Q M 23 [(0, .ref (zad L (a0))), (1, .ref (zad L (a1))), (2, .int (i2)), (3, .int (i3)), (4, .int (i4)), (5, .int (i5)), (6, .int (i6))] [] := by
  unfold f_X7_valueOfSets_23 at h
  refine V_iload dX7_valueOfSets_23 6 rfl ?_
  refine V_bipush (v := 25) dX7_valueOfSets_25 (by decide) ?_
  refine V_icmp_ne (tgt := 54) dX7_valueOfSets_27 (by decide) (fun c13 => ?_) (fun c13 => ?_)
  · replace h := (oi h).2 c13
    refine V_iconst (v := -1) dX7_valueOfSets_54 (by decide) ?_
    refine V_istore (ls' := [(7, .int ((-1 : Int32))), (0, .ref (zad L (a0))), (1, .ref (zad L (a1))), (2, .int (i2)), (3, .int (i3)), (4, .int (i4)), (5, .int (i5)), (6, .int (i6))]) dX7_valueOfSets_55 (by decide) rfl ?_
    refine V_aload_n dX7_valueOfSets_57 rfl 2 rfl ?_
    refine V_iload dX7_valueOfSets_58 7 rfl ?_
    replace h := ob h
    obtain ⟨v1, e_v1, h⟩ := h
    refine V_iald e_v1 dX7_valueOfSets_60 ?_
    refine V_pc (pc' := 61) rfl ?_
    refine V_iconst (v := 3) dX7_valueOfSets_61 (by decide) ?_
    refine V_icmp_lt (tgt := 106) dX7_valueOfSets_62 (by decide) (fun c10 => ?_) (fun c10 => ?_)
    · replace h := (oi h).1 c10
      refine V_sub [1, 2, 3, 4, 5, 6, 7, 0] rfl ?_
      exact s_X7_valueOfSets_106 hRC_X7_valueOfSets hd hq h
    · replace h := (oi h).2 c10
      refine V_aload_n dX7_valueOfSets_65 rfl 2 rfl ?_
      refine V_iload dX7_valueOfSets_66 7 rfl ?_
      refine V_dup2 dX7_valueOfSets_68 rfl rfl ?_
      replace h := ob h
      obtain ⟨v2, e_v2, h⟩ := h
      refine V_iald e_v2 dX7_valueOfSets_69 ?_
      refine V_pc (pc' := 70) rfl ?_
      refine V_iconst (v := 3) dX7_valueOfSets_70 (by decide) ?_
      refine V_isub dX7_valueOfSets_71 ?_
      replace h := ob h
      obtain ⟨M3, e_M3, h⟩ := h
      refine V_iast e_M3 dX7_valueOfSets_72 ?_
      refine V_aload_n dX7_valueOfSets_73 rfl 1 rfl ?_
      refine V_aload_n dX7_valueOfSets_74 rfl 2 rfl ?_
      refine V_iload_n dX7_valueOfSets_75 rfl 3 rfl ?_
      refine V_iload_n dX7_valueOfSets_76 rfl 4 rfl ?_
      refine V_iconst (v := 1) dX7_valueOfSets_77 (by decide) ?_
      refine V_iadd dX7_valueOfSets_78 ?_
      refine V_iload dX7_valueOfSets_79 5 rfl ?_
      refine V_iconst (v := 1) dX7_valueOfSets_81 (by decide) ?_
      refine V_iadd dX7_valueOfSets_82 ?_
      refine V_iload dX7_valueOfSets_83 6 rfl ?_
      refine V_aload_n dX7_valueOfSets_85 rfl 1 rfl ?_
      refine V_iload dX7_valueOfSets_86 7 rfl ?_
      refine V_iload_n dX7_valueOfSets_88 rfl 3 rfl ?_
      replace h := ox h
      obtain ⟨c5, h⟩ := h
      replace h := ob h
      obtain ⟨r4, e_r4, h⟩ := h
      refine V_callV_I (As := [.int (i6), .int (i2)]) (rest := [.int (i5), .int ((i4 + ((1 : Int32)))), .int ((i3 + ((1 : Int32)))), .int (i2), .ref (zad L (a1)), .ref (zad L (a0))]) (c_X7_valueOfThree e_r4) zc_X7_valueOfThree rfl (by omega) rfl (by decide) (Or.inl c5) zm_X7_229 (Nat.le_of_ble_eq_true rfl) rfl dX7_valueOfSets_89 ?_
      refine V_pc (pc' := 92) rfl ?_
      refine V_iadd dX7_valueOfSets_92 ?_
      replace h := ox h
      obtain ⟨c7, h⟩ := h
      replace h := ob h
      obtain ⟨r6, e_r6, h⟩ := h
      refine V_callV_I (As := [.ref (zad L (a1)), .int (i2), .int ((i3 + ((1 : Int32)))), .int ((i4 + ((1 : Int32)))), .int ((i5 + r4.1))]) (rest := []) (hRC_X7_valueOfSets X.2.1 _ _ _ _ _ _ _ _ e_r6) zc_X7_valueOfSets rfl (by omega) rfl (by decide) (Or.inl c7) zm_X7_232 (Nat.le_of_ble_eq_true rfl) rfl dX7_valueOfSets_93 ?_
      refine V_pc (pc' := 96) rfl ?_
      refine V_istore (ls' := [(7, .int (r6.1)), (0, .ref (zad L (a0))), (1, .ref (zad L (a1))), (2, .int (i2)), (3, .int (i3)), (4, .int (i4)), (5, .int (i5)), (6, .int (i6))]) dX7_valueOfSets_96 (by decide) rfl ?_
      refine V_aload_n dX7_valueOfSets_98 rfl 2 rfl ?_
      refine V_iload dX7_valueOfSets_99 7 rfl ?_
      refine V_dup2 dX7_valueOfSets_101 rfl rfl ?_
      replace h := ob h
      obtain ⟨v8, e_v8, h⟩ := h
      refine V_iald e_v8 dX7_valueOfSets_102 ?_
      refine V_pc (pc' := 103) rfl ?_
      refine V_iconst (v := 3) dX7_valueOfSets_103 (by decide) ?_
      refine V_iadd dX7_valueOfSets_104 ?_
      replace h := ob h
      obtain ⟨M9, e_M9, h⟩ := h
      refine V_iast e_M9 dX7_valueOfSets_105 ?_
      refine V_sub [1, 2, 3, 4, 5, 6, 7, 0] rfl ?_
      exact s_X7_valueOfSets_106 hRC_X7_valueOfSets hd hq h
  · replace h := (oi h).1 c13
    refine V_iload_n dX7_valueOfSets_30 rfl 3 rfl ?_
    refine V_iconst (v := 3) dX7_valueOfSets_31 (by decide) ?_
    refine V_icmp_eq (tgt := 39) dX7_valueOfSets_32 (by decide) (fun c12 => ?_) (fun c12 => ?_)
    · replace h := (oi h).1 c12
      refine V_iload dX7_valueOfSets_39 5 rfl ?_
      refine V_iload dX7_valueOfSets_41 4 rfl ?_
      refine V_iconst (v := 3) dX7_valueOfSets_43 (by decide) ?_
      refine V_icmp_ne (tgt := 51) dX7_valueOfSets_44 (by decide) (fun c11 => ?_) (fun c11 => ?_)
      · replace h := (oi h).2 c11
        refine V_iconst (v := 0) dX7_valueOfSets_51 (by decide) ?_
        refine V_iadd dX7_valueOfSets_52 ?_
        cases h
        exact V_iret rfl hq dX7_valueOfSets_53
      · replace h := (oi h).1 c11
        refine V_iconst (v := 2) dX7_valueOfSets_47 (by decide) ?_
        refine V_goto (tgt := 52) dX7_valueOfSets_48 (by decide) ?_
        refine V_iadd dX7_valueOfSets_52 ?_
        cases h
        exact V_iret rfl hq dX7_valueOfSets_53
    · replace h := (oi h).2 c12
      refine V_iconst (v := -1) dX7_valueOfSets_35 (by decide) ?_
      refine V_goto (tgt := 53) dX7_valueOfSets_36 (by decide) ?_
      cases h
      exact V_iret rfl hq dX7_valueOfSets_53
def f_X7_valueOfSets_3 (RC_X7_valueOfSets : Nat → Nat → Int32 → Int32 → Int32 → Int32 → zM → Option (Int32 × zM)) (n : Nat) (a0 : Nat) (a1 : Nat) (i2 : Int32) (i3 : Int32) (i4 : Int32) (i5 : Int32) (i6 : Int32) (M : zM) : Option (Int32 × zM) := match n with
  | 0 => none
  | n + 1 =>
    if ((25 : Int32)) ≤ i6 then
    f_X7_valueOfSets_23 RC_X7_valueOfSets a0 a1 i2 i3 i4 i5 i6 M
    else
    (lA 0 M a1 i6).bind fun v1 =>
    if v1 = 0 then
    f_X7_valueOfSets_3 RC_X7_valueOfSets n a0 a1 i2 i3 i4 i5 ((i6 + (1 : Int32))) M
    else
    f_X7_valueOfSets_23 RC_X7_valueOfSets a0 a1 i2 i3 i4 i5 i6 M
set_option maxRecDepth 20000 in
set_option maxHeartbeats 4000000 in
theorem s_X7_valueOfSets_3 {L : zL} {X : zX} {M0 : zM} {N : Nat × Nat} {Q : State → Prop} {r : Int32 × zM} {dd : Nat} {RC_X7_valueOfSets : Nat → Nat → Int32 → Int32 → Int32 → Int32 → zM → Option (Int32 × zM)} {d_X7_valueOfSets : Nat} (hRC_X7_valueOfSets : ∀ (l : Launch) (a0 : Nat) (a1 : Nat) (i2 : Int32) (i3 : Int32) (i4 : Int32) (i5 : Int32) (M : zM) (r : Int32 × zM), RC_X7_valueOfSets a0 a1 i2 i3 i4 i5 M = some r → CP L l yX7_valueOfSets cX7_valueOfSets 9 (some FieldType.int) d_X7_valueOfSets M [.ref (zad L (a0)), .ref (zad L (a1)), .int (i2), .int (i3), .int (i4), .int (i5)] (some (.int r.1)) r.2) (hd : d_X7_valueOfSets + 1 ≤ dd ∧ 4 ≤ dd) (hq : vQ L X M0 N Q (some (.int r.1)) r.2) {n : Nat} {a0 : Nat} {a1 : Nat} {i2 : Int32} {i3 : Int32} {i4 : Int32} {i5 : Int32} {i6 : Int32} {M : zM} : f_X7_valueOfSets_3 RC_X7_valueOfSets n a0 a1 i2 i3 i4 i5 i6 M = some r → V L X yX7_valueOfSets cX7_valueOfSets 9 (some FieldType.int) dd M0 N Q M 3 [(0, .ref (zad L (a0))), (1, .ref (zad L (a1))), (2, .int (i2)), (3, .int (i3)), (4, .int (i4)), (5, .int (i5)), (6, .int (i6))] [] := by
  induction n generalizing a0 a1 i2 i3 i4 i5 i6 M with
  | zero =>
    intro h
    rw [f_X7_valueOfSets_3] at h
    cases h
  | succ n ih0 =>
    intro h
    have ih : ∀ (a0 : Nat) (a1 : Nat) (i2 : Int32) (i3 : Int32) (i4 : Int32) (i5 : Int32) (i6 : Int32) (M : zM), f_X7_valueOfSets_3 RC_X7_valueOfSets n a0 a1 i2 i3 i4 i5 i6 M = some r → V L X yX7_valueOfSets cX7_valueOfSets 9 (some FieldType.int) dd M0 N Q M 3 [(0, .ref (zad L (a0))), (1, .ref (zad L (a1))), (2, .int (i2)), (3, .int (i3)), (4, .int (i4)), (5, .int (i5)), (6, .int (i6))] [] := fun a0 a1 i2 i3 i4 i5 i6 M h => ih0 h
    rw [f_X7_valueOfSets_3] at h
    refine V_iload dX7_valueOfSets_3 6 rfl ?_
    refine V_bipush (v := 25) dX7_valueOfSets_5 (by decide) ?_
    refine V_icmp_ge (tgt := 23) dX7_valueOfSets_7 (by decide) (fun c3 => ?_) (fun c3 => ?_)
    · replace h := (oi h).1 c3
      exact s_X7_valueOfSets_23 hRC_X7_valueOfSets hd hq h
    · replace h := (oi h).2 c3
      refine V_aload_n dX7_valueOfSets_10 rfl 1 rfl ?_
      refine V_iload dX7_valueOfSets_11 6 rfl ?_
      replace h := ob h
      obtain ⟨v1, e_v1, h⟩ := h
      refine V_iald e_v1 dX7_valueOfSets_13 ?_
      refine V_pc (pc' := 14) rfl ?_
      refine V_if_ne (tgt := 23) dX7_valueOfSets_14 (by decide) (fun c2 => ?_) (fun c2 => ?_)
      · replace h := (oi h).2 c2
        exact s_X7_valueOfSets_23 hRC_X7_valueOfSets hd hq h
      · replace h := (oi h).1 c2
        refine V_iinc (v := i6 + (1 : Int32)) (ls' := [(6, .int ((i6 + (1 : Int32)))), (0, .ref (zad L (a0))), (1, .ref (zad L (a1))), (2, .int (i2)), (3, .int (i3)), (4, .int (i4)), (5, .int (i5))]) dX7_valueOfSets_17 6 rfl (by rfl) (by decide) rfl ?_
        refine V_goto (tgt := 3) dX7_valueOfSets_20 (by decide) ?_
        refine V_sub [1, 2, 3, 4, 5, 6, 0] rfl ?_
        exact ih _ _ _ _ _ _ _ _ h
def f_X7_valueOfSets_0 (RC_X7_valueOfSets : Nat → Nat → Int32 → Int32 → Int32 → Int32 → zM → Option (Int32 × zM)) (a0 : Nat) (a1 : Nat) (i2 : Int32) (i3 : Int32) (i4 : Int32) (i5 : Int32) (M : zM) : Option (Int32 × zM) :=
  f_X7_valueOfSets_3 RC_X7_valueOfSets zN a0 a1 i2 i3 i4 i5 ((0 : Int32)) M
set_option maxRecDepth 20000 in
set_option maxHeartbeats 4000000 in
theorem s_X7_valueOfSets_0 {L : zL} {X : zX} {M0 : zM} {N : Nat × Nat} {Q : State → Prop} {r : Int32 × zM} {dd : Nat} {RC_X7_valueOfSets : Nat → Nat → Int32 → Int32 → Int32 → Int32 → zM → Option (Int32 × zM)} {d_X7_valueOfSets : Nat} (hRC_X7_valueOfSets : ∀ (l : Launch) (a0 : Nat) (a1 : Nat) (i2 : Int32) (i3 : Int32) (i4 : Int32) (i5 : Int32) (M : zM) (r : Int32 × zM), RC_X7_valueOfSets a0 a1 i2 i3 i4 i5 M = some r → CP L l yX7_valueOfSets cX7_valueOfSets 9 (some FieldType.int) d_X7_valueOfSets M [.ref (zad L (a0)), .ref (zad L (a1)), .int (i2), .int (i3), .int (i4), .int (i5)] (some (.int r.1)) r.2) (hd : d_X7_valueOfSets + 1 ≤ dd ∧ 4 ≤ dd) (hq : vQ L X M0 N Q (some (.int r.1)) r.2) {a0 : Nat} {a1 : Nat} {i2 : Int32} {i3 : Int32} {i4 : Int32} {i5 : Int32} {M : zM} (h : f_X7_valueOfSets_0 RC_X7_valueOfSets a0 a1 i2 i3 i4 i5 M = some r) : V L X yX7_valueOfSets cX7_valueOfSets 9 (some FieldType.int) dd M0 N Q M 0 [(0, .ref (zad L (a0))), (1, .ref (zad L (a1))), (2, .int (i2)), (3, .int (i3)), (4, .int (i4)), (5, .int (i5))] [] := by
  unfold f_X7_valueOfSets_0 at h
  refine V_iconst (v := 0) dX7_valueOfSets_0 (by decide) ?_
  refine V_istore (ls' := [(6, .int ((0 : Int32))), (0, .ref (zad L (a0))), (1, .ref (zad L (a1))), (2, .int (i2)), (3, .int (i3)), (4, .int (i4)), (5, .int (i5))]) dX7_valueOfSets_1 (by decide) rfl ?_
  refine V_sub [1, 2, 3, 4, 5, 6, 0] rfl ?_
  exact s_X7_valueOfSets_3 hRC_X7_valueOfSets hd hq h
def f_X7_valueOfSets (n : Nat) (a0 : Nat) (a1 : Nat) (i2 : Int32) (i3 : Int32) (i4 : Int32) (i5 : Int32) (M : zM) : Option (Int32 × zM) := match n with
  | 0 => none
  | n + 1 => f_X7_valueOfSets_0 (f_X7_valueOfSets n) a0 a1 i2 i3 i4 i5 M
theorem cr_X7_valueOfSets {L : zL} {l : Launch} {n : Nat} {a0 : Nat} {a1 : Nat} {i2 : Int32} {i3 : Int32} {i4 : Int32} {i5 : Int32} {M : zM} {r : Int32 × zM} : f_X7_valueOfSets n a0 a1 i2 i3 i4 i5 M = some r → CP L l yX7_valueOfSets cX7_valueOfSets 9 (some FieldType.int) (n + 4) M [.ref (zad L (a0)), .ref (zad L (a1)), .int (i2), .int (i3), .int (i4), .int (i5)] (some (.int r.1)) r.2 := by
  induction n generalizing l a0 a1 i2 i3 i4 i5 M r with
  | zero =>
    intro h
    rw [f_X7_valueOfSets] at h
    cases h
  | succ n ih =>
    intro h
    rw [f_X7_valueOfSets] at h
    exact CP.of ⟨by decide +kernel, by decide +kernel⟩ (Nat.le_of_ble_eq_true rfl) fun X Q hq => s_X7_valueOfSets_0 (d_X7_valueOfSets := n + 4) (fun l a0 a1 i2 i3 i4 i5 M r e => ih e) ⟨by omega, by omega⟩ hq h
theorem c_X7_valueOfSets {L : zL} {l : Launch} {a0 : Nat} {a1 : Nat} {i2 : Int32} {i3 : Int32} {i4 : Int32} {i5 : Int32} {M : zM} {r : Int32 × zM} (h : f_X7_valueOfSets zR a0 a1 i2 i3 i4 i5 M = some r) : CP L l yX7_valueOfSets cX7_valueOfSets 9 (some FieldType.int) 68 M [.ref (zad L (a0)), .ref (zad L (a1)), .int (i2), .int (i3), .int (i4), .int (i5)] (some (.int r.1)) r.2 := by
  have q := cr_X7_valueOfSets (L := L) (l := l) (n := zR) h
  have e : zR + 4 = 68 := by decide
  rw [e] at q
  exact q
/-! WindsparlourModel.value(IZ)I -/
theorem dX7_value_0 : decode cX7_value 0 = .ok (.aload_n 0, 1) := by decide +kernel
theorem dX7_value_1 : decode cX7_value 1 = .ok (.getfield 38, 3) := by decide +kernel
theorem dX7_value_4 : decode cX7_value 4 = .ok (.iload_n 1, 1) := by decide +kernel
theorem dX7_value_5 : decode cX7_value 5 = .ok (.aaload, 1) := by decide +kernel
theorem dX7_value_6 : decode cX7_value 6 = .ok (.astore_n 3, 1) := by decide +kernel
theorem dX7_value_7 : decode cX7_value 7 = .ok (.iconst 0, 1) := by decide +kernel
theorem dX7_value_8 : decode cX7_value 8 = .ok (.istore 4, 2) := by decide +kernel
theorem dX7_value_10 : decode cX7_value 10 = .ok (.iconst 0, 1) := by decide +kernel
theorem dX7_value_11 : decode cX7_value 11 = .ok (.istore 5, 2) := by decide +kernel
theorem dX7_value_13 : decode cX7_value 13 = .ok (.aload_n 3, 1) := by decide +kernel
theorem dX7_value_14 : decode cX7_value 14 = .ok (.getfield 183, 3) := by decide +kernel
theorem dX7_value_17 : decode cX7_value 17 = .ok (.invokevirtual 197, 3) := by decide +kernel
theorem dX7_value_20 : decode cX7_value 20 = .ok (.astore 6, 2) := by decide +kernel
theorem dX7_value_22 : decode cX7_value 22 = .ok (.aload 6, 2) := by decide +kernel
theorem dX7_value_24 : decode cX7_value 24 = .ok (.invokeinterface 201 1, 5) := by decide +kernel
theorem dX7_value_29 : decode cX7_value 29 = .ok (.ifCond .eq 45, 3) := by decide +kernel
theorem dX7_value_32 : decode cX7_value 32 = .ok (.aload 6, 2) := by decide +kernel
theorem dX7_value_34 : decode cX7_value 34 = .ok (.invokeinterface 206 1, 5) := by decide +kernel
theorem dX7_value_39 : decode cX7_value 39 = .ok (.checkcast 186, 3) := by decide +kernel
theorem dX7_value_42 : decode cX7_value 42 = .ok (.astore 7, 2) := by decide +kernel
theorem dX7_value_44 : decode cX7_value 44 = .ok (.aload 7, 2) := by decide +kernel
theorem dX7_value_46 : decode cX7_value 46 = .ok (.getfield 238, 3) := by decide +kernel
theorem dX7_value_49 : decode cX7_value 49 = .ok (.iconst 1, 1) := by decide +kernel
theorem dX7_value_50 : decode cX7_value 50 = .ok (.if_icmp .eq 21, 3) := by decide +kernel
theorem dX7_value_53 : decode cX7_value 53 = .ok (.iinc 4 1, 3) := by decide +kernel
theorem dX7_value_56 : decode cX7_value 56 = .ok (.iload 5, 2) := by decide +kernel
theorem dX7_value_58 : decode cX7_value 58 = .ok (.aload_n 0, 1) := by decide +kernel
theorem dX7_value_59 : decode cX7_value 59 = .ok (.aload 7, 2) := by decide +kernel
theorem dX7_value_61 : decode cX7_value 61 = .ok (.getfield 241, 3) := by decide +kernel
theorem dX7_value_64 : decode cX7_value 64 = .ok (.iload_n 1, 1) := by decide +kernel
theorem dX7_value_65 : decode cX7_value 65 = .ok (.invokevirtual 229, 3) := by decide +kernel
theorem dX7_value_68 : decode cX7_value 68 = .ok (.iadd, 1) := by decide +kernel
theorem dX7_value_69 : decode cX7_value 69 = .ok (.istore 5, 2) := by decide +kernel
theorem dX7_value_71 : decode cX7_value 71 = .ok (.goto (-49), 3) := by decide +kernel
theorem dX7_value_74 : decode cX7_value 74 = .ok (.iconst (-1), 1) := by decide +kernel
theorem dX7_value_75 : decode cX7_value 75 = .ok (.istore 6, 2) := by decide +kernel
theorem dX7_value_77 : decode cX7_value 77 = .ok (.iconst 0, 1) := by decide +kernel
theorem dX7_value_78 : decode cX7_value 78 = .ok (.istore 7, 2) := by decide +kernel
theorem dX7_value_80 : decode cX7_value 80 = .ok (.iload 7, 2) := by decide +kernel
theorem dX7_value_82 : decode cX7_value 82 = .ok (.bipush 25, 2) := by decide +kernel
theorem dX7_value_84 : decode cX7_value 84 = .ok (.if_icmp .ge 69, 3) := by decide +kernel
theorem dX7_value_87 : decode cX7_value 87 = .ok (.aload_n 3, 1) := by decide +kernel
theorem dX7_value_88 : decode cX7_value 88 = .ok (.getfield 94, 3) := by decide +kernel
theorem dX7_value_91 : decode cX7_value 91 = .ok (.iload 7, 2) := by decide +kernel
theorem dX7_value_93 : decode cX7_value 93 = .ok (.iaload, 1) := by decide +kernel
theorem dX7_value_94 : decode cX7_value 94 = .ok (.iconst 2, 1) := by decide +kernel
theorem dX7_value_95 : decode cX7_value 95 = .ok (.if_icmp .lt 52, 3) := by decide +kernel
theorem dX7_value_98 : decode cX7_value 98 = .ok (.aload_n 3, 1) := by decide +kernel
theorem dX7_value_99 : decode cX7_value 99 = .ok (.getfield 94, 3) := by decide +kernel
theorem dX7_value_102 : decode cX7_value 102 = .ok (.iload 7, 2) := by decide +kernel
theorem dX7_value_104 : decode cX7_value 104 = .ok (.dup2, 1) := by decide +kernel
theorem dX7_value_105 : decode cX7_value 105 = .ok (.iaload, 1) := by decide +kernel
theorem dX7_value_106 : decode cX7_value 106 = .ok (.iconst 2, 1) := by decide +kernel
theorem dX7_value_107 : decode cX7_value 107 = .ok (.isub, 1) := by decide +kernel
theorem dX7_value_108 : decode cX7_value 108 = .ok (.iastore, 1) := by decide +kernel
theorem dX7_value_109 : decode cX7_value 109 = .ok (.iload 6, 2) := by decide +kernel
theorem dX7_value_111 : decode cX7_value 111 = .ok (.aload_n 0, 1) := by decide +kernel
theorem dX7_value_112 : decode cX7_value 112 = .ok (.aload_n 3, 1) := by decide +kernel
theorem dX7_value_113 : decode cX7_value 113 = .ok (.getfield 94, 3) := by decide +kernel
theorem dX7_value_116 : decode cX7_value 116 = .ok (.iload_n 1, 1) := by decide +kernel
theorem dX7_value_117 : decode cX7_value 117 = .ok (.aload_n 3, 1) := by decide +kernel
theorem dX7_value_118 : decode cX7_value 118 = .ok (.getfield 183, 3) := by decide +kernel
theorem dX7_value_121 : decode cX7_value 121 = .ok (.invokevirtual 144, 3) := by decide +kernel
theorem dX7_value_124 : decode cX7_value 124 = .ok (.iload 4, 2) := by decide +kernel
theorem dX7_value_126 : decode cX7_value 126 = .ok (.iload 5, 2) := by decide +kernel
theorem dX7_value_128 : decode cX7_value 128 = .ok (.invokevirtual 232, 3) := by decide +kernel
theorem dX7_value_131 : decode cX7_value 131 = .ok (.invokestatic 235, 3) := by decide +kernel
theorem dX7_value_134 : decode cX7_value 134 = .ok (.istore 6, 2) := by decide +kernel
theorem dX7_value_136 : decode cX7_value 136 = .ok (.aload_n 3, 1) := by decide +kernel
theorem dX7_value_137 : decode cX7_value 137 = .ok (.getfield 94, 3) := by decide +kernel
theorem dX7_value_140 : decode cX7_value 140 = .ok (.iload 7, 2) := by decide +kernel
theorem dX7_value_142 : decode cX7_value 142 = .ok (.dup2, 1) := by decide +kernel
theorem dX7_value_143 : decode cX7_value 143 = .ok (.iaload, 1) := by decide +kernel
theorem dX7_value_144 : decode cX7_value 144 = .ok (.iconst 2, 1) := by decide +kernel
theorem dX7_value_145 : decode cX7_value 145 = .ok (.iadd, 1) := by decide +kernel
theorem dX7_value_146 : decode cX7_value 146 = .ok (.iastore, 1) := by decide +kernel
theorem dX7_value_147 : decode cX7_value 147 = .ok (.iinc 7 1, 3) := by decide +kernel
theorem dX7_value_150 : decode cX7_value 150 = .ok (.goto (-70), 3) := by decide +kernel
theorem dX7_value_153 : decode cX7_value 153 = .ok (.bipush 12, 2) := by decide +kernel
theorem dX7_value_155 : decode cX7_value 155 = .ok (.iload 6, 2) := by decide +kernel
theorem dX7_value_157 : decode cX7_value 157 = .ok (.aload_n 0, 1) := by decide +kernel
theorem dX7_value_158 : decode cX7_value 158 = .ok (.aload_n 3, 1) := by decide +kernel
theorem dX7_value_159 : decode cX7_value 159 = .ok (.iload_n 2, 1) := by decide +kernel
theorem dX7_value_160 : decode cX7_value 160 = .ok (.invokevirtual 244, 3) := by decide +kernel
theorem dX7_value_163 : decode cX7_value 163 = .ok (.iadd, 1) := by decide +kernel
theorem dX7_value_164 : decode cX7_value 164 = .ok (.invokestatic 11, 3) := by decide +kernel
theorem dX7_value_167 : decode cX7_value 167 = .ok (.ireturn, 1) := by decide +kernel
def f_X7_value_0 (a0 : Nat) (i1 : Int32) (i2 : Int32) (M : zM) : Option (Int32 × zM) :=
  (gR 13 1 M a0).bind fun v1 =>
  (lQ 2 M v1 i1).bind fun v2 =>
  (gR 12 3 M v2).bind fun v3 =>
  none
set_option maxRecDepth 20000 in
set_option maxHeartbeats 4000000 in
theorem s_X7_value_0 {L : zL} {X : zX} {M0 : zM} {N : Nat × Nat} {Q : State → Prop} {r : Int32 × zM} (hq : vQ L X M0 N Q (some (.int r.1)) r.2) {a0 : Nat} {i1 : Int32} {i2 : Int32} {M : zM} (h : f_X7_value_0 a0 i1 i2 M = some r) : V L X yX7_value cX7_value 8 (some FieldType.int) 69 M0 N Q M 0 [(0, .ref (zad L (a0))), (1, .int (i1)), (2, .int (i2))] [] := by
  unfold f_X7_value_0 at h
  refine V_aload_n dX7_value_0 rfl 0 rfl ?_
  replace h := ob h
  obtain ⟨v1, e_v1, h⟩ := h
  refine V_getR zf_13_1 zl_X7_38 e_v1 dX7_value_1 ?_
  refine V_pc (pc' := 4) rfl ?_
  refine V_iload_n dX7_value_4 rfl 1 rfl ?_
  replace h := ob h
  obtain ⟨v2, e_v2, h⟩ := h
  refine V_aald (by decide) e_v2 dX7_value_5 ?_
  refine V_pc (pc' := 6) rfl ?_
  refine V_astore_n (ls' := [(3, .ref (zad L (v2))), (0, .ref (zad L (a0))), (1, .int (i1)), (2, .int (i2))]) dX7_value_6 rfl (by decide) rfl ?_
  refine V_iconst (v := 0) dX7_value_7 (by decide) ?_
  refine V_istore (ls' := [(4, .int ((0 : Int32))), (3, .ref (zad L (v2))), (0, .ref (zad L (a0))), (1, .int (i1)), (2, .int (i2))]) dX7_value_8 (by decide) rfl ?_
  refine V_iconst (v := 0) dX7_value_10 (by decide) ?_
  refine V_istore (ls' := [(5, .int ((0 : Int32))), (4, .int ((0 : Int32))), (3, .ref (zad L (v2))), (0, .ref (zad L (a0))), (1, .int (i1)), (2, .int (i2))]) dX7_value_11 (by decide) rfl ?_
  refine V_aload_n dX7_value_13 rfl 2 rfl ?_
  replace h := ob h
  obtain ⟨v3, e_v3, h⟩ := h
  refine V_getR zf_12_3 zl_X7_183 e_v3 dX7_value_14 ?_
  refine V_pc (pc' := 17) rfl ?_
  cases h
def f_X7_value (a0 : Nat) (i1 : Int32) (i2 : Int32) (M : zM) : Option (Int32 × zM) := f_X7_value_0 a0 i1 i2 M
theorem c_X7_value {L : zL} {l : Launch} {a0 : Nat} {i1 : Int32} {i2 : Int32} {M : zM} {r : Int32 × zM} (h : f_X7_value a0 i1 i2 M = some r) : CP L l yX7_value cX7_value 8 (some FieldType.int) 69 M [.ref (zad L (a0)), .int (i1), .int (i2)] (some (.int r.1)) r.2 :=
  CP.of ⟨by decide +kernel, by decide +kernel⟩ (Nat.le_of_ble_eq_true rfl) fun X Q hq => s_X7_value_0 hq h
/-! WindsparlourModel.isBarred(LWindsparlourModel$Player;)Z -/
theorem dX7_isBarred_0 : decode cX7_isBarred 0 = .ok (.aload_n 1, 1) := by decide +kernel
theorem dX7_isBarred_1 : decode cX7_isBarred 1 = .ok (.invokevirtual 248, 3) := by decide +kernel
theorem dX7_isBarred_4 : decode cX7_isBarred 4 = .ok (.aload_n 1, 1) := by decide +kernel
theorem dX7_isBarred_5 : decode cX7_isBarred 5 = .ok (.getfield 140, 3) := by decide +kernel
theorem dX7_isBarred_8 : decode cX7_isBarred 8 = .ok (.land, 1) := by decide +kernel
theorem dX7_isBarred_9 : decode cX7_isBarred 9 = .ok (.lconst 0, 1) := by decide +kernel
theorem dX7_isBarred_10 : decode cX7_isBarred 10 = .ok (.lcmp, 1) := by decide +kernel
theorem dX7_isBarred_11 : decode cX7_isBarred 11 = .ok (.ifCond .eq 7, 3) := by decide +kernel
theorem dX7_isBarred_14 : decode cX7_isBarred 14 = .ok (.iconst 1, 1) := by decide +kernel
theorem dX7_isBarred_15 : decode cX7_isBarred 15 = .ok (.goto 4, 3) := by decide +kernel
theorem dX7_isBarred_18 : decode cX7_isBarred 18 = .ok (.iconst 0, 1) := by decide +kernel
theorem dX7_isBarred_19 : decode cX7_isBarred 19 = .ok (.ireturn, 1) := by decide +kernel
def f_X7_isBarred_0 (a0 : Nat) (a1 : Nat) (M : zM) : Option (Int32 × zM) :=
  if mK M a1 = 12 then
  (f_X6_waits a1 M).bind fun r1 =>
  (gJ 12 5 r1.2 a1).bind fun v3 =>
  if ((lg_cmp ((r1.1 &&& v3)) ((0 : Int64)))) = 0 then
  some ((0 : Int32), r1.2)
  else
  some ((1 : Int32), r1.2)
  else none
set_option maxRecDepth 20000 in
set_option maxHeartbeats 4000000 in
theorem s_X7_isBarred_0 {L : zL} {X : zX} {M0 : zM} {N : Nat × Nat} {Q : State → Prop} {r : Int32 × zM} (hq : vQ L X M0 N Q (some (.int r.1)) r.2) {a0 : Nat} {a1 : Nat} {M : zM} (h : f_X7_isBarred_0 a0 a1 M = some r) : V L X yX7_isBarred cX7_isBarred 2 (some FieldType.boolean) 69 M0 N Q M 0 [(0, .ref (zad L (a0))), (1, .ref (zad L (a1)))] [] := by
  unfold f_X7_isBarred_0 at h
  refine V_aload_n dX7_isBarred_0 rfl 1 rfl ?_
  replace h := ox h
  obtain ⟨c2, h⟩ := h
  replace h := ob h
  obtain ⟨r1, e_r1, h⟩ := h
  refine V_callV_J (As := []) (rest := []) (c_X6_waits e_r1) zc_X6_waits rfl (by decide) rfl (by decide) (Or.inl c2) zm_X7_248 (Nat.le_of_ble_eq_true rfl) rfl dX7_isBarred_1 ?_
  refine V_pc (pc' := 4) rfl ?_
  refine V_aload_n dX7_isBarred_4 rfl 1 rfl ?_
  replace h := ob h
  obtain ⟨v3, e_v3, h⟩ := h
  refine V_getJ zf_12_5 zl_X7_140 e_v3 dX7_isBarred_5 ?_
  refine V_pc (pc' := 8) rfl ?_
  refine V_land dX7_isBarred_8 ?_
  refine V_lconst (v := 0) dX7_isBarred_9 (by decide) ?_
  refine V_lcmp dX7_isBarred_10 ?_
  refine V_if_eq (tgt := 18) dX7_isBarred_11 (by decide) (fun c4 => ?_) (fun c4 => ?_)
  · replace h := (oi h).1 c4
    refine V_iconst (v := 0) dX7_isBarred_18 (by decide) ?_
    cases h
    exact V_zret (ty := .boolean) rfl rfl hq dX7_isBarred_19
  · replace h := (oi h).2 c4
    refine V_iconst (v := 1) dX7_isBarred_14 (by decide) ?_
    refine V_goto (tgt := 19) dX7_isBarred_15 (by decide) ?_
    cases h
    exact V_zret (ty := .boolean) rfl rfl hq dX7_isBarred_19
def f_X7_isBarred (a0 : Nat) (a1 : Nat) (M : zM) : Option (Int32 × zM) := f_X7_isBarred_0 a0 a1 M
theorem c_X7_isBarred {L : zL} {l : Launch} {a0 : Nat} {a1 : Nat} {M : zM} {r : Int32 × zM} (h : f_X7_isBarred a0 a1 M = some r) : CP L l yX7_isBarred cX7_isBarred 2 (some FieldType.boolean) 69 M [.ref (zad L (a0)), .ref (zad L (a1))] (some (.int r.1)) r.2 :=
  CP.of ⟨by decide +kernel, by decide +kernel⟩ (Nat.le_of_ble_eq_true rfl) fun X Q hq => s_X7_isBarred_0 hq h
/-! WindsparlourModel.mayWin(I)Z -/
theorem dX7_mayWin_0 : decode cX7_mayWin 0 = .ok (.aload_n 0, 1) := by decide +kernel
theorem dX7_mayWin_1 : decode cX7_mayWin 1 = .ok (.getfield 38, 3) := by decide +kernel
theorem dX7_mayWin_4 : decode cX7_mayWin 4 = .ok (.iload_n 1, 1) := by decide +kernel
theorem dX7_mayWin_5 : decode cX7_mayWin 5 = .ok (.aaload, 1) := by decide +kernel
theorem dX7_mayWin_6 : decode cX7_mayWin 6 = .ok (.astore_n 2, 1) := by decide +kernel
theorem dX7_mayWin_7 : decode cX7_mayWin 7 = .ok (.aload_n 0, 1) := by decide +kernel
theorem dX7_mayWin_8 : decode cX7_mayWin 8 = .ok (.getfield 50, 3) := by decide +kernel
theorem dX7_mayWin_11 : decode cX7_mayWin 11 = .ok (.iconst 1, 1) := by decide +kernel
theorem dX7_mayWin_12 : decode cX7_mayWin 12 = .ok (.if_icmp .ne 42, 3) := by decide +kernel
theorem dX7_mayWin_15 : decode cX7_mayWin 15 = .ok (.iload_n 1, 1) := by decide +kernel
theorem dX7_mayWin_16 : decode cX7_mayWin 16 = .ok (.aload_n 0, 1) := by decide +kernel
theorem dX7_mayWin_17 : decode cX7_mayWin 17 = .ok (.getfield 82, 3) := by decide +kernel
theorem dX7_mayWin_20 : decode cX7_mayWin 20 = .ok (.if_icmp .ne 32, 3) := by decide +kernel
theorem dX7_mayWin_23 : decode cX7_mayWin 23 = .ok (.aload_n 0, 1) := by decide +kernel
theorem dX7_mayWin_24 : decode cX7_mayWin 24 = .ok (.getfield 59, 3) := by decide +kernel
theorem dX7_mayWin_27 : decode cX7_mayWin 27 = .ok (.iconst (-1), 1) := by decide +kernel
theorem dX7_mayWin_28 : decode cX7_mayWin 28 = .ok (.if_icmp .eq 24, 3) := by decide +kernel
theorem dX7_mayWin_31 : decode cX7_mayWin 31 = .ok (.aload_n 2, 1) := by decide +kernel
theorem dX7_mayWin_32 : decode cX7_mayWin 32 = .ok (.getfield 94, 3) := by decide +kernel
theorem dX7_mayWin_35 : decode cX7_mayWin 35 = .ok (.aload_n 2, 1) := by decide +kernel
theorem dX7_mayWin_36 : decode cX7_mayWin 36 = .ok (.getfield 183, 3) := by decide +kernel
theorem dX7_mayWin_39 : decode cX7_mayWin 39 = .ok (.invokevirtual 144, 3) := by decide +kernel
theorem dX7_mayWin_42 : decode cX7_mayWin 42 = .ok (.invokestatic 252, 3) := by decide +kernel
theorem dX7_mayWin_45 : decode cX7_mayWin 45 = .ok (.ifCond .eq 7, 3) := by decide +kernel
theorem dX7_mayWin_48 : decode cX7_mayWin 48 = .ok (.iconst 1, 1) := by decide +kernel
theorem dX7_mayWin_49 : decode cX7_mayWin 49 = .ok (.goto 4, 3) := by decide +kernel
theorem dX7_mayWin_52 : decode cX7_mayWin 52 = .ok (.iconst 0, 1) := by decide +kernel
theorem dX7_mayWin_53 : decode cX7_mayWin 53 = .ok (.ireturn, 1) := by decide +kernel
theorem dX7_mayWin_54 : decode cX7_mayWin 54 = .ok (.aload_n 0, 1) := by decide +kernel
theorem dX7_mayWin_55 : decode cX7_mayWin 55 = .ok (.getfield 50, 3) := by decide +kernel
theorem dX7_mayWin_58 : decode cX7_mayWin 58 = .ok (.iconst 2, 1) := by decide +kernel
theorem dX7_mayWin_59 : decode cX7_mayWin 59 = .ok (.if_icmp .ne 39, 3) := by decide +kernel
theorem dX7_mayWin_62 : decode cX7_mayWin 62 = .ok (.iload_n 1, 1) := by decide +kernel
theorem dX7_mayWin_63 : decode cX7_mayWin 63 = .ok (.aload_n 0, 1) := by decide +kernel
theorem dX7_mayWin_64 : decode cX7_mayWin 64 = .ok (.getfield 82, 3) := by decide +kernel
theorem dX7_mayWin_67 : decode cX7_mayWin 67 = .ok (.if_icmp .eq 31, 3) := by decide +kernel
theorem dX7_mayWin_70 : decode cX7_mayWin 70 = .ok (.aload_n 2, 1) := by decide +kernel
theorem dX7_mayWin_71 : decode cX7_mayWin 71 = .ok (.invokevirtual 248, 3) := by decide +kernel
theorem dX7_mayWin_74 : decode cX7_mayWin 74 = .ok (.aload_n 0, 1) := by decide +kernel
theorem dX7_mayWin_75 : decode cX7_mayWin 75 = .ok (.getfield 62, 3) := by decide +kernel
theorem dX7_mayWin_78 : decode cX7_mayWin 78 = .ok (.lshr, 1) := by decide +kernel
theorem dX7_mayWin_79 : decode cX7_mayWin 79 = .ok (.lconst 1, 1) := by decide +kernel
theorem dX7_mayWin_80 : decode cX7_mayWin 80 = .ok (.land, 1) := by decide +kernel
theorem dX7_mayWin_81 : decode cX7_mayWin 81 = .ok (.lconst 1, 1) := by decide +kernel
theorem dX7_mayWin_82 : decode cX7_mayWin 82 = .ok (.lcmp, 1) := by decide +kernel
theorem dX7_mayWin_83 : decode cX7_mayWin 83 = .ok (.ifCond .ne 15, 3) := by decide +kernel
theorem dX7_mayWin_86 : decode cX7_mayWin 86 = .ok (.aload_n 0, 1) := by decide +kernel
theorem dX7_mayWin_87 : decode cX7_mayWin 87 = .ok (.aload_n 2, 1) := by decide +kernel
theorem dX7_mayWin_88 : decode cX7_mayWin 88 = .ok (.invokevirtual 255, 3) := by decide +kernel
theorem dX7_mayWin_91 : decode cX7_mayWin 91 = .ok (.ifCond .ne 7, 3) := by decide +kernel
theorem dX7_mayWin_94 : decode cX7_mayWin 94 = .ok (.iconst 1, 1) := by decide +kernel
theorem dX7_mayWin_95 : decode cX7_mayWin 95 = .ok (.goto 4, 3) := by decide +kernel
theorem dX7_mayWin_98 : decode cX7_mayWin 98 = .ok (.iconst 0, 1) := by decide +kernel
theorem dX7_mayWin_99 : decode cX7_mayWin 99 = .ok (.ireturn, 1) := by decide +kernel
def f_X7_mayWin_0 (a0 : Nat) (i1 : Int32) (M : zM) : Option (Int32 × zM) :=
  (gR 13 1 M a0).bind fun v1 =>
  (lQ 2 M v1 i1).bind fun v2 =>
  (gI 13 6 M a0).bind fun v3 =>
  if v3 = ((1 : Int32)) then
  (gI 13 7 M a0).bind fun v15 =>
  if i1 = v15 then
  (gI 13 13 M a0).bind fun v16 =>
  if v16 = ((-1 : Int32)) then
  some ((0 : Int32), M)
  else
  (gR 12 2 M v2).bind fun v17 =>
  (gR 12 3 M v2).bind fun v18 =>
  none
  else
  some ((0 : Int32), M)
  else
  (gI 13 6 M a0).bind fun v4 =>
  if v4 = ((2 : Int32)) then
  (gI 13 7 M a0).bind fun v5 =>
  if i1 = v5 then
  some ((0 : Int32), M)
  else
  if mK M v2 = 12 then
  (f_X6_waits v2 M).bind fun r6 =>
  (gI 13 14 r6.2 a0).bind fun v8 =>
  if ((lg_cmp ((((r6.1 >>> (v8.toInt64 &&& 63))) &&& ((1 : Int64)))) ((1 : Int64)))) = 0 then
  if mK r6.2 a0 = 13 then
  (f_X7_isBarred a0 v2 r6.2).bind fun r9 =>
  if r9.1 = 0 then
  some ((1 : Int32), r9.2)
  else
  some ((0 : Int32), r9.2)
  else none
  else
  some ((0 : Int32), r6.2)
  else none
  else
  some ((0 : Int32), M)
set_option maxRecDepth 20000 in
set_option maxHeartbeats 4000000 in
theorem s_X7_mayWin_0 {L : zL} {X : zX} {M0 : zM} {N : Nat × Nat} {Q : State → Prop} {r : Int32 × zM} (hq : vQ L X M0 N Q (some (.int r.1)) r.2) {a0 : Nat} {i1 : Int32} {M : zM} (h : f_X7_mayWin_0 a0 i1 M = some r) : V L X yX7_mayWin cX7_mayWin 3 (some FieldType.boolean) 70 M0 N Q M 0 [(0, .ref (zad L (a0))), (1, .int (i1))] [] := by
  unfold f_X7_mayWin_0 at h
  refine V_aload_n dX7_mayWin_0 rfl 0 rfl ?_
  replace h := ob h
  obtain ⟨v1, e_v1, h⟩ := h
  refine V_getR zf_13_1 zl_X7_38 e_v1 dX7_mayWin_1 ?_
  refine V_pc (pc' := 4) rfl ?_
  refine V_iload_n dX7_mayWin_4 rfl 1 rfl ?_
  replace h := ob h
  obtain ⟨v2, e_v2, h⟩ := h
  refine V_aald (by decide) e_v2 dX7_mayWin_5 ?_
  refine V_pc (pc' := 6) rfl ?_
  refine V_astore_n (ls' := [(2, .ref (zad L (v2))), (0, .ref (zad L (a0))), (1, .int (i1))]) dX7_mayWin_6 rfl (by decide) rfl ?_
  refine V_aload_n dX7_mayWin_7 rfl 1 rfl ?_
  replace h := ob h
  obtain ⟨v3, e_v3, h⟩ := h
  refine V_getI zf_13_6 zl_X7_50 e_v3 dX7_mayWin_8 ?_
  refine V_pc (pc' := 11) rfl ?_
  refine V_iconst (v := 1) dX7_mayWin_11 (by decide) ?_
  refine V_icmp_ne (tgt := 54) dX7_mayWin_12 (by decide) (fun c21 => ?_) (fun c21 => ?_)
  · replace h := (oi h).2 c21
    refine V_aload_n dX7_mayWin_54 rfl 1 rfl ?_
    replace h := ob h
    obtain ⟨v4, e_v4, h⟩ := h
    refine V_getI zf_13_6 zl_X7_50 e_v4 dX7_mayWin_55 ?_
    refine V_pc (pc' := 58) rfl ?_
    refine V_iconst (v := 2) dX7_mayWin_58 (by decide) ?_
    refine V_icmp_ne (tgt := 98) dX7_mayWin_59 (by decide) (fun c14 => ?_) (fun c14 => ?_)
    · replace h := (oi h).2 c14
      refine V_iconst (v := 0) dX7_mayWin_98 (by decide) ?_
      cases h
      exact V_zret (ty := .boolean) rfl rfl hq dX7_mayWin_99
    · replace h := (oi h).1 c14
      refine V_iload_n dX7_mayWin_62 rfl 2 rfl ?_
      refine V_aload_n dX7_mayWin_63 rfl 1 rfl ?_
      replace h := ob h
      obtain ⟨v5, e_v5, h⟩ := h
      refine V_getI zf_13_7 zl_X7_82 e_v5 dX7_mayWin_64 ?_
      refine V_pc (pc' := 67) rfl ?_
      refine V_icmp_eq (tgt := 98) dX7_mayWin_67 (by decide) (fun c13 => ?_) (fun c13 => ?_)
      · replace h := (oi h).1 c13
        refine V_iconst (v := 0) dX7_mayWin_98 (by decide) ?_
        cases h
        exact V_zret (ty := .boolean) rfl rfl hq dX7_mayWin_99
      · replace h := (oi h).2 c13
        refine V_aload_n dX7_mayWin_70 rfl 0 rfl ?_
        replace h := ox h
        obtain ⟨c7, h⟩ := h
        replace h := ob h
        obtain ⟨r6, e_r6, h⟩ := h
        refine V_callV_J (As := []) (rest := []) (c_X6_waits e_r6) zc_X6_waits rfl (by decide) rfl (by decide) (Or.inl c7) zm_X7_248 (Nat.le_of_ble_eq_true rfl) rfl dX7_mayWin_71 ?_
        refine V_pc (pc' := 74) rfl ?_
        refine V_aload_n dX7_mayWin_74 rfl 1 rfl ?_
        replace h := ob h
        obtain ⟨v8, e_v8, h⟩ := h
        refine V_getI zf_13_14 zl_X7_62 e_v8 dX7_mayWin_75 ?_
        refine V_pc (pc' := 78) rfl ?_
        refine V_lshr dX7_mayWin_78 ?_
        refine V_lconst (v := 1) dX7_mayWin_79 (by decide) ?_
        refine V_land dX7_mayWin_80 ?_
        refine V_lconst (v := 1) dX7_mayWin_81 (by decide) ?_
        refine V_lcmp dX7_mayWin_82 ?_
        refine V_if_ne (tgt := 98) dX7_mayWin_83 (by decide) (fun c12 => ?_) (fun c12 => ?_)
        · replace h := (oi h).2 c12
          refine V_iconst (v := 0) dX7_mayWin_98 (by decide) ?_
          cases h
          exact V_zret (ty := .boolean) rfl rfl hq dX7_mayWin_99
        · replace h := (oi h).1 c12
          refine V_aload_n dX7_mayWin_86 rfl 1 rfl ?_
          refine V_aload_n dX7_mayWin_87 rfl 0 rfl ?_
          replace h := ox h
          obtain ⟨c10, h⟩ := h
          replace h := ob h
          obtain ⟨r9, e_r9, h⟩ := h
          refine V_callV_I (As := [.ref (zad L (v2))]) (rest := []) (c_X7_isBarred e_r9) zc_X7_isBarred rfl (by decide) rfl (by decide) (Or.inl c10) zm_X7_255 (Nat.le_of_ble_eq_true rfl) rfl dX7_mayWin_88 ?_
          refine V_pc (pc' := 91) rfl ?_
          refine V_if_ne (tgt := 98) dX7_mayWin_91 (by decide) (fun c11 => ?_) (fun c11 => ?_)
          · replace h := (oi h).2 c11
            refine V_iconst (v := 0) dX7_mayWin_98 (by decide) ?_
            cases h
            exact V_zret (ty := .boolean) rfl rfl hq dX7_mayWin_99
          · replace h := (oi h).1 c11
            refine V_iconst (v := 1) dX7_mayWin_94 (by decide) ?_
            refine V_goto (tgt := 99) dX7_mayWin_95 (by decide) ?_
            cases h
            exact V_zret (ty := .boolean) rfl rfl hq dX7_mayWin_99
  · replace h := (oi h).1 c21
    refine V_iload_n dX7_mayWin_15 rfl 2 rfl ?_
    refine V_aload_n dX7_mayWin_16 rfl 1 rfl ?_
    replace h := ob h
    obtain ⟨v15, e_v15, h⟩ := h
    refine V_getI zf_13_7 zl_X7_82 e_v15 dX7_mayWin_17 ?_
    refine V_pc (pc' := 20) rfl ?_
    refine V_icmp_ne (tgt := 52) dX7_mayWin_20 (by decide) (fun c20 => ?_) (fun c20 => ?_)
    · replace h := (oi h).2 c20
      refine V_iconst (v := 0) dX7_mayWin_52 (by decide) ?_
      cases h
      exact V_zret (ty := .boolean) rfl rfl hq dX7_mayWin_53
    · replace h := (oi h).1 c20
      refine V_aload_n dX7_mayWin_23 rfl 1 rfl ?_
      replace h := ob h
      obtain ⟨v16, e_v16, h⟩ := h
      refine V_getI zf_13_13 zl_X7_59 e_v16 dX7_mayWin_24 ?_
      refine V_pc (pc' := 27) rfl ?_
      refine V_iconst (v := -1) dX7_mayWin_27 (by decide) ?_
      refine V_icmp_eq (tgt := 52) dX7_mayWin_28 (by decide) (fun c19 => ?_) (fun c19 => ?_)
      · replace h := (oi h).1 c19
        refine V_iconst (v := 0) dX7_mayWin_52 (by decide) ?_
        cases h
        exact V_zret (ty := .boolean) rfl rfl hq dX7_mayWin_53
      · replace h := (oi h).2 c19
        refine V_aload_n dX7_mayWin_31 rfl 0 rfl ?_
        replace h := ob h
        obtain ⟨v17, e_v17, h⟩ := h
        refine V_getR zf_12_2 zl_X7_94 e_v17 dX7_mayWin_32 ?_
        refine V_pc (pc' := 35) rfl ?_
        refine V_aload_n dX7_mayWin_35 rfl 0 rfl ?_
        replace h := ob h
        obtain ⟨v18, e_v18, h⟩ := h
        refine V_getR zf_12_3 zl_X7_183 e_v18 dX7_mayWin_36 ?_
        refine V_pc (pc' := 39) rfl ?_
        cases h
def f_X7_mayWin (a0 : Nat) (i1 : Int32) (M : zM) : Option (Int32 × zM) := f_X7_mayWin_0 a0 i1 M
theorem c_X7_mayWin {L : zL} {l : Launch} {a0 : Nat} {i1 : Int32} {M : zM} {r : Int32 × zM} (h : f_X7_mayWin a0 i1 M = some r) : CP L l yX7_mayWin cX7_mayWin 3 (some FieldType.boolean) 70 M [.ref (zad L (a0)), .int (i1)] (some (.int r.1)) r.2 :=
  CP.of ⟨by decide +kernel, by decide +kernel⟩ (Nat.le_of_ble_eq_true rfl) fun X Q hq => s_X7_mayWin_0 hq h
/-! WindsparlourModel.win(I)I -/
theorem dX7_win_0 : decode cX7_win 0 = .ok (.aload_n 0, 1) := by decide +kernel
theorem dX7_win_1 : decode cX7_win 1 = .ok (.iload_n 1, 1) := by decide +kernel
theorem dX7_win_2 : decode cX7_win 2 = .ok (.invokestatic 174, 3) := by decide +kernel
theorem dX7_win_5 : decode cX7_win 5 = .ok (.iconst 1, 1) := by decide +kernel
theorem dX7_win_6 : decode cX7_win 6 = .ok (.invokevirtual 85, 3) := by decide +kernel
theorem dX7_win_9 : decode cX7_win 9 = .ok (.ifCond .ne 24, 3) := by decide +kernel
theorem dX7_win_12 : decode cX7_win 12 = .ok (.aload_n 0, 1) := by decide +kernel
theorem dX7_win_13 : decode cX7_win 13 = .ok (.aload_n 0, 1) := by decide +kernel
theorem dX7_win_14 : decode cX7_win 14 = .ok (.iload_n 1, 1) := by decide +kernel
theorem dX7_win_15 : decode cX7_win 15 = .ok (.invokevirtual 259, 3) := by decide +kernel
theorem dX7_win_18 : decode cX7_win 18 = .ok (.ifCond .ne 7, 3) := by decide +kernel
theorem dX7_win_21 : decode cX7_win 21 = .ok (.iconst 1, 1) := by decide +kernel
theorem dX7_win_22 : decode cX7_win 22 = .ok (.goto 4, 3) := by decide +kernel
theorem dX7_win_25 : decode cX7_win 25 = .ok (.iconst 0, 1) := by decide +kernel
theorem dX7_win_26 : decode cX7_win 26 = .ok (.iconst 2, 1) := by decide +kernel
theorem dX7_win_27 : decode cX7_win 27 = .ok (.invokevirtual 68, 3) := by decide +kernel
theorem dX7_win_30 : decode cX7_win 30 = .ok (.ifCond .eq 5, 3) := by decide +kernel
theorem dX7_win_33 : decode cX7_win 33 = .ok (.iconst 0, 1) := by decide +kernel
theorem dX7_win_34 : decode cX7_win 34 = .ok (.ireturn, 1) := by decide +kernel
theorem dX7_win_35 : decode cX7_win 35 = .ok (.aload_n 0, 1) := by decide +kernel
theorem dX7_win_36 : decode cX7_win 36 = .ok (.getfield 38, 3) := by decide +kernel
theorem dX7_win_39 : decode cX7_win 39 = .ok (.iload_n 1, 1) := by decide +kernel
theorem dX7_win_40 : decode cX7_win 40 = .ok (.aaload, 1) := by decide +kernel
theorem dX7_win_41 : decode cX7_win 41 = .ok (.astore_n 2, 1) := by decide +kernel
theorem dX7_win_42 : decode cX7_win 42 = .ok (.aload_n 0, 1) := by decide +kernel
theorem dX7_win_43 : decode cX7_win 43 = .ok (.getfield 50, 3) := by decide +kernel
theorem dX7_win_46 : decode cX7_win 46 = .ok (.iconst 1, 1) := by decide +kernel
theorem dX7_win_47 : decode cX7_win 47 = .ok (.if_icmp .ne 7, 3) := by decide +kernel
theorem dX7_win_50 : decode cX7_win 50 = .ok (.iconst 1, 1) := by decide +kernel
theorem dX7_win_51 : decode cX7_win 51 = .ok (.goto 4, 3) := by decide +kernel
theorem dX7_win_54 : decode cX7_win 54 = .ok (.iconst 0, 1) := by decide +kernel
theorem dX7_win_55 : decode cX7_win 55 = .ok (.istore_n 3, 1) := by decide +kernel
theorem dX7_win_56 : decode cX7_win 56 = .ok (.iload_n 3, 1) := by decide +kernel
theorem dX7_win_57 : decode cX7_win 57 = .ok (.ifCond .ne 20, 3) := by decide +kernel
theorem dX7_win_60 : decode cX7_win 60 = .ok (.aload_n 0, 1) := by decide +kernel
theorem dX7_win_61 : decode cX7_win 61 = .ok (.invokevirtual 180, 3) := by decide +kernel
theorem dX7_win_64 : decode cX7_win 64 = .ok (.aload_n 2, 1) := by decide +kernel
theorem dX7_win_65 : decode cX7_win 65 = .ok (.getfield 94, 3) := by decide +kernel
theorem dX7_win_68 : decode cX7_win 68 = .ok (.aload_n 0, 1) := by decide +kernel
theorem dX7_win_69 : decode cX7_win 69 = .ok (.getfield 62, 3) := by decide +kernel
theorem dX7_win_72 : decode cX7_win 72 = .ok (.dup2, 1) := by decide +kernel
theorem dX7_win_73 : decode cX7_win 73 = .ok (.iaload, 1) := by decide +kernel
theorem dX7_win_74 : decode cX7_win 74 = .ok (.iconst 1, 1) := by decide +kernel
theorem dX7_win_75 : decode cX7_win 75 = .ok (.iadd, 1) := by decide +kernel
theorem dX7_win_76 : decode cX7_win 76 = .ok (.iastore, 1) := by decide +kernel
theorem dX7_win_77 : decode cX7_win 77 = .ok (.aload_n 0, 1) := by decide +kernel
theorem dX7_win_78 : decode cX7_win 78 = .ok (.iload_n 1, 1) := by decide +kernel
theorem dX7_win_79 : decode cX7_win 79 = .ok (.iload_n 3, 1) := by decide +kernel
theorem dX7_win_80 : decode cX7_win 80 = .ok (.invokevirtual 262, 3) := by decide +kernel
theorem dX7_win_83 : decode cX7_win 83 = .ok (.istore 4, 2) := by decide +kernel
theorem dX7_win_85 : decode cX7_win 85 = .ok (.iconst 0, 1) := by decide +kernel
theorem dX7_win_86 : decode cX7_win 86 = .ok (.istore 5, 2) := by decide +kernel
theorem dX7_win_88 : decode cX7_win 88 = .ok (.iload 5, 2) := by decide +kernel
theorem dX7_win_90 : decode cX7_win 90 = .ok (.iconst 4, 1) := by decide +kernel
theorem dX7_win_91 : decode cX7_win 91 = .ok (.if_icmp .ge 78, 3) := by decide +kernel
theorem dX7_win_94 : decode cX7_win 94 = .ok (.iload 5, 2) := by decide +kernel
theorem dX7_win_96 : decode cX7_win 96 = .ok (.iload_n 1, 1) := by decide +kernel
theorem dX7_win_97 : decode cX7_win 97 = .ok (.if_icmp .ne 7, 3) := by decide +kernel
theorem dX7_win_100 : decode cX7_win 100 = .ok (.iconst 0, 1) := by decide +kernel
theorem dX7_win_101 : decode cX7_win 101 = .ok (.goto 32, 3) := by decide +kernel
theorem dX7_win_104 : decode cX7_win 104 = .ok (.iload_n 3, 1) := by decide +kernel
theorem dX7_win_105 : decode cX7_win 105 = .ok (.ifCond .eq 10, 3) := by decide +kernel
theorem dX7_win_108 : decode cX7_win 108 = .ok (.iconst 4, 1) := by decide +kernel
theorem dX7_win_109 : decode cX7_win 109 = .ok (.iload 4, 2) := by decide +kernel
theorem dX7_win_111 : decode cX7_win 111 = .ok (.imul, 1) := by decide +kernel
theorem dX7_win_112 : decode cX7_win 112 = .ok (.goto 21, 3) := by decide +kernel
theorem dX7_win_115 : decode cX7_win 115 = .ok (.iload 5, 2) := by decide +kernel
theorem dX7_win_117 : decode cX7_win 117 = .ok (.aload_n 0, 1) := by decide +kernel
theorem dX7_win_118 : decode cX7_win 118 = .ok (.getfield 82, 3) := by decide +kernel
theorem dX7_win_121 : decode cX7_win 121 = .ok (.if_icmp .ne 11, 3) := by decide +kernel
theorem dX7_win_124 : decode cX7_win 124 = .ok (.bipush 12, 2) := by decide +kernel
theorem dX7_win_126 : decode cX7_win 126 = .ok (.iload 4, 2) := by decide +kernel
theorem dX7_win_128 : decode cX7_win 128 = .ok (.imul, 1) := by decide +kernel
theorem dX7_win_129 : decode cX7_win 129 = .ok (.goto 4, 3) := by decide +kernel
theorem dX7_win_132 : decode cX7_win 132 = .ok (.iconst 0, 1) := by decide +kernel
theorem dX7_win_133 : decode cX7_win 133 = .ok (.istore 6, 2) := by decide +kernel
theorem dX7_win_135 : decode cX7_win 135 = .ok (.aload_n 0, 1) := by decide +kernel
theorem dX7_win_136 : decode cX7_win 136 = .ok (.getfield 38, 3) := by decide +kernel
theorem dX7_win_139 : decode cX7_win 139 = .ok (.iload 5, 2) := by decide +kernel
theorem dX7_win_141 : decode cX7_win 141 = .ok (.aaload, 1) := by decide +kernel
theorem dX7_win_142 : decode cX7_win 142 = .ok (.dup, 1) := by decide +kernel
theorem dX7_win_143 : decode cX7_win 143 = .ok (.getfield 112, 3) := by decide +kernel
theorem dX7_win_146 : decode cX7_win 146 = .ok (.iload 6, 2) := by decide +kernel
theorem dX7_win_148 : decode cX7_win 148 = .ok (.isub, 1) := by decide +kernel
theorem dX7_win_149 : decode cX7_win 149 = .ok (.putfield 112, 3) := by decide +kernel
theorem dX7_win_152 : decode cX7_win 152 = .ok (.aload_n 2, 1) := by decide +kernel
theorem dX7_win_153 : decode cX7_win 153 = .ok (.dup, 1) := by decide +kernel
theorem dX7_win_154 : decode cX7_win 154 = .ok (.getfield 112, 3) := by decide +kernel
theorem dX7_win_157 : decode cX7_win 157 = .ok (.iload 6, 2) := by decide +kernel
theorem dX7_win_159 : decode cX7_win 159 = .ok (.iadd, 1) := by decide +kernel
theorem dX7_win_160 : decode cX7_win 160 = .ok (.putfield 112, 3) := by decide +kernel
theorem dX7_win_163 : decode cX7_win 163 = .ok (.iinc 5 1, 3) := by decide +kernel
theorem dX7_win_166 : decode cX7_win 166 = .ok (.goto (-78), 3) := by decide +kernel
theorem dX7_win_169 : decode cX7_win 169 = .ok (.aload_n 2, 1) := by decide +kernel
theorem dX7_win_170 : decode cX7_win 170 = .ok (.dup, 1) := by decide +kernel
theorem dX7_win_171 : decode cX7_win 171 = .ok (.getfield 112, 3) := by decide +kernel
theorem dX7_win_174 : decode cX7_win 174 = .ok (.aload_n 0, 1) := by decide +kernel
theorem dX7_win_175 : decode cX7_win 175 = .ok (.getfield 164, 3) := by decide +kernel
theorem dX7_win_178 : decode cX7_win 178 = .ok (.iadd, 1) := by decide +kernel
theorem dX7_win_179 : decode cX7_win 179 = .ok (.putfield 112, 3) := by decide +kernel
theorem dX7_win_182 : decode cX7_win 182 = .ok (.aload_n 0, 1) := by decide +kernel
theorem dX7_win_183 : decode cX7_win 183 = .ok (.iconst 0, 1) := by decide +kernel
theorem dX7_win_184 : decode cX7_win 184 = .ok (.putfield 164, 3) := by decide +kernel
theorem dX7_win_187 : decode cX7_win 187 = .ok (.aload_n 2, 1) := by decide +kernel
theorem dX7_win_188 : decode cX7_win 188 = .ok (.dup, 1) := by decide +kernel
theorem dX7_win_189 : decode cX7_win 189 = .ok (.getfield 266, 3) := by decide +kernel
theorem dX7_win_192 : decode cX7_win 192 = .ok (.iconst 1, 1) := by decide +kernel
theorem dX7_win_193 : decode cX7_win 193 = .ok (.iadd, 1) := by decide +kernel
theorem dX7_win_194 : decode cX7_win 194 = .ok (.putfield 266, 3) := by decide +kernel
theorem dX7_win_197 : decode cX7_win 197 = .ok (.aload_n 0, 1) := by decide +kernel
theorem dX7_win_198 : decode cX7_win 198 = .ok (.iload_n 1, 1) := by decide +kernel
theorem dX7_win_199 : decode cX7_win 199 = .ok (.putfield 56, 3) := by decide +kernel
theorem dX7_win_202 : decode cX7_win 202 = .ok (.aload_n 0, 1) := by decide +kernel
theorem dX7_win_203 : decode cX7_win 203 = .ok (.iconst 3, 1) := by decide +kernel
theorem dX7_win_204 : decode cX7_win 204 = .ok (.putfield 50, 3) := by decide +kernel
theorem dX7_win_207 : decode cX7_win 207 = .ok (.iload 4, 2) := by decide +kernel
theorem dX7_win_209 : decode cX7_win 209 = .ok (.ireturn, 1) := by decide +kernel
def f_X7_win_133 (K88 : Nat → Int32 → Nat → Int32 → Int32 → Int32 → zM → Option (Int32 × zM)) (a0 : Nat) (i1 : Int32) (a2 : Nat) (i3 : Int32) (i4 : Int32) (i5 : Int32) (i_0 : Int32) (M : zM) : Option (Int32 × zM) :=
  (gR 13 1 M a0).bind fun v1 =>
  (lQ 2 M v1 i5).bind fun v2 =>
  (gI 12 0 M v2).bind fun v3 =>
  (pI 12 0 M v2 ((v3 - i_0))).bind fun M4 =>
  (gI 12 0 M4 a2).bind fun v5 =>
  (pI 12 0 M4 a2 ((v5 + i_0))).bind fun M6 =>
  K88 a0 i1 a2 i3 i4 ((i5 + (1 : Int32))) M6
set_option maxRecDepth 20000 in
set_option maxHeartbeats 4000000 in
theorem s_X7_win_133 {L : zL} {X : zX} {M0 : zM} {N : Nat × Nat} {Q : State → Prop} {r : Int32 × zM} {K88 : Nat → Int32 → Nat → Int32 → Int32 → Int32 → zM → Option (Int32 × zM)} (hK88 : ∀ (a0 : Nat) (i1 : Int32) (a2 : Nat) (i3 : Int32) (i4 : Int32) (i5 : Int32) (M : zM), K88 a0 i1 a2 i3 i4 i5 M = some r → V L X yX7_win cX7_win 7 (some FieldType.int) 71 M0 N Q M 88 [(0, .ref (zad L (a0))), (1, .int (i1)), (2, .ref (zad L (a2))), (3, .int (i3)), (4, .int (i4)), (5, .int (i5))] []) (hq : vQ L X M0 N Q (some (.int r.1)) r.2) {a0 : Nat} {i1 : Int32} {a2 : Nat} {i3 : Int32} {i4 : Int32} {i5 : Int32} {i_0 : Int32} {M : zM} (h : f_X7_win_133 K88 a0 i1 a2 i3 i4 i5 i_0 M = some r) : V L X yX7_win cX7_win 7 (some FieldType.int) 71 M0 N Q M 133 [(0, .ref (zad L (a0))), (1, .int (i1)), (2, .ref (zad L (a2))), (3, .int (i3)), (4, .int (i4)), (5, .int (i5))] [.int (i_0)] := by
  unfold f_X7_win_133 at h
  refine V_istore (ls' := [(6, .int (i_0)), (0, .ref (zad L (a0))), (1, .int (i1)), (2, .ref (zad L (a2))), (3, .int (i3)), (4, .int (i4)), (5, .int (i5))]) dX7_win_133 (by decide) rfl ?_
  refine V_aload_n dX7_win_135 rfl 1 rfl ?_
  replace h := ob h
  obtain ⟨v1, e_v1, h⟩ := h
  refine V_getR zf_13_1 zl_X7_38 e_v1 dX7_win_136 ?_
  refine V_pc (pc' := 139) rfl ?_
  refine V_iload dX7_win_139 6 rfl ?_
  replace h := ob h
  obtain ⟨v2, e_v2, h⟩ := h
  refine V_aald (by decide) e_v2 dX7_win_141 ?_
  refine V_pc (pc' := 142) rfl ?_
  refine V_dup dX7_win_142 rfl ?_
  replace h := ob h
  obtain ⟨v3, e_v3, h⟩ := h
  refine V_getI zf_12_0 zl_X7_112 e_v3 dX7_win_143 ?_
  refine V_pc (pc' := 146) rfl ?_
  refine V_iload dX7_win_146 0 rfl ?_
  refine V_isub dX7_win_148 ?_
  replace h := ob h
  obtain ⟨M4, e_M4, h⟩ := h
  refine V_putI zf_12_0 zl_X7_112 (Or.inl rfl) rfl e_M4 dX7_win_149 ?_
  refine V_pc (pc' := 152) rfl ?_
  refine V_aload_n dX7_win_152 rfl 3 rfl ?_
  refine V_dup dX7_win_153 rfl ?_
  replace h := ob h
  obtain ⟨v5, e_v5, h⟩ := h
  refine V_getI zf_12_0 zl_X7_112 e_v5 dX7_win_154 ?_
  refine V_pc (pc' := 157) rfl ?_
  refine V_iload dX7_win_157 0 rfl ?_
  refine V_iadd dX7_win_159 ?_
  replace h := ob h
  obtain ⟨M6, e_M6, h⟩ := h
  refine V_putI zf_12_0 zl_X7_112 (Or.inl rfl) rfl e_M6 dX7_win_160 ?_
  refine V_pc (pc' := 163) rfl ?_
  refine V_iinc (v := i5 + (1 : Int32)) (ls' := [(5, .int ((i5 + (1 : Int32)))), (6, .int (i_0)), (0, .ref (zad L (a0))), (1, .int (i1)), (2, .ref (zad L (a2))), (3, .int (i3)), (4, .int (i4))]) dX7_win_163 6 rfl (by rfl) (by decide) rfl ?_
  refine V_goto (tgt := 88) dX7_win_166 (by decide) ?_
  refine V_sub [2, 3, 4, 5, 6, 0] rfl ?_
  exact hK88 _ _ _ _ _ _ _ h
def f_X7_win_88 (n : Nat) (a0 : Nat) (i1 : Int32) (a2 : Nat) (i3 : Int32) (i4 : Int32) (i5 : Int32) (M : zM) : Option (Int32 × zM) := match n with
  | 0 => none
  | n + 1 =>
    if ((4 : Int32)) ≤ i5 then
    (gI 12 0 M a2).bind fun v1 =>
    (gI 13 11 M a0).bind fun v2 =>
    (pI 12 0 M a2 ((v1 + v2))).bind fun M3 =>
    (pI 13 11 M3 a0 ((0 : Int32))).bind fun M4 =>
    (gI 12 1 M4 a2).bind fun v5 =>
    (pI 12 1 M4 a2 ((v5 + ((1 : Int32))))).bind fun M6 =>
    (pI 13 12 M6 a0 i1).bind fun M7 =>
    (pI 13 6 M7 a0 ((3 : Int32))).bind fun M8 =>
    some (i4, M8)
    else
    if i5 = i1 then
    f_X7_win_133 (f_X7_win_88 n) a0 i1 a2 i3 i4 i5 ((0 : Int32)) M
    else
    if i3 = 0 then
    (gI 13 7 M a0).bind fun v9 =>
    if i5 = v9 then
    f_X7_win_133 (f_X7_win_88 n) a0 i1 a2 i3 i4 i5 ((((12 : Int32)) * i4)) M
    else
    f_X7_win_133 (f_X7_win_88 n) a0 i1 a2 i3 i4 i5 ((0 : Int32)) M
    else
    f_X7_win_133 (f_X7_win_88 n) a0 i1 a2 i3 i4 i5 ((((4 : Int32)) * i4)) M
set_option maxRecDepth 20000 in
set_option maxHeartbeats 4000000 in
theorem s_X7_win_88 {L : zL} {X : zX} {M0 : zM} {N : Nat × Nat} {Q : State → Prop} {r : Int32 × zM} (hq : vQ L X M0 N Q (some (.int r.1)) r.2) {n : Nat} {a0 : Nat} {i1 : Int32} {a2 : Nat} {i3 : Int32} {i4 : Int32} {i5 : Int32} {M : zM} : f_X7_win_88 n a0 i1 a2 i3 i4 i5 M = some r → V L X yX7_win cX7_win 7 (some FieldType.int) 71 M0 N Q M 88 [(0, .ref (zad L (a0))), (1, .int (i1)), (2, .ref (zad L (a2))), (3, .int (i3)), (4, .int (i4)), (5, .int (i5))] [] := by
  induction n generalizing a0 i1 a2 i3 i4 i5 M with
  | zero =>
    intro h
    rw [f_X7_win_88] at h
    cases h
  | succ n ih0 =>
    intro h
    have ih : ∀ (a0 : Nat) (i1 : Int32) (a2 : Nat) (i3 : Int32) (i4 : Int32) (i5 : Int32) (M : zM), f_X7_win_88 n a0 i1 a2 i3 i4 i5 M = some r → V L X yX7_win cX7_win 7 (some FieldType.int) 71 M0 N Q M 88 [(0, .ref (zad L (a0))), (1, .int (i1)), (2, .ref (zad L (a2))), (3, .int (i3)), (4, .int (i4)), (5, .int (i5))] [] := fun a0 i1 a2 i3 i4 i5 M h => ih0 h
    rw [f_X7_win_88] at h
    refine V_iload dX7_win_88 5 rfl ?_
    refine V_iconst (v := 4) dX7_win_90 (by decide) ?_
    refine V_icmp_ge (tgt := 169) dX7_win_91 (by decide) (fun c13 => ?_) (fun c13 => ?_)
    · replace h := (oi h).1 c13
      refine V_aload_n dX7_win_169 rfl 2 rfl ?_
      refine V_dup dX7_win_170 rfl ?_
      replace h := ob h
      obtain ⟨v1, e_v1, h⟩ := h
      refine V_getI zf_12_0 zl_X7_112 e_v1 dX7_win_171 ?_
      refine V_pc (pc' := 174) rfl ?_
      refine V_aload_n dX7_win_174 rfl 0 rfl ?_
      replace h := ob h
      obtain ⟨v2, e_v2, h⟩ := h
      refine V_getI zf_13_11 zl_X7_164 e_v2 dX7_win_175 ?_
      refine V_pc (pc' := 178) rfl ?_
      refine V_iadd dX7_win_178 ?_
      replace h := ob h
      obtain ⟨M3, e_M3, h⟩ := h
      refine V_putI zf_12_0 zl_X7_112 (Or.inl rfl) rfl e_M3 dX7_win_179 ?_
      refine V_pc (pc' := 182) rfl ?_
      refine V_aload_n dX7_win_182 rfl 0 rfl ?_
      refine V_iconst (v := 0) dX7_win_183 (by decide) ?_
      replace h := ob h
      obtain ⟨M4, e_M4, h⟩ := h
      refine V_putI zf_13_11 zl_X7_164 (Or.inl rfl) rfl e_M4 dX7_win_184 ?_
      refine V_pc (pc' := 187) rfl ?_
      refine V_aload_n dX7_win_187 rfl 2 rfl ?_
      refine V_dup dX7_win_188 rfl ?_
      replace h := ob h
      obtain ⟨v5, e_v5, h⟩ := h
      refine V_getI zf_12_1 zl_X7_266 e_v5 dX7_win_189 ?_
      refine V_pc (pc' := 192) rfl ?_
      refine V_iconst (v := 1) dX7_win_192 (by decide) ?_
      refine V_iadd dX7_win_193 ?_
      replace h := ob h
      obtain ⟨M6, e_M6, h⟩ := h
      refine V_putI zf_12_1 zl_X7_266 (Or.inl rfl) rfl e_M6 dX7_win_194 ?_
      refine V_pc (pc' := 197) rfl ?_
      refine V_aload_n dX7_win_197 rfl 0 rfl ?_
      refine V_iload_n dX7_win_198 rfl 1 rfl ?_
      replace h := ob h
      obtain ⟨M7, e_M7, h⟩ := h
      refine V_putI zf_13_12 zl_X7_56 (Or.inl rfl) rfl e_M7 dX7_win_199 ?_
      refine V_pc (pc' := 202) rfl ?_
      refine V_aload_n dX7_win_202 rfl 0 rfl ?_
      refine V_iconst (v := 3) dX7_win_203 (by decide) ?_
      replace h := ob h
      obtain ⟨M8, e_M8, h⟩ := h
      refine V_putI zf_13_6 zl_X7_50 (Or.inl rfl) rfl e_M8 dX7_win_204 ?_
      refine V_pc (pc' := 207) rfl ?_
      refine V_iload dX7_win_207 4 rfl ?_
      cases h
      exact V_iret rfl hq dX7_win_209
    · replace h := (oi h).2 c13
      refine V_iload dX7_win_94 5 rfl ?_
      refine V_iload_n dX7_win_96 rfl 1 rfl ?_
      refine V_icmp_ne (tgt := 104) dX7_win_97 (by decide) (fun c12 => ?_) (fun c12 => ?_)
      · replace h := (oi h).2 c12
        refine V_iload_n dX7_win_104 rfl 3 rfl ?_
        refine V_if_eq (tgt := 115) dX7_win_105 (by decide) (fun c11 => ?_) (fun c11 => ?_)
        · replace h := (oi h).1 c11
          refine V_iload dX7_win_115 5 rfl ?_
          refine V_aload_n dX7_win_117 rfl 0 rfl ?_
          replace h := ob h
          obtain ⟨v9, e_v9, h⟩ := h
          refine V_getI zf_13_7 zl_X7_82 e_v9 dX7_win_118 ?_
          refine V_pc (pc' := 121) rfl ?_
          refine V_icmp_ne (tgt := 132) dX7_win_121 (by decide) (fun c10 => ?_) (fun c10 => ?_)
          · replace h := (oi h).2 c10
            refine V_iconst (v := 0) dX7_win_132 (by decide) ?_
            exact s_X7_win_133 ih hq h
          · replace h := (oi h).1 c10
            refine V_bipush (v := 12) dX7_win_124 (by decide) ?_
            refine V_iload dX7_win_126 4 rfl ?_
            refine V_imul dX7_win_128 ?_
            refine V_goto (tgt := 133) dX7_win_129 (by decide) ?_
            exact s_X7_win_133 ih hq h
        · replace h := (oi h).2 c11
          refine V_iconst (v := 4) dX7_win_108 (by decide) ?_
          refine V_iload dX7_win_109 4 rfl ?_
          refine V_imul dX7_win_111 ?_
          refine V_goto (tgt := 133) dX7_win_112 (by decide) ?_
          exact s_X7_win_133 ih hq h
      · replace h := (oi h).1 c12
        refine V_iconst (v := 0) dX7_win_100 (by decide) ?_
        refine V_goto (tgt := 133) dX7_win_101 (by decide) ?_
        exact s_X7_win_133 ih hq h
def f_X7_win_77 (a0 : Nat) (i1 : Int32) (a2 : Nat) (i3 : Int32) (M : zM) : Option (Int32 × zM) :=
  if mK M a0 = 13 then
  (f_X7_value a0 i1 i3 M).bind fun r1 =>
  f_X7_win_88 zN a0 i1 a2 i3 r1.1 ((0 : Int32)) r1.2
  else none
set_option maxRecDepth 20000 in
set_option maxHeartbeats 4000000 in
theorem s_X7_win_77 {L : zL} {X : zX} {M0 : zM} {N : Nat × Nat} {Q : State → Prop} {r : Int32 × zM} (hq : vQ L X M0 N Q (some (.int r.1)) r.2) {a0 : Nat} {i1 : Int32} {a2 : Nat} {i3 : Int32} {M : zM} (h : f_X7_win_77 a0 i1 a2 i3 M = some r) : V L X yX7_win cX7_win 7 (some FieldType.int) 71 M0 N Q M 77 [(0, .ref (zad L (a0))), (1, .int (i1)), (2, .ref (zad L (a2))), (3, .int (i3))] [] := by
  unfold f_X7_win_77 at h
  refine V_aload_n dX7_win_77 rfl 0 rfl ?_
  refine V_iload_n dX7_win_78 rfl 1 rfl ?_
  refine V_iload_n dX7_win_79 rfl 3 rfl ?_
  replace h := ox h
  obtain ⟨c2, h⟩ := h
  replace h := ob h
  obtain ⟨r1, e_r1, h⟩ := h
  refine V_callV_I (As := [.int (i1), .int (i3)]) (rest := []) (c_X7_value e_r1) zc_X7_value rfl (by decide) rfl (by decide) (Or.inl c2) zm_X7_262 (Nat.le_of_ble_eq_true rfl) rfl dX7_win_80 ?_
  refine V_pc (pc' := 83) rfl ?_
  refine V_istore (ls' := [(4, .int (r1.1)), (0, .ref (zad L (a0))), (1, .int (i1)), (2, .ref (zad L (a2))), (3, .int (i3))]) dX7_win_83 (by decide) rfl ?_
  refine V_iconst (v := 0) dX7_win_85 (by decide) ?_
  refine V_istore (ls' := [(5, .int ((0 : Int32))), (4, .int (r1.1)), (0, .ref (zad L (a0))), (1, .int (i1)), (2, .ref (zad L (a2))), (3, .int (i3))]) dX7_win_86 (by decide) rfl ?_
  refine V_sub [2, 3, 4, 5, 1, 0] rfl ?_
  exact s_X7_win_88 hq h
def f_X7_win_55 (a0 : Nat) (i1 : Int32) (a2 : Nat) (i_0 : Int32) (M : zM) : Option (Int32 × zM) :=
  if i_0 = 0 then
  if mK M a0 = 13 then
  (f_X7_leave a0 M).bind fun r1 =>
  (gR 12 2 r1.2 a2).bind fun v3 =>
  (gI 13 14 r1.2 a0).bind fun v4 =>
  (lA 0 r1.2 v3 v4).bind fun v5 =>
  (tA r1.2 v3 v4 ((v5 + ((1 : Int32))))).bind fun M6 =>
  f_X7_win_77 a0 i1 a2 i_0 M6
  else none
  else
  f_X7_win_77 a0 i1 a2 i_0 M
set_option maxRecDepth 20000 in
set_option maxHeartbeats 4000000 in
theorem s_X7_win_55 {L : zL} {X : zX} {M0 : zM} {N : Nat × Nat} {Q : State → Prop} {r : Int32 × zM} (hq : vQ L X M0 N Q (some (.int r.1)) r.2) {a0 : Nat} {i1 : Int32} {a2 : Nat} {i_0 : Int32} {M : zM} (h : f_X7_win_55 a0 i1 a2 i_0 M = some r) : V L X yX7_win cX7_win 7 (some FieldType.int) 71 M0 N Q M 55 [(0, .ref (zad L (a0))), (1, .int (i1)), (2, .ref (zad L (a2)))] [.int (i_0)] := by
  unfold f_X7_win_55 at h
  refine V_istore_n (ls' := [(3, .int (i_0)), (0, .ref (zad L (a0))), (1, .int (i1)), (2, .ref (zad L (a2)))]) dX7_win_55 rfl (by decide) rfl ?_
  refine V_iload_n dX7_win_56 rfl 0 rfl ?_
  refine V_if_ne (tgt := 77) dX7_win_57 (by decide) (fun c7 => ?_) (fun c7 => ?_)
  · replace h := (oi h).2 c7
    refine V_sub [1, 2, 3, 0] rfl ?_
    exact s_X7_win_77 hq h
  · replace h := (oi h).1 c7
    refine V_aload_n dX7_win_60 rfl 1 rfl ?_
    replace h := ox h
    obtain ⟨c2, h⟩ := h
    replace h := ob h
    obtain ⟨r1, e_r1, h⟩ := h
    refine V_callV_V (As := []) (rest := []) (c_X7_leave e_r1) zc_X7_leave rfl (by decide) rfl (by decide) (Or.inl c2) zm_X7_180 (Nat.le_of_ble_eq_true rfl) rfl dX7_win_61 ?_
    refine V_pc (pc' := 64) rfl ?_
    refine V_aload_n dX7_win_64 rfl 3 rfl ?_
    replace h := ob h
    obtain ⟨v3, e_v3, h⟩ := h
    refine V_getR zf_12_2 zl_X7_94 e_v3 dX7_win_65 ?_
    refine V_pc (pc' := 68) rfl ?_
    refine V_aload_n dX7_win_68 rfl 1 rfl ?_
    replace h := ob h
    obtain ⟨v4, e_v4, h⟩ := h
    refine V_getI zf_13_14 zl_X7_62 e_v4 dX7_win_69 ?_
    refine V_pc (pc' := 72) rfl ?_
    refine V_dup2 dX7_win_72 rfl rfl ?_
    replace h := ob h
    obtain ⟨v5, e_v5, h⟩ := h
    refine V_iald e_v5 dX7_win_73 ?_
    refine V_pc (pc' := 74) rfl ?_
    refine V_iconst (v := 1) dX7_win_74 (by decide) ?_
    refine V_iadd dX7_win_75 ?_
    replace h := ob h
    obtain ⟨M6, e_M6, h⟩ := h
    refine V_iast e_M6 dX7_win_76 ?_
    refine V_sub [1, 2, 3, 0] rfl ?_
    exact s_X7_win_77 hq h
def f_X7_win_26 (a0 : Nat) (i1 : Int32) (i_0 : Int32) (a_1 : Nat) (M : zM) : Option (Int32 × zM) :=
  if mK M a_1 = 13 then
  (f_X7_refuse a_1 i_0 ((2 : Int32)) M).bind fun r1 =>
  if r1.1 = 0 then
  (gR 13 1 r1.2 a0).bind fun v3 =>
  (lQ 2 r1.2 v3 i1).bind fun v4 =>
  (gI 13 6 r1.2 a0).bind fun v5 =>
  if v5 = ((1 : Int32)) then
  f_X7_win_55 a0 i1 v4 ((1 : Int32)) r1.2
  else
  f_X7_win_55 a0 i1 v4 ((0 : Int32)) r1.2
  else
  some ((0 : Int32), r1.2)
  else none
set_option maxRecDepth 20000 in
set_option maxHeartbeats 4000000 in
theorem s_X7_win_26 {L : zL} {X : zX} {M0 : zM} {N : Nat × Nat} {Q : State → Prop} {r : Int32 × zM} (hq : vQ L X M0 N Q (some (.int r.1)) r.2) {a0 : Nat} {i1 : Int32} {i_0 : Int32} {a_1 : Nat} {M : zM} (h : f_X7_win_26 a0 i1 i_0 a_1 M = some r) : V L X yX7_win cX7_win 7 (some FieldType.int) 71 M0 N Q M 26 [(0, .ref (zad L (a0))), (1, .int (i1))] [.int (i_0), .ref (zad L (a_1))] := by
  unfold f_X7_win_26 at h
  refine V_iconst (v := 2) dX7_win_26 (by decide) ?_
  replace h := ox h
  obtain ⟨c2, h⟩ := h
  replace h := ob h
  obtain ⟨r1, e_r1, h⟩ := h
  refine V_callV_I (As := [.int (i_0), .int ((2 : Int32))]) (rest := []) (c_X7_refuse e_r1) zc_X7_refuse rfl (by decide) rfl (by decide) (Or.inl c2) zm_X7_68 (Nat.le_of_ble_eq_true rfl) rfl dX7_win_27 ?_
  refine V_pc (pc' := 30) rfl ?_
  refine V_if_eq (tgt := 35) dX7_win_30 (by decide) (fun c7 => ?_) (fun c7 => ?_)
  · replace h := (oi h).1 c7
    refine V_aload_n dX7_win_35 rfl 0 rfl ?_
    replace h := ob h
    obtain ⟨v3, e_v3, h⟩ := h
    refine V_getR zf_13_1 zl_X7_38 e_v3 dX7_win_36 ?_
    refine V_pc (pc' := 39) rfl ?_
    refine V_iload_n dX7_win_39 rfl 1 rfl ?_
    replace h := ob h
    obtain ⟨v4, e_v4, h⟩ := h
    refine V_aald (by decide) e_v4 dX7_win_40 ?_
    refine V_pc (pc' := 41) rfl ?_
    refine V_astore_n (ls' := [(2, .ref (zad L (v4))), (0, .ref (zad L (a0))), (1, .int (i1))]) dX7_win_41 rfl (by decide) rfl ?_
    refine V_aload_n dX7_win_42 rfl 1 rfl ?_
    replace h := ob h
    obtain ⟨v5, e_v5, h⟩ := h
    refine V_getI zf_13_6 zl_X7_50 e_v5 dX7_win_43 ?_
    refine V_pc (pc' := 46) rfl ?_
    refine V_iconst (v := 1) dX7_win_46 (by decide) ?_
    refine V_icmp_ne (tgt := 54) dX7_win_47 (by decide) (fun c6 => ?_) (fun c6 => ?_)
    · replace h := (oi h).2 c6
      refine V_iconst (v := 0) dX7_win_54 (by decide) ?_
      refine V_sub [1, 2, 0] rfl ?_
      exact s_X7_win_55 hq h
    · replace h := (oi h).1 c6
      refine V_iconst (v := 1) dX7_win_50 (by decide) ?_
      refine V_goto (tgt := 55) dX7_win_51 (by decide) ?_
      refine V_sub [1, 2, 0] rfl ?_
      exact s_X7_win_55 hq h
  · replace h := (oi h).2 c7
    refine V_iconst (v := 0) dX7_win_33 (by decide) ?_
    cases h
    exact V_iret rfl hq dX7_win_34
def f_X7_win_0 (a0 : Nat) (i1 : Int32) (M : zM) : Option (Int32 × zM) :=
  (f_X7_isNoPlayer i1 M).bind fun r1 =>
  if mK r1.2 a0 = 13 then
  (f_X7_start a0 r1.1 ((1 : Int32)) r1.2).bind fun r2 =>
  if r2.1 = 0 then
  if mK r2.2 a0 = 13 then
  (f_X7_mayWin a0 i1 r2.2).bind fun r4 =>
  if r4.1 = 0 then
  f_X7_win_26 a0 i1 ((1 : Int32)) a0 r4.2
  else
  f_X7_win_26 a0 i1 ((0 : Int32)) a0 r4.2
  else none
  else
  some ((0 : Int32), r2.2)
  else none
set_option maxRecDepth 20000 in
set_option maxHeartbeats 4000000 in
theorem s_X7_win_0 {L : zL} {X : zX} {M0 : zM} {N : Nat × Nat} {Q : State → Prop} {r : Int32 × zM} (hq : vQ L X M0 N Q (some (.int r.1)) r.2) {a0 : Nat} {i1 : Int32} {M : zM} (h : f_X7_win_0 a0 i1 M = some r) : V L X yX7_win cX7_win 7 (some FieldType.int) 71 M0 N Q M 0 [(0, .ref (zad L (a0))), (1, .int (i1))] [] := by
  unfold f_X7_win_0 at h
  refine V_aload_n dX7_win_0 rfl 0 rfl ?_
  refine V_iload_n dX7_win_1 rfl 1 rfl ?_
  replace h := ob h
  obtain ⟨r1, e_r1, h⟩ := h
  refine V_callS_I (As := [.int (i1)]) (rest := [.ref (zad L (a0))]) (c_X7_isNoPlayer e_r1) zc_X7_isNoPlayer rfl (by decide) zm_X7_174 (Nat.le_of_ble_eq_true rfl) rfl dX7_win_2 ?_
  refine V_pc (pc' := 5) rfl ?_
  refine V_iconst (v := 1) dX7_win_5 (by decide) ?_
  replace h := ox h
  obtain ⟨c3, h⟩ := h
  replace h := ob h
  obtain ⟨r2, e_r2, h⟩ := h
  refine V_callV_I (As := [.int (r1.1), .int ((1 : Int32))]) (rest := []) (c_X7_start e_r2) zc_X7_start rfl (by decide) rfl (by decide) (Or.inl c3) zm_X7_85 (Nat.le_of_ble_eq_true rfl) rfl dX7_win_6 ?_
  refine V_pc (pc' := 9) rfl ?_
  refine V_if_ne (tgt := 33) dX7_win_9 (by decide) (fun c7 => ?_) (fun c7 => ?_)
  · replace h := (oi h).2 c7
    refine V_iconst (v := 0) dX7_win_33 (by decide) ?_
    cases h
    exact V_iret rfl hq dX7_win_34
  · replace h := (oi h).1 c7
    refine V_aload_n dX7_win_12 rfl 0 rfl ?_
    refine V_aload_n dX7_win_13 rfl 0 rfl ?_
    refine V_iload_n dX7_win_14 rfl 1 rfl ?_
    replace h := ox h
    obtain ⟨c5, h⟩ := h
    replace h := ob h
    obtain ⟨r4, e_r4, h⟩ := h
    refine V_callV_I (As := [.int (i1)]) (rest := [.ref (zad L (a0))]) (c_X7_mayWin e_r4) zc_X7_mayWin rfl (by decide) rfl (by decide) (Or.inl c5) zm_X7_259 (Nat.le_of_ble_eq_true rfl) rfl dX7_win_15 ?_
    refine V_pc (pc' := 18) rfl ?_
    refine V_if_ne (tgt := 25) dX7_win_18 (by decide) (fun c6 => ?_) (fun c6 => ?_)
    · replace h := (oi h).2 c6
      refine V_iconst (v := 0) dX7_win_25 (by decide) ?_
      exact s_X7_win_26 hq h
    · replace h := (oi h).1 c6
      refine V_iconst (v := 1) dX7_win_21 (by decide) ?_
      refine V_goto (tgt := 26) dX7_win_22 (by decide) ?_
      exact s_X7_win_26 hq h
def f_X7_win (a0 : Nat) (i1 : Int32) (M : zM) : Option (Int32 × zM) := f_X7_win_0 a0 i1 M
theorem c_X7_win {L : zL} {l : Launch} {a0 : Nat} {i1 : Int32} {M : zM} {r : Int32 × zM} (h : f_X7_win a0 i1 M = some r) : CP L l yX7_win cX7_win 7 (some FieldType.int) 71 M [.ref (zad L (a0)), .int (i1)] (some (.int r.1)) r.2 :=
  CP.of ⟨by decide +kernel, by decide +kernel⟩ (Nat.le_of_ble_eq_true rfl) fun X Q hq => s_X7_win_0 hq h
/-! WindsparlourModel.has(II)I -/
theorem dX7_has_0 : decode cX7_has 0 = .ok (.aload_n 0, 1) := by decide +kernel
theorem dX7_has_1 : decode cX7_has 1 = .ok (.iload_n 1, 1) := by decide +kernel
theorem dX7_has_2 : decode cX7_has 2 = .ok (.invokestatic 174, 3) := by decide +kernel
theorem dX7_has_5 : decode cX7_has 5 = .ok (.iconst 1, 1) := by decide +kernel
theorem dX7_has_6 : decode cX7_has 6 = .ok (.invokevirtual 85, 3) := by decide +kernel
theorem dX7_has_9 : decode cX7_has 9 = .ok (.ifCond .ne 23, 3) := by decide +kernel
theorem dX7_has_12 : decode cX7_has 12 = .ok (.aload_n 0, 1) := by decide +kernel
theorem dX7_has_13 : decode cX7_has 13 = .ok (.iload_n 2, 1) := by decide +kernel
theorem dX7_has_14 : decode cX7_has 14 = .ok (.invokestatic 147, 3) := by decide +kernel
theorem dX7_has_17 : decode cX7_has 17 = .ok (.ifCond .ne 7, 3) := by decide +kernel
theorem dX7_has_20 : decode cX7_has 20 = .ok (.iconst 1, 1) := by decide +kernel
theorem dX7_has_21 : decode cX7_has 21 = .ok (.goto 4, 3) := by decide +kernel
theorem dX7_has_24 : decode cX7_has 24 = .ok (.iconst 0, 1) := by decide +kernel
theorem dX7_has_25 : decode cX7_has 25 = .ok (.iconst 2, 1) := by decide +kernel
theorem dX7_has_26 : decode cX7_has 26 = .ok (.invokevirtual 68, 3) := by decide +kernel
theorem dX7_has_29 : decode cX7_has 29 = .ok (.ifCond .eq 7, 3) := by decide +kernel
theorem dX7_has_32 : decode cX7_has 32 = .ok (.iconst 0, 1) := by decide +kernel
theorem dX7_has_33 : decode cX7_has 33 = .ok (.goto 14, 3) := by decide +kernel
theorem dX7_has_36 : decode cX7_has 36 = .ok (.aload_n 0, 1) := by decide +kernel
theorem dX7_has_37 : decode cX7_has 37 = .ok (.getfield 38, 3) := by decide +kernel
theorem dX7_has_40 : decode cX7_has 40 = .ok (.iload_n 1, 1) := by decide +kernel
theorem dX7_has_41 : decode cX7_has 41 = .ok (.aaload, 1) := by decide +kernel
theorem dX7_has_42 : decode cX7_has 42 = .ok (.getfield 94, 3) := by decide +kernel
theorem dX7_has_45 : decode cX7_has 45 = .ok (.iload_n 2, 1) := by decide +kernel
theorem dX7_has_46 : decode cX7_has 46 = .ok (.iaload, 1) := by decide +kernel
theorem dX7_has_47 : decode cX7_has 47 = .ok (.ireturn, 1) := by decide +kernel
def f_X7_has_25 (a0 : Nat) (i1 : Int32) (i2 : Int32) (i_0 : Int32) (a_1 : Nat) (M : zM) : Option (Int32 × zM) :=
  if mK M a_1 = 13 then
  (f_X7_refuse a_1 i_0 ((2 : Int32)) M).bind fun r1 =>
  if r1.1 = 0 then
  (gR 13 1 r1.2 a0).bind fun v3 =>
  (lQ 2 r1.2 v3 i1).bind fun v4 =>
  (gR 12 2 r1.2 v4).bind fun v5 =>
  (lA 0 r1.2 v5 i2).bind fun v6 =>
  some (v6, r1.2)
  else
  some ((0 : Int32), r1.2)
  else none
set_option maxRecDepth 20000 in
set_option maxHeartbeats 4000000 in
theorem s_X7_has_25 {L : zL} {X : zX} {M0 : zM} {N : Nat × Nat} {Q : State → Prop} {r : Int32 × zM} (hq : vQ L X M0 N Q (some (.int r.1)) r.2) {a0 : Nat} {i1 : Int32} {i2 : Int32} {i_0 : Int32} {a_1 : Nat} {M : zM} (h : f_X7_has_25 a0 i1 i2 i_0 a_1 M = some r) : V L X yX7_has cX7_has 3 (some FieldType.int) 3 M0 N Q M 25 [(0, .ref (zad L (a0))), (1, .int (i1)), (2, .int (i2))] [.int (i_0), .ref (zad L (a_1))] := by
  unfold f_X7_has_25 at h
  refine V_iconst (v := 2) dX7_has_25 (by decide) ?_
  replace h := ox h
  obtain ⟨c2, h⟩ := h
  replace h := ob h
  obtain ⟨r1, e_r1, h⟩ := h
  refine V_callV_I (As := [.int (i_0), .int ((2 : Int32))]) (rest := []) (c_X7_refuse e_r1) zc_X7_refuse rfl (by decide) rfl (by decide) (Or.inl c2) zm_X7_68 (Nat.le_of_ble_eq_true rfl) rfl dX7_has_26 ?_
  refine V_pc (pc' := 29) rfl ?_
  refine V_if_eq (tgt := 36) dX7_has_29 (by decide) (fun c7 => ?_) (fun c7 => ?_)
  · replace h := (oi h).1 c7
    refine V_aload_n dX7_has_36 rfl 0 rfl ?_
    replace h := ob h
    obtain ⟨v3, e_v3, h⟩ := h
    refine V_getR zf_13_1 zl_X7_38 e_v3 dX7_has_37 ?_
    refine V_pc (pc' := 40) rfl ?_
    refine V_iload_n dX7_has_40 rfl 1 rfl ?_
    replace h := ob h
    obtain ⟨v4, e_v4, h⟩ := h
    refine V_aald (by decide) e_v4 dX7_has_41 ?_
    refine V_pc (pc' := 42) rfl ?_
    replace h := ob h
    obtain ⟨v5, e_v5, h⟩ := h
    refine V_getR zf_12_2 zl_X7_94 e_v5 dX7_has_42 ?_
    refine V_pc (pc' := 45) rfl ?_
    refine V_iload_n dX7_has_45 rfl 2 rfl ?_
    replace h := ob h
    obtain ⟨v6, e_v6, h⟩ := h
    refine V_iald e_v6 dX7_has_46 ?_
    refine V_pc (pc' := 47) rfl ?_
    cases h
    exact V_iret rfl hq dX7_has_47
  · replace h := (oi h).2 c7
    refine V_iconst (v := 0) dX7_has_32 (by decide) ?_
    refine V_goto (tgt := 47) dX7_has_33 (by decide) ?_
    cases h
    exact V_iret rfl hq dX7_has_47
def f_X7_has_0 (a0 : Nat) (i1 : Int32) (i2 : Int32) (M : zM) : Option (Int32 × zM) :=
  (f_X7_isNoPlayer i1 M).bind fun r1 =>
  if mK r1.2 a0 = 13 then
  (f_X7_start a0 r1.1 ((1 : Int32)) r1.2).bind fun r2 =>
  if r2.1 = 0 then
  (f_X7_isKind i2 r2.2).bind fun r4 =>
  if r4.1 = 0 then
  f_X7_has_25 a0 i1 i2 ((1 : Int32)) a0 r4.2
  else
  f_X7_has_25 a0 i1 i2 ((0 : Int32)) a0 r4.2
  else
  some ((0 : Int32), r2.2)
  else none
set_option maxRecDepth 20000 in
set_option maxHeartbeats 4000000 in
theorem s_X7_has_0 {L : zL} {X : zX} {M0 : zM} {N : Nat × Nat} {Q : State → Prop} {r : Int32 × zM} (hq : vQ L X M0 N Q (some (.int r.1)) r.2) {a0 : Nat} {i1 : Int32} {i2 : Int32} {M : zM} (h : f_X7_has_0 a0 i1 i2 M = some r) : V L X yX7_has cX7_has 3 (some FieldType.int) 3 M0 N Q M 0 [(0, .ref (zad L (a0))), (1, .int (i1)), (2, .int (i2))] [] := by
  unfold f_X7_has_0 at h
  refine V_aload_n dX7_has_0 rfl 0 rfl ?_
  refine V_iload_n dX7_has_1 rfl 1 rfl ?_
  replace h := ob h
  obtain ⟨r1, e_r1, h⟩ := h
  refine V_callS_I (As := [.int (i1)]) (rest := [.ref (zad L (a0))]) (c_X7_isNoPlayer e_r1) zc_X7_isNoPlayer rfl (by decide) zm_X7_174 (Nat.le_of_ble_eq_true rfl) rfl dX7_has_2 ?_
  refine V_pc (pc' := 5) rfl ?_
  refine V_iconst (v := 1) dX7_has_5 (by decide) ?_
  replace h := ox h
  obtain ⟨c3, h⟩ := h
  replace h := ob h
  obtain ⟨r2, e_r2, h⟩ := h
  refine V_callV_I (As := [.int (r1.1), .int ((1 : Int32))]) (rest := []) (c_X7_start e_r2) zc_X7_start rfl (by decide) rfl (by decide) (Or.inl c3) zm_X7_85 (Nat.le_of_ble_eq_true rfl) rfl dX7_has_6 ?_
  refine V_pc (pc' := 9) rfl ?_
  refine V_if_ne (tgt := 32) dX7_has_9 (by decide) (fun c6 => ?_) (fun c6 => ?_)
  · replace h := (oi h).2 c6
    refine V_iconst (v := 0) dX7_has_32 (by decide) ?_
    refine V_goto (tgt := 47) dX7_has_33 (by decide) ?_
    cases h
    exact V_iret rfl hq dX7_has_47
  · replace h := (oi h).1 c6
    refine V_aload_n dX7_has_12 rfl 0 rfl ?_
    refine V_iload_n dX7_has_13 rfl 2 rfl ?_
    replace h := ob h
    obtain ⟨r4, e_r4, h⟩ := h
    refine V_callS_I (As := [.int (i2)]) (rest := [.ref (zad L (a0))]) (c_X7_isKind e_r4) zc_X7_isKind rfl (by decide) zm_X7_147 (Nat.le_of_ble_eq_true rfl) rfl dX7_has_14 ?_
    refine V_pc (pc' := 17) rfl ?_
    refine V_if_ne (tgt := 24) dX7_has_17 (by decide) (fun c5 => ?_) (fun c5 => ?_)
    · replace h := (oi h).2 c5
      refine V_iconst (v := 0) dX7_has_24 (by decide) ?_
      exact s_X7_has_25 hq h
    · replace h := (oi h).1 c5
      refine V_iconst (v := 1) dX7_has_20 (by decide) ?_
      refine V_goto (tgt := 25) dX7_has_21 (by decide) ?_
      exact s_X7_has_25 hq h
def f_X7_has (a0 : Nat) (i1 : Int32) (i2 : Int32) (M : zM) : Option (Int32 × zM) := f_X7_has_0 a0 i1 i2 M
theorem c_X7_has {L : zL} {l : Launch} {a0 : Nat} {i1 : Int32} {i2 : Int32} {M : zM} {r : Int32 × zM} (h : f_X7_has a0 i1 i2 M = some r) : CP L l yX7_has cX7_has 3 (some FieldType.int) 3 M [.ref (zad L (a0)), .int (i1), .int (i2)] (some (.int r.1)) r.2 :=
  CP.of ⟨by decide +kernel, by decide +kernel⟩ (Nat.le_of_ble_eq_true rfl) fun X Q hq => s_X7_has_0 hq h
