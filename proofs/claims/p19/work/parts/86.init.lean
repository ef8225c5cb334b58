section INIT
variable {n : Nat} {xs : Nat → Int32} {o : Option Nat}
theorem ir_X0 : f_X0_init 1002 (zi_4 n xs o) = some ((), (zi_14 n xs o)) := by
  unfold f_X0_init f_X0_init_0
  rw [show aA 0 (zi_4 n xs o) (25 : Int32) = some (1003, (zi_5 n xs o)) from e_aA (c := 25) (by decide) 0, Option.bind_some]
  dsimp only
  rw [show pR 6 0 (zi_5 n xs o) 1002 1003 = some (zi_6 n xs o) from e_pR 192 rfl, Option.bind_some]
  rw [show aA 0 (zi_6 n xs o) (4 : Int32) = some (1004, (zi_7 n xs o)) from e_aA (c := 4) (by decide) 0, Option.bind_some]
  dsimp only
  rw [show pR 6 1 (zi_7 n xs o) 1002 1004 = some (zi_8 n xs o) from e_pR 193 rfl, Option.bind_some]
  rw [show aA 0 (zi_8 n xs o) (4 : Int32) = some (1005, (zi_9 n xs o)) from e_aA (c := 4) (by decide) 0, Option.bind_some]
  dsimp only
  rw [show pR 6 2 (zi_9 n xs o) 1002 1005 = some (zi_10 n xs o) from e_pR 194 rfl, Option.bind_some]
  rw [show aA 0 (zi_10 n xs o) (4 : Int32) = some (1006, (zi_11 n xs o)) from e_aA (c := 4) (by decide) 0, Option.bind_some]
  dsimp only
  rw [show pR 6 3 (zi_11 n xs o) 1002 1006 = some (zi_12 n xs o) from e_pR 195 rfl, Option.bind_some]
  rw [show aA 0 (zi_12 n xs o) (4 : Int32) = some (1007, (zi_13 n xs o)) from e_aA (c := 4) (by decide) 0, Option.bind_some]
  dsimp only
  rw [show pR 6 4 (zi_13 n xs o) 1002 1007 = some (zi_14 n xs o) from e_pR 196 rfl, Option.bind_some]
theorem ir_X2 : f_X2_init 1008 (zi_16 n xs o) = some ((), (zi_18 n xs o)) := by
  unfold f_X2_init f_X2_init_0
  rw [show aA 0 (zi_16 n xs o) (25 : Int32) = some (1009, (zi_17 n xs o)) from e_aA (c := 25) (by decide) 0, Option.bind_some]
  dsimp only
  rw [show pR 8 0 (zi_17 n xs o) 1008 1009 = some (zi_18 n xs o) from e_pR 256 rfl, Option.bind_some]
theorem ir_X1_0 : f_X1_init 1010 (zi_33 n xs o) = some ((), (zi_45 n xs o)) := by
  unfold f_X1_init f_X1_init_0
  rw [show aA 0 (zi_33 n xs o) (25 : Int32) = some (1011, (zi_34 n xs o)) from e_aA (c := 25) (by decide) 0, Option.bind_some]
  dsimp only
  rw [show pR 7 0 (zi_34 n xs o) 1010 1011 = some (zi_35 n xs o) from e_pR 224 rfl, Option.bind_some]
  rw [show aA 0 (zi_35 n xs o) (3 : Int32) = some (1012, (zi_36 n xs o)) from e_aA (c := 3) (by decide) 0, Option.bind_some]
  dsimp only
  rw [show pR 7 1 (zi_36 n xs o) 1010 1012 = some (zi_37 n xs o) from e_pR 225 rfl, Option.bind_some]
  rw [show aA 0 (zi_37 n xs o) (64 : Int32) = some (1013, (zi_38 n xs o)) from e_aA (c := 64) (by decide) 0, Option.bind_some]
  dsimp only
  rw [show pR 7 2 (zi_38 n xs o) 1010 1013 = some (zi_39 n xs o) from e_pR 226 rfl, Option.bind_some]
  rw [show pJ 7 3 (zi_39 n xs o) 1010 (0) = some (zi_40 n xs o) from e_pJ 227 rfl, Option.bind_some]
  rw [show pI 7 4 (zi_40 n xs o) 1010 (0) = some (zi_41 n xs o) from e_pI 228 rfl, Option.bind_some]
  rw [show pI 7 5 (zi_41 n xs o) 1010 (0) = some (zi_42 n xs o) from e_pI 229 rfl, Option.bind_some]
  rw [show pZ 7 6 (zi_42 n xs o) 1010 (0) = some (zi_43 n xs o) from e_pZ 230 rfl (Or.inl rfl), Option.bind_some]
  rw [show pI 7 7 (zi_43 n xs o) 1010 (250) = some (zi_44 n xs o) from e_pI 231 rfl, Option.bind_some]
  rw [show pI 7 8 (zi_44 n xs o) 1010 (0) = some (zi_45 n xs o) from e_pI 232 rfl, Option.bind_some]
theorem ir_X1_1 : f_X1_init 1014 (zi_47 n xs o) = some ((), (zi_59 n xs o)) := by
  unfold f_X1_init f_X1_init_0
  rw [show aA 0 (zi_47 n xs o) (25 : Int32) = some (1015, (zi_48 n xs o)) from e_aA (c := 25) (by decide) 0, Option.bind_some]
  dsimp only
  rw [show pR 7 0 (zi_48 n xs o) 1014 1015 = some (zi_49 n xs o) from e_pR 224 rfl, Option.bind_some]
  rw [show aA 0 (zi_49 n xs o) (3 : Int32) = some (1016, (zi_50 n xs o)) from e_aA (c := 3) (by decide) 0, Option.bind_some]
  dsimp only
  rw [show pR 7 1 (zi_50 n xs o) 1014 1016 = some (zi_51 n xs o) from e_pR 225 rfl, Option.bind_some]
  rw [show aA 0 (zi_51 n xs o) (64 : Int32) = some (1017, (zi_52 n xs o)) from e_aA (c := 64) (by decide) 0, Option.bind_some]
  dsimp only
  rw [show pR 7 2 (zi_52 n xs o) 1014 1017 = some (zi_53 n xs o) from e_pR 226 rfl, Option.bind_some]
  rw [show pJ 7 3 (zi_53 n xs o) 1014 (0) = some (zi_54 n xs o) from e_pJ 227 rfl, Option.bind_some]
  rw [show pI 7 4 (zi_54 n xs o) 1014 (0) = some (zi_55 n xs o) from e_pI 228 rfl, Option.bind_some]
  rw [show pI 7 5 (zi_55 n xs o) 1014 (0) = some (zi_56 n xs o) from e_pI 229 rfl, Option.bind_some]
  rw [show pZ 7 6 (zi_56 n xs o) 1014 (0) = some (zi_57 n xs o) from e_pZ 230 rfl (Or.inl rfl), Option.bind_some]
  rw [show pI 7 7 (zi_57 n xs o) 1014 (250) = some (zi_58 n xs o) from e_pI 231 rfl, Option.bind_some]
  rw [show pI 7 8 (zi_58 n xs o) 1014 (0) = some (zi_59 n xs o) from e_pI 232 rfl, Option.bind_some]
theorem ir_X1_2 : f_X1_init 1018 (zi_61 n xs o) = some ((), (zi_73 n xs o)) := by
  unfold f_X1_init f_X1_init_0
  rw [show aA 0 (zi_61 n xs o) (25 : Int32) = some (1019, (zi_62 n xs o)) from e_aA (c := 25) (by decide) 0, Option.bind_some]
  dsimp only
  rw [show pR 7 0 (zi_62 n xs o) 1018 1019 = some (zi_63 n xs o) from e_pR 224 rfl, Option.bind_some]
  rw [show aA 0 (zi_63 n xs o) (3 : Int32) = some (1020, (zi_64 n xs o)) from e_aA (c := 3) (by decide) 0, Option.bind_some]
  dsimp only
  rw [show pR 7 1 (zi_64 n xs o) 1018 1020 = some (zi_65 n xs o) from e_pR 225 rfl, Option.bind_some]
  rw [show aA 0 (zi_65 n xs o) (64 : Int32) = some (1021, (zi_66 n xs o)) from e_aA (c := 64) (by decide) 0, Option.bind_some]
  dsimp only
  rw [show pR 7 2 (zi_66 n xs o) 1018 1021 = some (zi_67 n xs o) from e_pR 226 rfl, Option.bind_some]
  rw [show pJ 7 3 (zi_67 n xs o) 1018 (0) = some (zi_68 n xs o) from e_pJ 227 rfl, Option.bind_some]
  rw [show pI 7 4 (zi_68 n xs o) 1018 (0) = some (zi_69 n xs o) from e_pI 228 rfl, Option.bind_some]
  rw [show pI 7 5 (zi_69 n xs o) 1018 (0) = some (zi_70 n xs o) from e_pI 229 rfl, Option.bind_some]
  rw [show pZ 7 6 (zi_70 n xs o) 1018 (0) = some (zi_71 n xs o) from e_pZ 230 rfl (Or.inl rfl), Option.bind_some]
  rw [show pI 7 7 (zi_71 n xs o) 1018 (250) = some (zi_72 n xs o) from e_pI 231 rfl, Option.bind_some]
  rw [show pI 7 8 (zi_72 n xs o) 1018 (0) = some (zi_73 n xs o) from e_pI 232 rfl, Option.bind_some]
theorem ir_X1_3 : f_X1_init 1022 (zi_75 n xs o) = some ((), (zi_87 n xs o)) := by
  unfold f_X1_init f_X1_init_0
  rw [show aA 0 (zi_75 n xs o) (25 : Int32) = some (1023, (zi_76 n xs o)) from e_aA (c := 25) (by decide) 0, Option.bind_some]
  dsimp only
  rw [show pR 7 0 (zi_76 n xs o) 1022 1023 = some (zi_77 n xs o) from e_pR 224 rfl, Option.bind_some]
  rw [show aA 0 (zi_77 n xs o) (3 : Int32) = some (1024, (zi_78 n xs o)) from e_aA (c := 3) (by decide) 0, Option.bind_some]
  dsimp only
  rw [show pR 7 1 (zi_78 n xs o) 1022 1024 = some (zi_79 n xs o) from e_pR 225 rfl, Option.bind_some]
  rw [show aA 0 (zi_79 n xs o) (64 : Int32) = some (1025, (zi_80 n xs o)) from e_aA (c := 64) (by decide) 0, Option.bind_some]
  dsimp only
  rw [show pR 7 2 (zi_80 n xs o) 1022 1025 = some (zi_81 n xs o) from e_pR 226 rfl, Option.bind_some]
  rw [show pJ 7 3 (zi_81 n xs o) 1022 (0) = some (zi_82 n xs o) from e_pJ 227 rfl, Option.bind_some]
  rw [show pI 7 4 (zi_82 n xs o) 1022 (0) = some (zi_83 n xs o) from e_pI 228 rfl, Option.bind_some]
  rw [show pI 7 5 (zi_83 n xs o) 1022 (0) = some (zi_84 n xs o) from e_pI 229 rfl, Option.bind_some]
  rw [show pZ 7 6 (zi_84 n xs o) 1022 (0) = some (zi_85 n xs o) from e_pZ 230 rfl (Or.inl rfl), Option.bind_some]
  rw [show pI 7 7 (zi_85 n xs o) 1022 (250) = some (zi_86 n xs o) from e_pI 231 rfl, Option.bind_some]
  rw [show pI 7 8 (zi_86 n xs o) 1022 (0) = some (zi_87 n xs o) from e_pI 232 rfl, Option.bind_some]
theorem ir_X3 : f_X3_init 1000 (zi_1 n xs o) = some ((), (zi_88 n xs o)) := by
  unfold f_X3_init f_X3_init_0
  rw [show aQ 1 (zi_1 n xs o) (4 : Int32) = some (1001, (zi_2 n xs o)) from e_aQ1, Option.bind_some]
  dsimp only
  rw [show pR 9 0 (zi_2 n xs o) 1000 1001 = some (zi_3 n xs o) from e_pR 288 rfl, Option.bind_some]
  rw [show f_X0_init (mX (zi_3 n xs o)) (nO (zi_3 n xs o) 6 5) = some ((), (zi_14 n xs o)) from ir_X0, Option.bind_some]
  dsimp only
  rw [show pR 9 1 (zi_14 n xs o) 1000 (mX (zi_3 n xs o)) = some (zi_15 n xs o) from e_pR 289 rfl, Option.bind_some]
  rw [show f_X2_init (mX (zi_15 n xs o)) (nO (zi_15 n xs o) 8 1) = some ((), (zi_18 n xs o)) from ir_X2, Option.bind_some]
  dsimp only
  rw [show pR 9 2 (zi_18 n xs o) 1000 (mX (zi_15 n xs o)) = some (zi_19 n xs o) from e_pR 290 rfl, Option.bind_some]
  rw [show pI 9 3 (zi_19 n xs o) 1000 (1) = some (zi_20 n xs o) from e_pI 291 rfl, Option.bind_some]
  rw [show pI 9 4 (zi_20 n xs o) 1000 (0) = some (zi_21 n xs o) from e_pI 292 rfl, Option.bind_some]
  rw [show pI 9 5 (zi_21 n xs o) 1000 (0) = some (zi_22 n xs o) from e_pI 293 rfl, Option.bind_some]
  rw [show pI 9 6 (zi_22 n xs o) 1000 (0) = some (zi_23 n xs o) from e_pI 294 rfl, Option.bind_some]
  rw [show pI 9 7 (zi_23 n xs o) 1000 (3) = some (zi_24 n xs o) from e_pI 295 rfl, Option.bind_some]
  rw [show pI 9 8 (zi_24 n xs o) 1000 (0) = some (zi_25 n xs o) from e_pI 296 rfl, Option.bind_some]
  rw [show pI 9 9 (zi_25 n xs o) 1000 (-1) = some (zi_26 n xs o) from e_pI 297 rfl, Option.bind_some]
  rw [show pI 9 10 (zi_26 n xs o) 1000 (0) = some (zi_27 n xs o) from e_pI 298 rfl, Option.bind_some]
  rw [show pI 9 11 (zi_27 n xs o) 1000 (0) = some (zi_28 n xs o) from e_pI 299 rfl, Option.bind_some]
  rw [show pI 9 12 (zi_28 n xs o) 1000 (-1) = some (zi_29 n xs o) from e_pI 300 rfl, Option.bind_some]
  rw [show pI 9 13 (zi_29 n xs o) 1000 (-1) = some (zi_30 n xs o) from e_pI 301 rfl, Option.bind_some]
  rw [show pI 9 14 (zi_30 n xs o) 1000 (-1) = some (zi_31 n xs o) from e_pI 302 rfl, Option.bind_some]
  rw [show pZ 9 15 (zi_31 n xs o) 1000 (0) = some (zi_32 n xs o) from e_pZ 303 rfl (Or.inl rfl), Option.bind_some]
  rw [show zN = 125 + 1 + 1 + 1 + 1 + 1 from rfl]
  rw [f_X3_init_101, if_neg (show ¬ (4 : Int32) ≤ (0 : Int32) by decide), show gR 9 0 (zi_32 n xs o) 1000 = some 1001 from e_gR 288 rfl rfl, Option.bind_some, show f_X1_init (mX (zi_32 n xs o)) (nO (zi_32 n xs o) 7 9) = some ((), (zi_45 n xs o)) from ir_X1_0, Option.bind_some]
  dsimp only
  rw [if_pos (show mK (zi_45 n xs o) (mX (zi_32 n xs o)) = 7 from rfl)]
  rw [show tQ 1 (zi_45 n xs o) 1001 (0 : Int32) (some (mX (zi_32 n xs o))) = some (zi_46 n xs o) from e_tQ (i := 0) rfl (by rw [show mL (zi_45 n xs o) 1001 = 4 from rfl]; decide) (by rw [show mL (zi_45 n xs o) 1001 = 4 from rfl]; decide), Option.bind_some, show (0 : Int32) + (1 : Int32) = 1 by decide]
  rw [f_X3_init_101, if_neg (show ¬ (4 : Int32) ≤ (1 : Int32) by decide), show gR 9 0 (zi_46 n xs o) 1000 = some 1001 from e_gR 288 rfl rfl, Option.bind_some, show f_X1_init (mX (zi_46 n xs o)) (nO (zi_46 n xs o) 7 9) = some ((), (zi_59 n xs o)) from ir_X1_1, Option.bind_some]
  dsimp only
  rw [if_pos (show mK (zi_59 n xs o) (mX (zi_46 n xs o)) = 7 from rfl)]
  rw [show tQ 1 (zi_59 n xs o) 1001 (1 : Int32) (some (mX (zi_46 n xs o))) = some (zi_60 n xs o) from e_tQ (i := 1) rfl (by rw [show mL (zi_59 n xs o) 1001 = 4 from rfl]; decide) (by rw [show mL (zi_59 n xs o) 1001 = 4 from rfl]; decide), Option.bind_some, show (1 : Int32) + (1 : Int32) = 2 by decide]
  rw [f_X3_init_101, if_neg (show ¬ (4 : Int32) ≤ (2 : Int32) by decide), show gR 9 0 (zi_60 n xs o) 1000 = some 1001 from e_gR 288 rfl rfl, Option.bind_some, show f_X1_init (mX (zi_60 n xs o)) (nO (zi_60 n xs o) 7 9) = some ((), (zi_73 n xs o)) from ir_X1_2, Option.bind_some]
  dsimp only
  rw [if_pos (show mK (zi_73 n xs o) (mX (zi_60 n xs o)) = 7 from rfl)]
  rw [show tQ 1 (zi_73 n xs o) 1001 (2 : Int32) (some (mX (zi_60 n xs o))) = some (zi_74 n xs o) from e_tQ (i := 2) rfl (by rw [show mL (zi_73 n xs o) 1001 = 4 from rfl]; decide) (by rw [show mL (zi_73 n xs o) 1001 = 4 from rfl]; decide), Option.bind_some, show (2 : Int32) + (1 : Int32) = 3 by decide]
  rw [f_X3_init_101, if_neg (show ¬ (4 : Int32) ≤ (3 : Int32) by decide), show gR 9 0 (zi_74 n xs o) 1000 = some 1001 from e_gR 288 rfl rfl, Option.bind_some, show f_X1_init (mX (zi_74 n xs o)) (nO (zi_74 n xs o) 7 9) = some ((), (zi_87 n xs o)) from ir_X1_3, Option.bind_some]
  dsimp only
  rw [if_pos (show mK (zi_87 n xs o) (mX (zi_74 n xs o)) = 7 from rfl)]
  rw [show tQ 1 (zi_87 n xs o) 1001 (3 : Int32) (some (mX (zi_74 n xs o))) = some (zi_88 n xs o) from e_tQ (i := 3) rfl (by rw [show mL (zi_87 n xs o) 1001 = 4 from rfl]; decide) (by rw [show mL (zi_87 n xs o) 1001 = 4 from rfl]; decide), Option.bind_some, show (3 : Int32) + (1 : Int32) = 4 by decide]
  rw [f_X3_init_101, if_pos (show (4 : Int32) ≤ 4 by decide)]
theorem ir_L1030 : f_Jx4a65c_init_da8c8 1030 (zi_95 n xs o) = some ((), (zi_97 n xs o)) := by
  unfold f_Jx4a65c_init_da8c8 f_Jx4a65c_init_da8c8_0 f_Jxc12de_init_da8c8 f_Jxc12de_init_da8c8_0 f_Jxa1e45_init_da8c8 f_Jxa1e45_init_da8c8_0
  rw [Option.bind_some, show pI 5 0 (zi_95 n xs o) 1030 0 = some (zi_96 n xs o) from e_pI 160 rfl, Option.bind_some, Option.bind_some]
  dsimp only
  rw [show pR 5 1 (zi_96 n xs o) 1030 4 = some (zi_97 n xs o) from e_pR 161 rfl, Option.bind_some]
theorem ir_L1031 : f_Jx4a65c_init_da8c8 1031 (zi_99 n xs o) = some ((), (zi_101 n xs o)) := by
  unfold f_Jx4a65c_init_da8c8 f_Jx4a65c_init_da8c8_0 f_Jxc12de_init_da8c8 f_Jxc12de_init_da8c8_0 f_Jxa1e45_init_da8c8 f_Jxa1e45_init_da8c8_0
  rw [Option.bind_some, show pI 5 0 (zi_99 n xs o) 1031 0 = some (zi_100 n xs o) from e_pI 160 rfl, Option.bind_some, Option.bind_some]
  dsimp only
  rw [show pR 5 1 (zi_100 n xs o) 1031 4 = some (zi_101 n xs o) from e_pR 161 rfl, Option.bind_some]
theorem ir_X6_0 : f_X6_init 1028 (zi_91 n xs o) = some ((), (zi_102 n xs o)) := by
  unfold f_X6_init f_X6_init_0
  rw [show pI 12 0 (zi_91 n xs o) 1028 (250) = some (zi_92 n xs o) from e_pI 384 rfl, Option.bind_some]
  rw [show aA 0 (zi_92 n xs o) (25 : Int32) = some (1029, (zi_93 n xs o)) from e_aA (c := 25) (by decide) 0, Option.bind_some]
  dsimp only
  rw [show pR 12 2 (zi_93 n xs o) 1028 1029 = some (zi_94 n xs o) from e_pR 386 rfl, Option.bind_some]
  rw [show f_Jx4a65c_init_da8c8 (mX (zi_94 n xs o)) (nO (zi_94 n xs o) 5 3) = some ((), (zi_97 n xs o)) from ir_L1030, Option.bind_some]
  dsimp only
  rw [show pR 12 3 (zi_97 n xs o) 1028 (mX (zi_94 n xs o)) = some (zi_98 n xs o) from e_pR 387 rfl, Option.bind_some]
  rw [show f_Jx4a65c_init_da8c8 (mX (zi_98 n xs o)) (nO (zi_98 n xs o) 5 3) = some ((), (zi_101 n xs o)) from ir_L1031, Option.bind_some]
  dsimp only
  rw [show pR 12 4 (zi_101 n xs o) 1028 (mX (zi_98 n xs o)) = some (zi_102 n xs o) from e_pR 388 rfl, Option.bind_some]
theorem ir_L1034 : f_Jx4a65c_init_da8c8 1034 (zi_108 n xs o) = some ((), (zi_110 n xs o)) := by
  unfold f_Jx4a65c_init_da8c8 f_Jx4a65c_init_da8c8_0 f_Jxc12de_init_da8c8 f_Jxc12de_init_da8c8_0 f_Jxa1e45_init_da8c8 f_Jxa1e45_init_da8c8_0
  rw [Option.bind_some, show pI 5 0 (zi_108 n xs o) 1034 0 = some (zi_109 n xs o) from e_pI 160 rfl, Option.bind_some, Option.bind_some]
  dsimp only
  rw [show pR 5 1 (zi_109 n xs o) 1034 4 = some (zi_110 n xs o) from e_pR 161 rfl, Option.bind_some]
theorem ir_L1035 : f_Jx4a65c_init_da8c8 1035 (zi_112 n xs o) = some ((), (zi_114 n xs o)) := by
  unfold f_Jx4a65c_init_da8c8 f_Jx4a65c_init_da8c8_0 f_Jxc12de_init_da8c8 f_Jxc12de_init_da8c8_0 f_Jxa1e45_init_da8c8 f_Jxa1e45_init_da8c8_0
  rw [Option.bind_some, show pI 5 0 (zi_112 n xs o) 1035 0 = some (zi_113 n xs o) from e_pI 160 rfl, Option.bind_some, Option.bind_some]
  dsimp only
  rw [show pR 5 1 (zi_113 n xs o) 1035 4 = some (zi_114 n xs o) from e_pR 161 rfl, Option.bind_some]
theorem ir_X6_1 : f_X6_init 1032 (zi_104 n xs o) = some ((), (zi_115 n xs o)) := by
  unfold f_X6_init f_X6_init_0
  rw [show pI 12 0 (zi_104 n xs o) 1032 (250) = some (zi_105 n xs o) from e_pI 384 rfl, Option.bind_some]
  rw [show aA 0 (zi_105 n xs o) (25 : Int32) = some (1033, (zi_106 n xs o)) from e_aA (c := 25) (by decide) 0, Option.bind_some]
  dsimp only
  rw [show pR 12 2 (zi_106 n xs o) 1032 1033 = some (zi_107 n xs o) from e_pR 386 rfl, Option.bind_some]
  rw [show f_Jx4a65c_init_da8c8 (mX (zi_107 n xs o)) (nO (zi_107 n xs o) 5 3) = some ((), (zi_110 n xs o)) from ir_L1034, Option.bind_some]
  dsimp only
  rw [show pR 12 3 (zi_110 n xs o) 1032 (mX (zi_107 n xs o)) = some (zi_111 n xs o) from e_pR 387 rfl, Option.bind_some]
  rw [show f_Jx4a65c_init_da8c8 (mX (zi_111 n xs o)) (nO (zi_111 n xs o) 5 3) = some ((), (zi_114 n xs o)) from ir_L1035, Option.bind_some]
  dsimp only
  rw [show pR 12 4 (zi_114 n xs o) 1032 (mX (zi_111 n xs o)) = some (zi_115 n xs o) from e_pR 388 rfl, Option.bind_some]
theorem ir_L1038 : f_Jx4a65c_init_da8c8 1038 (zi_121 n xs o) = some ((), (zi_123 n xs o)) := by
  unfold f_Jx4a65c_init_da8c8 f_Jx4a65c_init_da8c8_0 f_Jxc12de_init_da8c8 f_Jxc12de_init_da8c8_0 f_Jxa1e45_init_da8c8 f_Jxa1e45_init_da8c8_0
  rw [Option.bind_some, show pI 5 0 (zi_121 n xs o) 1038 0 = some (zi_122 n xs o) from e_pI 160 rfl, Option.bind_some, Option.bind_some]
  dsimp only
  rw [show pR 5 1 (zi_122 n xs o) 1038 4 = some (zi_123 n xs o) from e_pR 161 rfl, Option.bind_some]
theorem ir_L1039 : f_Jx4a65c_init_da8c8 1039 (zi_125 n xs o) = some ((), (zi_127 n xs o)) := by
  unfold f_Jx4a65c_init_da8c8 f_Jx4a65c_init_da8c8_0 f_Jxc12de_init_da8c8 f_Jxc12de_init_da8c8_0 f_Jxa1e45_init_da8c8 f_Jxa1e45_init_da8c8_0
  rw [Option.bind_some, show pI 5 0 (zi_125 n xs o) 1039 0 = some (zi_126 n xs o) from e_pI 160 rfl, Option.bind_some, Option.bind_some]
  dsimp only
  rw [show pR 5 1 (zi_126 n xs o) 1039 4 = some (zi_127 n xs o) from e_pR 161 rfl, Option.bind_some]
theorem ir_X6_2 : f_X6_init 1036 (zi_117 n xs o) = some ((), (zi_128 n xs o)) := by
  unfold f_X6_init f_X6_init_0
  rw [show pI 12 0 (zi_117 n xs o) 1036 (250) = some (zi_118 n xs o) from e_pI 384 rfl, Option.bind_some]
  rw [show aA 0 (zi_118 n xs o) (25 : Int32) = some (1037, (zi_119 n xs o)) from e_aA (c := 25) (by decide) 0, Option.bind_some]
  dsimp only
  rw [show pR 12 2 (zi_119 n xs o) 1036 1037 = some (zi_120 n xs o) from e_pR 386 rfl, Option.bind_some]
  rw [show f_Jx4a65c_init_da8c8 (mX (zi_120 n xs o)) (nO (zi_120 n xs o) 5 3) = some ((), (zi_123 n xs o)) from ir_L1038, Option.bind_some]
  dsimp only
  rw [show pR 12 3 (zi_123 n xs o) 1036 (mX (zi_120 n xs o)) = some (zi_124 n xs o) from e_pR 387 rfl, Option.bind_some]
  rw [show f_Jx4a65c_init_da8c8 (mX (zi_124 n xs o)) (nO (zi_124 n xs o) 5 3) = some ((), (zi_127 n xs o)) from ir_L1039, Option.bind_some]
  dsimp only
  rw [show pR 12 4 (zi_127 n xs o) 1036 (mX (zi_124 n xs o)) = some (zi_128 n xs o) from e_pR 388 rfl, Option.bind_some]
theorem ir_L1042 : f_Jx4a65c_init_da8c8 1042 (zi_134 n xs o) = some ((), (zi_136 n xs o)) := by
  unfold f_Jx4a65c_init_da8c8 f_Jx4a65c_init_da8c8_0 f_Jxc12de_init_da8c8 f_Jxc12de_init_da8c8_0 f_Jxa1e45_init_da8c8 f_Jxa1e45_init_da8c8_0
  rw [Option.bind_some, show pI 5 0 (zi_134 n xs o) 1042 0 = some (zi_135 n xs o) from e_pI 160 rfl, Option.bind_some, Option.bind_some]
  dsimp only
  rw [show pR 5 1 (zi_135 n xs o) 1042 4 = some (zi_136 n xs o) from e_pR 161 rfl, Option.bind_some]
theorem ir_L1043 : f_Jx4a65c_init_da8c8 1043 (zi_138 n xs o) = some ((), (zi_140 n xs o)) := by
  unfold f_Jx4a65c_init_da8c8 f_Jx4a65c_init_da8c8_0 f_Jxc12de_init_da8c8 f_Jxc12de_init_da8c8_0 f_Jxa1e45_init_da8c8 f_Jxa1e45_init_da8c8_0
  rw [Option.bind_some, show pI 5 0 (zi_138 n xs o) 1043 0 = some (zi_139 n xs o) from e_pI 160 rfl, Option.bind_some, Option.bind_some]
  dsimp only
  rw [show pR 5 1 (zi_139 n xs o) 1043 4 = some (zi_140 n xs o) from e_pR 161 rfl, Option.bind_some]
theorem ir_X6_3 : f_X6_init 1040 (zi_130 n xs o) = some ((), (zi_141 n xs o)) := by
  unfold f_X6_init f_X6_init_0
  rw [show pI 12 0 (zi_130 n xs o) 1040 (250) = some (zi_131 n xs o) from e_pI 384 rfl, Option.bind_some]
  rw [show aA 0 (zi_131 n xs o) (25 : Int32) = some (1041, (zi_132 n xs o)) from e_aA (c := 25) (by decide) 0, Option.bind_some]
  dsimp only
  rw [show pR 12 2 (zi_132 n xs o) 1040 1041 = some (zi_133 n xs o) from e_pR 386 rfl, Option.bind_some]
  rw [show f_Jx4a65c_init_da8c8 (mX (zi_133 n xs o)) (nO (zi_133 n xs o) 5 3) = some ((), (zi_136 n xs o)) from ir_L1042, Option.bind_some]
  dsimp only
  rw [show pR 12 3 (zi_136 n xs o) 1040 (mX (zi_133 n xs o)) = some (zi_137 n xs o) from e_pR 387 rfl, Option.bind_some]
  rw [show f_Jx4a65c_init_da8c8 (mX (zi_137 n xs o)) (nO (zi_137 n xs o) 5 3) = some ((), (zi_140 n xs o)) from ir_L1043, Option.bind_some]
  dsimp only
  rw [show pR 12 4 (zi_140 n xs o) 1040 (mX (zi_137 n xs o)) = some (zi_141 n xs o) from e_pR 388 rfl, Option.bind_some]
theorem ir_X7 : f_X7_init 1026 (zi_89 n xs o) = some ((), (zi_151 n xs o)) := by
  unfold f_X7_init f_X7_init_0
  rw [show aQ 2 (zi_89 n xs o) (4 : Int32) = some (1027, (zi_90 n xs o)) from e_aQ2, Option.bind_some]
  dsimp only
  rw [show f_X6_init (mX (zi_90 n xs o)) (nO (zi_90 n xs o) 12 7) = some ((), (zi_102 n xs o)) from ir_X6_0, Option.bind_some]
  dsimp only
  rw [if_pos (show mK (zi_102 n xs o) (mX (zi_90 n xs o)) = 12 from rfl)]
  rw [show tQ 2 (zi_102 n xs o) 1027 (0 : Int32) (some (mX (zi_90 n xs o))) = some (zi_103 n xs o) from e_tQ (i := 0) rfl (by rw [show mL (zi_102 n xs o) 1027 = 4 from rfl]; decide) (by rw [show mL (zi_102 n xs o) 1027 = 4 from rfl]; decide), Option.bind_some]
  rw [show f_X6_init (mX (zi_103 n xs o)) (nO (zi_103 n xs o) 12 7) = some ((), (zi_115 n xs o)) from ir_X6_1, Option.bind_some]
  dsimp only
  rw [if_pos (show mK (zi_115 n xs o) (mX (zi_103 n xs o)) = 12 from rfl)]
  rw [show tQ 2 (zi_115 n xs o) 1027 (1 : Int32) (some (mX (zi_103 n xs o))) = some (zi_116 n xs o) from e_tQ (i := 1) rfl (by rw [show mL (zi_115 n xs o) 1027 = 4 from rfl]; decide) (by rw [show mL (zi_115 n xs o) 1027 = 4 from rfl]; decide), Option.bind_some]
  rw [show f_X6_init (mX (zi_116 n xs o)) (nO (zi_116 n xs o) 12 7) = some ((), (zi_128 n xs o)) from ir_X6_2, Option.bind_some]
  dsimp only
  rw [if_pos (show mK (zi_128 n xs o) (mX (zi_116 n xs o)) = 12 from rfl)]
  rw [show tQ 2 (zi_128 n xs o) 1027 (2 : Int32) (some (mX (zi_116 n xs o))) = some (zi_129 n xs o) from e_tQ (i := 2) rfl (by rw [show mL (zi_128 n xs o) 1027 = 4 from rfl]; decide) (by rw [show mL (zi_128 n xs o) 1027 = 4 from rfl]; decide), Option.bind_some]
  rw [show f_X6_init (mX (zi_129 n xs o)) (nO (zi_129 n xs o) 12 7) = some ((), (zi_141 n xs o)) from ir_X6_3, Option.bind_some]
  dsimp only
  rw [if_pos (show mK (zi_141 n xs o) (mX (zi_129 n xs o)) = 12 from rfl)]
  rw [show tQ 2 (zi_141 n xs o) 1027 (3 : Int32) (some (mX (zi_129 n xs o))) = some (zi_142 n xs o) from e_tQ (i := 3) rfl (by rw [show mL (zi_141 n xs o) 1027 = 4 from rfl]; decide) (by rw [show mL (zi_141 n xs o) 1027 = 4 from rfl]; decide), Option.bind_some]
  rw [show pR 13 1 (zi_142 n xs o) 1026 1027 = some (zi_143 n xs o) from e_pR 417 rfl, Option.bind_some]
  rw [show aA 0 (zi_143 n xs o) (100 : Int32) = some (1044, (zi_144 n xs o)) from e_aA (c := 100) (by decide) 0, Option.bind_some]
  dsimp only
  rw [show pR 13 2 (zi_144 n xs o) 1026 1044 = some (zi_145 n xs o) from e_pR 418 rfl, Option.bind_some]
  rw [show pI 13 5 (zi_145 n xs o) 1026 (-1) = some (zi_146 n xs o) from e_pI 421 rfl, Option.bind_some]
  rw [show pI 13 6 (zi_146 n xs o) 1026 (3) = some (zi_147 n xs o) from e_pI 422 rfl, Option.bind_some]
  rw [show pI 13 8 (zi_147 n xs o) 1026 (-1) = some (zi_148 n xs o) from e_pI 424 rfl, Option.bind_some]
  rw [show pI 13 12 (zi_148 n xs o) 1026 (-1) = some (zi_149 n xs o) from e_pI 428 rfl, Option.bind_some]
  rw [show pI 13 13 (zi_149 n xs o) 1026 (-1) = some (zi_150 n xs o) from e_pI 429 rfl, Option.bind_some]
  rw [show pI 13 14 (zi_150 n xs o) 1026 (-1) = some (zi_151 n xs o) from e_pI 430 rfl, Option.bind_some]
set_option maxRecDepth 65536 in
theorem ir_law : f_L_law 0 (zM0 n xs o) = f_L_law_27 zNL 0 1000 1026 1045 (nI (4 * 0)) (zi_152 n xs o) := by
  rw [show nI (4 * 0) = (0 : Int32) from rfl]
  unfold f_L_law f_L_law_0
  rw [show f_X3_init (mX (zM0 n xs o)) (nO (zM0 n xs o) 9 16) = some ((), (zi_88 n xs o)) from ir_X3, Option.bind_some]
  dsimp only
  rw [show f_X7_init (mX (zi_88 n xs o)) (nO (zi_88 n xs o) 13 15) = some ((), (zi_151 n xs o)) from ir_X7, Option.bind_some]
  dsimp only
  rw [show f_X4_init (mX (zi_151 n xs o)) (nO (zi_151 n xs o) 10 3) = some ((), (zi_152 n xs o)) from rfl, Option.bind_some, show mX (zM0 n xs o) = 1000 from rfl, show mX (zi_88 n xs o) = 1026 from rfl, show mX (zi_151 n xs o) = 1045 from rfl]
end INIT
