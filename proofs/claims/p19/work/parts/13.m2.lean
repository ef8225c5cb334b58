/-! ===== METHODS, by program ===== -/
/-! Windsparlour.<init>()V -/
theorem dX3_init_0 : decode cX3_init 0 = .ok (.aload_n 0, 1) := by decide +kernel
theorem dX3_init_1 : decode cX3_init 1 = .ok (.invokespecial 1, 3) := by decide +kernel
theorem dX3_init_4 : decode cX3_init 4 = .ok (.aload_n 0, 1) := by decide +kernel
theorem dX3_init_5 : decode cX3_init 5 = .ok (.iconst 4, 1) := by decide +kernel
theorem dX3_init_6 : decode cX3_init 6 = .ok (.anewarray 9, 3) := by decide +kernel
theorem dX3_init_9 : decode cX3_init 9 = .ok (.putfield 11, 3) := by decide +kernel
theorem dX3_init_12 : decode cX3_init 12 = .ok (.aload_n 0, 1) := by decide +kernel
theorem dX3_init_13 : decode cX3_init 13 = .ok (.new 15, 3) := by decide +kernel
theorem dX3_init_16 : decode cX3_init 16 = .ok (.dup, 1) := by decide +kernel
theorem dX3_init_17 : decode cX3_init 17 = .ok (.invokespecial 17, 3) := by decide +kernel
theorem dX3_init_20 : decode cX3_init 20 = .ok (.putfield 18, 3) := by decide +kernel
theorem dX3_init_23 : decode cX3_init 23 = .ok (.aload_n 0, 1) := by decide +kernel
theorem dX3_init_24 : decode cX3_init 24 = .ok (.new 22, 3) := by decide +kernel
theorem dX3_init_27 : decode cX3_init 27 = .ok (.dup, 1) := by decide +kernel
theorem dX3_init_28 : decode cX3_init 28 = .ok (.invokespecial 24, 3) := by decide +kernel
theorem dX3_init_31 : decode cX3_init 31 = .ok (.putfield 25, 3) := by decide +kernel
theorem dX3_init_34 : decode cX3_init 34 = .ok (.aload_n 0, 1) := by decide +kernel
theorem dX3_init_35 : decode cX3_init 35 = .ok (.iconst 1, 1) := by decide +kernel
theorem dX3_init_36 : decode cX3_init 36 = .ok (.putfield 29, 3) := by decide +kernel
theorem dX3_init_39 : decode cX3_init 39 = .ok (.aload_n 0, 1) := by decide +kernel
theorem dX3_init_40 : decode cX3_init 40 = .ok (.iconst 0, 1) := by decide +kernel
theorem dX3_init_41 : decode cX3_init 41 = .ok (.putfield 33, 3) := by decide +kernel
theorem dX3_init_44 : decode cX3_init 44 = .ok (.aload_n 0, 1) := by decide +kernel
theorem dX3_init_45 : decode cX3_init 45 = .ok (.iconst 0, 1) := by decide +kernel
theorem dX3_init_46 : decode cX3_init 46 = .ok (.putfield 36, 3) := by decide +kernel
theorem dX3_init_49 : decode cX3_init 49 = .ok (.aload_n 0, 1) := by decide +kernel
theorem dX3_init_50 : decode cX3_init 50 = .ok (.iconst 0, 1) := by decide +kernel
theorem dX3_init_51 : decode cX3_init 51 = .ok (.putfield 39, 3) := by decide +kernel
theorem dX3_init_54 : decode cX3_init 54 = .ok (.aload_n 0, 1) := by decide +kernel
theorem dX3_init_55 : decode cX3_init 55 = .ok (.iconst 3, 1) := by decide +kernel
theorem dX3_init_56 : decode cX3_init 56 = .ok (.putfield 42, 3) := by decide +kernel
theorem dX3_init_59 : decode cX3_init 59 = .ok (.aload_n 0, 1) := by decide +kernel
theorem dX3_init_60 : decode cX3_init 60 = .ok (.iconst 0, 1) := by decide +kernel
theorem dX3_init_61 : decode cX3_init 61 = .ok (.putfield 45, 3) := by decide +kernel
theorem dX3_init_64 : decode cX3_init 64 = .ok (.aload_n 0, 1) := by decide +kernel
theorem dX3_init_65 : decode cX3_init 65 = .ok (.iconst (-1), 1) := by decide +kernel
theorem dX3_init_66 : decode cX3_init 66 = .ok (.putfield 48, 3) := by decide +kernel
theorem dX3_init_69 : decode cX3_init 69 = .ok (.aload_n 0, 1) := by decide +kernel
theorem dX3_init_70 : decode cX3_init 70 = .ok (.iconst 0, 1) := by decide +kernel
theorem dX3_init_71 : decode cX3_init 71 = .ok (.putfield 51, 3) := by decide +kernel
theorem dX3_init_74 : decode cX3_init 74 = .ok (.aload_n 0, 1) := by decide +kernel
theorem dX3_init_75 : decode cX3_init 75 = .ok (.iconst 0, 1) := by decide +kernel
theorem dX3_init_76 : decode cX3_init 76 = .ok (.putfield 54, 3) := by decide +kernel
theorem dX3_init_79 : decode cX3_init 79 = .ok (.aload_n 0, 1) := by decide +kernel
theorem dX3_init_80 : decode cX3_init 80 = .ok (.iconst (-1), 1) := by decide +kernel
theorem dX3_init_81 : decode cX3_init 81 = .ok (.putfield 57, 3) := by decide +kernel
theorem dX3_init_84 : decode cX3_init 84 = .ok (.aload_n 0, 1) := by decide +kernel
theorem dX3_init_85 : decode cX3_init 85 = .ok (.iconst (-1), 1) := by decide +kernel
theorem dX3_init_86 : decode cX3_init 86 = .ok (.putfield 60, 3) := by decide +kernel
theorem dX3_init_89 : decode cX3_init 89 = .ok (.aload_n 0, 1) := by decide +kernel
theorem dX3_init_90 : decode cX3_init 90 = .ok (.iconst (-1), 1) := by decide +kernel
theorem dX3_init_91 : decode cX3_init 91 = .ok (.putfield 63, 3) := by decide +kernel
theorem dX3_init_94 : decode cX3_init 94 = .ok (.aload_n 0, 1) := by decide +kernel
theorem dX3_init_95 : decode cX3_init 95 = .ok (.iconst 0, 1) := by decide +kernel
theorem dX3_init_96 : decode cX3_init 96 = .ok (.putfield 66, 3) := by decide +kernel
theorem dX3_init_99 : decode cX3_init 99 = .ok (.iconst 0, 1) := by decide +kernel
theorem dX3_init_100 : decode cX3_init 100 = .ok (.istore_n 1, 1) := by decide +kernel
theorem dX3_init_101 : decode cX3_init 101 = .ok (.iload_n 1, 1) := by decide +kernel
theorem dX3_init_102 : decode cX3_init 102 = .ok (.iconst 4, 1) := by decide +kernel
theorem dX3_init_103 : decode cX3_init 103 = .ok (.if_icmp .ge 22, 3) := by decide +kernel
theorem dX3_init_106 : decode cX3_init 106 = .ok (.aload_n 0, 1) := by decide +kernel
theorem dX3_init_107 : decode cX3_init 107 = .ok (.getfield 11, 3) := by decide +kernel
theorem dX3_init_110 : decode cX3_init 110 = .ok (.iload_n 1, 1) := by decide +kernel
theorem dX3_init_111 : decode cX3_init 111 = .ok (.new 9, 3) := by decide +kernel
theorem dX3_init_114 : decode cX3_init 114 = .ok (.dup, 1) := by decide +kernel
theorem dX3_init_115 : decode cX3_init 115 = .ok (.invokespecial 70, 3) := by decide +kernel
theorem dX3_init_118 : decode cX3_init 118 = .ok (.aastore, 1) := by decide +kernel
theorem dX3_init_119 : decode cX3_init 119 = .ok (.iinc 1 1, 3) := by decide +kernel
theorem dX3_init_122 : decode cX3_init 122 = .ok (.goto (-21), 3) := by decide +kernel
theorem dX3_init_125 : decode cX3_init 125 = .ok (.return_, 1) := by decide +kernel
def f_X3_init_101 (n : Nat) (a0 : Nat) (i1 : Int32) (M : zM) : Option (Unit × zM) := match n with
  | 0 => none
  | n + 1 =>
    if ((4 : Int32)) ≤ i1 then
    some ((), M)
    else
    (gR 9 0 M a0).bind fun v1 =>
    (f_X1_init (mX M) (nO M 7 9)).bind fun r2 =>
    if mK r2.2 (mX M) = 7 then
    (tQ 1 r2.2 v1 i1 (some (mX M))).bind fun M3 =>
    f_X3_init_101 n a0 ((i1 + (1 : Int32))) M3
    else none
set_option maxRecDepth 20000 in
set_option maxHeartbeats 4000000 in
theorem s_X3_init_101 {L : zL} {X : zX} {M0 : zM} {N : Nat × Nat} {Q : State → Prop} {r : Unit × zM} (hq : vQ L X M0 N Q none r.2) {n : Nat} {a0 : Nat} {i1 : Int32} {M : zM} : f_X3_init_101 n a0 i1 M = some r → V L X yX3_init cX3_init 2 (none : Option FieldType) 2 M0 N Q M 101 [(0, .ref (zad L (a0))), (1, .int (i1))] [] := by
  induction n generalizing a0 i1 M with
  | zero =>
    intro h
    rw [f_X3_init_101] at h
    cases h
  | succ n ih0 =>
    intro h
    have ih : ∀ (a0 : Nat) (i1 : Int32) (M : zM), f_X3_init_101 n a0 i1 M = some r → V L X yX3_init cX3_init 2 (none : Option FieldType) 2 M0 N Q M 101 [(0, .ref (zad L (a0))), (1, .int (i1))] [] := fun a0 i1 M h => ih0 h
    rw [f_X3_init_101] at h
    refine V_iload_n dX3_init_101 rfl 1 rfl ?_
    refine V_iconst (v := 4) dX3_init_102 (by decide) ?_
    refine V_icmp_ge (tgt := 125) dX3_init_103 (by decide) (fun c5 => ?_) (fun c5 => ?_)
    · replace h := (oi h).1 c5
      obtain rfl := Option.some.inj h
      exact V_vret rfl hq dX3_init_125
    · replace h := (oi h).2 c5
      refine V_aload_n dX3_init_106 rfl 0 rfl ?_
      replace h := ob h
      obtain ⟨v1, e_v1, h⟩ := h
      refine V_getR zf_9_0 zl_X3_11 e_v1 dX3_init_107 ?_
      refine V_pc (pc' := 110) rfl ?_
      refine V_iload_n dX3_init_110 rfl 1 rfl ?_
      refine V_new (by decide) rfl zin7 zty7 zdf7 zn_X3_9 dX3_init_111 ?_
      refine V_dup dX3_init_114 rfl ?_
      replace h := ob h
      obtain ⟨r2, e_r2, h⟩ := h
      refine V_callIN_V (As := []) (rest := [.ref (zad L (mX M)), .int (i1), .ref (zad L (v1))]) (c_X1_init e_r2) zc_X1_init rfl (by decide) zm_X3_70 rfl (Nat.le_of_ble_eq_true rfl) rfl dX3_init_115 ?_
      refine V_pc (pc' := 118) rfl ?_
      replace h := ox h
      obtain ⟨c4, h⟩ := h
      replace h := ob h
      obtain ⟨M3, e_M3, h⟩ := h
      refine V_aast (by decide) zgo_7_1 (Or.inl c4) e_M3 dX3_init_118 ?_
      refine V_iinc (v := i1 + (1 : Int32)) (ls' := [(1, .int ((i1 + (1 : Int32)))), (0, .ref (zad L (a0)))]) dX3_init_119 1 rfl (by rfl) (by decide) rfl ?_
      refine V_goto (tgt := 101) dX3_init_122 (by decide) ?_
      refine V_sub [1, 0] rfl ?_
      exact ih _ _ _ h
def f_X3_init_0 (a0 : Nat) (M : zM) : Option (Unit × zM) :=
  (aQ 1 M ((4 : Int32))).bind fun r1 =>
  (pR 9 0 r1.2 a0 r1.1).bind fun M2 =>
  (f_X0_init (mX M2) (nO M2 6 5)).bind fun r3 =>
  (pR 9 1 r3.2 a0 (mX M2)).bind fun M4 =>
  (f_X2_init (mX M4) (nO M4 8 1)).bind fun r5 =>
  (pR 9 2 r5.2 a0 (mX M4)).bind fun M6 =>
  (pI 9 3 M6 a0 ((1 : Int32))).bind fun M7 =>
  (pI 9 4 M7 a0 ((0 : Int32))).bind fun M8 =>
  (pI 9 5 M8 a0 ((0 : Int32))).bind fun M9 =>
  (pI 9 6 M9 a0 ((0 : Int32))).bind fun M10 =>
  (pI 9 7 M10 a0 ((3 : Int32))).bind fun M11 =>
  (pI 9 8 M11 a0 ((0 : Int32))).bind fun M12 =>
  (pI 9 9 M12 a0 ((-1 : Int32))).bind fun M13 =>
  (pI 9 10 M13 a0 ((0 : Int32))).bind fun M14 =>
  (pI 9 11 M14 a0 ((0 : Int32))).bind fun M15 =>
  (pI 9 12 M15 a0 ((-1 : Int32))).bind fun M16 =>
  (pI 9 13 M16 a0 ((-1 : Int32))).bind fun M17 =>
  (pI 9 14 M17 a0 ((-1 : Int32))).bind fun M18 =>
  (pZ 9 15 M18 a0 ((0 : Int32))).bind fun M19 =>
  f_X3_init_101 zN a0 ((0 : Int32)) M19
set_option maxRecDepth 20000 in
set_option maxHeartbeats 4000000 in
theorem s_X3_init_0 {L : zL} {X : zX} {M0 : zM} {N : Nat × Nat} {Q : State → Prop} {r : Unit × zM} (hq : vQ L X M0 N Q none r.2) {a0 : Nat} {M : zM} (h : f_X3_init_0 a0 M = some r) : V L X yX3_init cX3_init 2 (none : Option FieldType) 2 M0 N Q M 0 [(0, .ref (zad L (a0)))] [] := by
  unfold f_X3_init_0 at h
  refine V_aload_n dX3_init_0 rfl 0 rfl ?_
  refine V_objInit zo_X3_1 (by decide) (Nat.le_of_ble_eq_true rfl) dX3_init_1 ?_
  refine V_aload_n dX3_init_4 rfl 0 rfl ?_
  refine V_iconst (v := 4) dX3_init_5 (by decide) ?_
  replace h := ob h
  obtain ⟨r1, e_r1, h⟩ := h
  refine V_newq (t := 1) (by decide) zk_X3_9 e_r1 dX3_init_6 ?_
  refine V_pc (pc' := 9) rfl ?_
  replace h := ob h
  obtain ⟨M2, e_M2, h⟩ := h
  refine V_putR zf_9_0 zl_X3_11 (Or.inr ⟨rfl, rfl, rfl⟩) rfl e_M2 dX3_init_9 ?_
  refine V_pc (pc' := 12) rfl ?_
  refine V_aload_n dX3_init_12 rfl 0 rfl ?_
  refine V_new (by decide) rfl zin6 zty6 zdf6 zn_X3_15 dX3_init_13 ?_
  refine V_dup dX3_init_16 rfl ?_
  replace h := ob h
  obtain ⟨r3, e_r3, h⟩ := h
  refine V_callIN_V (As := []) (rest := [.ref (zad L (mX M2)), .ref (zad L (a0))]) (c_X0_init e_r3) zc_X0_init rfl (by decide) zm_X3_17 rfl (Nat.le_of_ble_eq_true rfl) rfl dX3_init_17 ?_
  refine V_pc (pc' := 20) rfl ?_
  replace h := ob h
  obtain ⟨M4, e_M4, h⟩ := h
  refine V_putR zf_9_1 zl_X3_18 (Or.inr ⟨rfl, rfl, rfl⟩) rfl e_M4 dX3_init_20 ?_
  refine V_pc (pc' := 23) rfl ?_
  refine V_aload_n dX3_init_23 rfl 0 rfl ?_
  refine V_new (by decide) rfl zin8 zty8 zdf8 zn_X3_22 dX3_init_24 ?_
  refine V_dup dX3_init_27 rfl ?_
  replace h := ob h
  obtain ⟨r5, e_r5, h⟩ := h
  refine V_callIN_V (As := []) (rest := [.ref (zad L (mX M4)), .ref (zad L (a0))]) (c_X2_init e_r5) zc_X2_init rfl (by decide) zm_X3_24 rfl (Nat.le_of_ble_eq_true rfl) rfl dX3_init_28 ?_
  refine V_pc (pc' := 31) rfl ?_
  replace h := ob h
  obtain ⟨M6, e_M6, h⟩ := h
  refine V_putR zf_9_2 zl_X3_25 (Or.inr ⟨rfl, rfl, rfl⟩) rfl e_M6 dX3_init_31 ?_
  refine V_pc (pc' := 34) rfl ?_
  refine V_aload_n dX3_init_34 rfl 0 rfl ?_
  refine V_iconst (v := 1) dX3_init_35 (by decide) ?_
  replace h := ob h
  obtain ⟨M7, e_M7, h⟩ := h
  refine V_putI zf_9_3 zl_X3_29 (Or.inl rfl) rfl e_M7 dX3_init_36 ?_
  refine V_pc (pc' := 39) rfl ?_
  refine V_aload_n dX3_init_39 rfl 0 rfl ?_
  refine V_iconst (v := 0) dX3_init_40 (by decide) ?_
  replace h := ob h
  obtain ⟨M8, e_M8, h⟩ := h
  refine V_putI zf_9_4 zl_X3_33 (Or.inl rfl) rfl e_M8 dX3_init_41 ?_
  refine V_pc (pc' := 44) rfl ?_
  refine V_aload_n dX3_init_44 rfl 0 rfl ?_
  refine V_iconst (v := 0) dX3_init_45 (by decide) ?_
  replace h := ob h
  obtain ⟨M9, e_M9, h⟩ := h
  refine V_putI zf_9_5 zl_X3_36 (Or.inl rfl) rfl e_M9 dX3_init_46 ?_
  refine V_pc (pc' := 49) rfl ?_
  refine V_aload_n dX3_init_49 rfl 0 rfl ?_
  refine V_iconst (v := 0) dX3_init_50 (by decide) ?_
  replace h := ob h
  obtain ⟨M10, e_M10, h⟩ := h
  refine V_putI zf_9_6 zl_X3_39 (Or.inl rfl) rfl e_M10 dX3_init_51 ?_
  refine V_pc (pc' := 54) rfl ?_
  refine V_aload_n dX3_init_54 rfl 0 rfl ?_
  refine V_iconst (v := 3) dX3_init_55 (by decide) ?_
  replace h := ob h
  obtain ⟨M11, e_M11, h⟩ := h
  refine V_putI zf_9_7 zl_X3_42 (Or.inl rfl) rfl e_M11 dX3_init_56 ?_
  refine V_pc (pc' := 59) rfl ?_
  refine V_aload_n dX3_init_59 rfl 0 rfl ?_
  refine V_iconst (v := 0) dX3_init_60 (by decide) ?_
  replace h := ob h
  obtain ⟨M12, e_M12, h⟩ := h
  refine V_putI zf_9_8 zl_X3_45 (Or.inl rfl) rfl e_M12 dX3_init_61 ?_
  refine V_pc (pc' := 64) rfl ?_
  refine V_aload_n dX3_init_64 rfl 0 rfl ?_
  refine V_iconst (v := -1) dX3_init_65 (by decide) ?_
  replace h := ob h
  obtain ⟨M13, e_M13, h⟩ := h
  refine V_putI zf_9_9 zl_X3_48 (Or.inl rfl) rfl e_M13 dX3_init_66 ?_
  refine V_pc (pc' := 69) rfl ?_
  refine V_aload_n dX3_init_69 rfl 0 rfl ?_
  refine V_iconst (v := 0) dX3_init_70 (by decide) ?_
  replace h := ob h
  obtain ⟨M14, e_M14, h⟩ := h
  refine V_putI zf_9_10 zl_X3_51 (Or.inl rfl) rfl e_M14 dX3_init_71 ?_
  refine V_pc (pc' := 74) rfl ?_
  refine V_aload_n dX3_init_74 rfl 0 rfl ?_
  refine V_iconst (v := 0) dX3_init_75 (by decide) ?_
  replace h := ob h
  obtain ⟨M15, e_M15, h⟩ := h
  refine V_putI zf_9_11 zl_X3_54 (Or.inl rfl) rfl e_M15 dX3_init_76 ?_
  refine V_pc (pc' := 79) rfl ?_
  refine V_aload_n dX3_init_79 rfl 0 rfl ?_
  refine V_iconst (v := -1) dX3_init_80 (by decide) ?_
  replace h := ob h
  obtain ⟨M16, e_M16, h⟩ := h
  refine V_putI zf_9_12 zl_X3_57 (Or.inl rfl) rfl e_M16 dX3_init_81 ?_
  refine V_pc (pc' := 84) rfl ?_
  refine V_aload_n dX3_init_84 rfl 0 rfl ?_
  refine V_iconst (v := -1) dX3_init_85 (by decide) ?_
  replace h := ob h
  obtain ⟨M17, e_M17, h⟩ := h
  refine V_putI zf_9_13 zl_X3_60 (Or.inl rfl) rfl e_M17 dX3_init_86 ?_
  refine V_pc (pc' := 89) rfl ?_
  refine V_aload_n dX3_init_89 rfl 0 rfl ?_
  refine V_iconst (v := -1) dX3_init_90 (by decide) ?_
  replace h := ob h
  obtain ⟨M18, e_M18, h⟩ := h
  refine V_putI zf_9_14 zl_X3_63 (Or.inl rfl) rfl e_M18 dX3_init_91 ?_
  refine V_pc (pc' := 94) rfl ?_
  refine V_aload_n dX3_init_94 rfl 0 rfl ?_
  refine V_iconst (v := 0) dX3_init_95 (by decide) ?_
  replace h := ob h
  obtain ⟨M19, e_M19, h⟩ := h
  refine V_putZ zf_9_15 zl_X3_66 (Or.inl rfl) rfl e_M19 dX3_init_96 ?_
  refine V_pc (pc' := 99) rfl ?_
  refine V_iconst (v := 0) dX3_init_99 (by decide) ?_
  refine V_istore_n (ls' := [(1, .int ((0 : Int32))), (0, .ref (zad L (a0)))]) dX3_init_100 rfl (by decide) rfl ?_
  refine V_sub [1, 0] rfl ?_
  exact s_X3_init_101 hq h
def f_X3_init (a0 : Nat) (M : zM) : Option (Unit × zM) := f_X3_init_0 a0 M
theorem c_X3_init {L : zL} {l : Launch} {a0 : Nat} {M : zM} {r : Unit × zM} (h : f_X3_init a0 M = some r) : CP L l yX3_init cX3_init 2 (none : Option FieldType) 2 M [.ref (zad L (a0))] none r.2 :=
  CP.of ⟨by decide +kernel, by decide +kernel⟩ (Nat.le_of_ble_eq_true rfl) fun X Q hq => s_X3_init_0 hq h
/-! Windsparlour.beginRound()V -/
theorem dX3_beginRound_0 : decode cX3_beginRound 0 = .ok (.aload_n 0, 1) := by decide +kernel
theorem dX3_beginRound_1 : decode cX3_beginRound 1 = .ok (.aload_n 0, 1) := by decide +kernel
theorem dX3_beginRound_2 : decode cX3_beginRound 2 = .ok (.getfield 48, 3) := by decide +kernel
theorem dX3_beginRound_5 : decode cX3_beginRound 5 = .ok (.iconst 1, 1) := by decide +kernel
theorem dX3_beginRound_6 : decode cX3_beginRound 6 = .ok (.iadd, 1) := by decide +kernel
theorem dX3_beginRound_7 : decode cX3_beginRound 7 = .ok (.iconst 4, 1) := by decide +kernel
theorem dX3_beginRound_8 : decode cX3_beginRound 8 = .ok (.irem, 1) := by decide +kernel
theorem dX3_beginRound_9 : decode cX3_beginRound 9 = .ok (.putfield 48, 3) := by decide +kernel
theorem dX3_beginRound_12 : decode cX3_beginRound 12 = .ok (.aload_n 0, 1) := by decide +kernel
theorem dX3_beginRound_13 : decode cX3_beginRound 13 = .ok (.dup, 1) := by decide +kernel
theorem dX3_beginRound_14 : decode cX3_beginRound 14 = .ok (.getfield 51, 3) := by decide +kernel
theorem dX3_beginRound_17 : decode cX3_beginRound 17 = .ok (.iconst 1, 1) := by decide +kernel
theorem dX3_beginRound_18 : decode cX3_beginRound 18 = .ok (.iadd, 1) := by decide +kernel
theorem dX3_beginRound_19 : decode cX3_beginRound 19 = .ok (.putfield 51, 3) := by decide +kernel
theorem dX3_beginRound_22 : decode cX3_beginRound 22 = .ok (.aload_n 0, 1) := by decide +kernel
theorem dX3_beginRound_23 : decode cX3_beginRound 23 = .ok (.aload_n 0, 1) := by decide +kernel
theorem dX3_beginRound_24 : decode cX3_beginRound 24 = .ok (.getfield 48, 3) := by decide +kernel
theorem dX3_beginRound_27 : decode cX3_beginRound 27 = .ok (.putfield 45, 3) := by decide +kernel
theorem dX3_beginRound_30 : decode cX3_beginRound 30 = .ok (.aload_n 0, 1) := by decide +kernel
theorem dX3_beginRound_31 : decode cX3_beginRound 31 = .ok (.iconst 0, 1) := by decide +kernel
theorem dX3_beginRound_32 : decode cX3_beginRound 32 = .ok (.putfield 42, 3) := by decide +kernel
theorem dX3_beginRound_35 : decode cX3_beginRound 35 = .ok (.aload_n 0, 1) := by decide +kernel
theorem dX3_beginRound_36 : decode cX3_beginRound 36 = .ok (.iconst 0, 1) := by decide +kernel
theorem dX3_beginRound_37 : decode cX3_beginRound 37 = .ok (.putfield 36, 3) := by decide +kernel
theorem dX3_beginRound_40 : decode cX3_beginRound 40 = .ok (.aload_n 0, 1) := by decide +kernel
theorem dX3_beginRound_41 : decode cX3_beginRound 41 = .ok (.iconst 0, 1) := by decide +kernel
theorem dX3_beginRound_42 : decode cX3_beginRound 42 = .ok (.putfield 39, 3) := by decide +kernel
theorem dX3_beginRound_45 : decode cX3_beginRound 45 = .ok (.aload_n 0, 1) := by decide +kernel
theorem dX3_beginRound_46 : decode cX3_beginRound 46 = .ok (.iconst (-1), 1) := by decide +kernel
theorem dX3_beginRound_47 : decode cX3_beginRound 47 = .ok (.putfield 63, 3) := by decide +kernel
theorem dX3_beginRound_50 : decode cX3_beginRound 50 = .ok (.aload_n 0, 1) := by decide +kernel
theorem dX3_beginRound_51 : decode cX3_beginRound 51 = .ok (.iconst 0, 1) := by decide +kernel
theorem dX3_beginRound_52 : decode cX3_beginRound 52 = .ok (.putfield 66, 3) := by decide +kernel
theorem dX3_beginRound_55 : decode cX3_beginRound 55 = .ok (.return_, 1) := by decide +kernel
def f_X3_beginRound_0 (a0 : Nat) (M : zM) : Option (Unit × zM) :=
  (gI 9 9 M a0).bind fun v1 =>
  (pI 9 9 M a0 ((zmd ((v1 + ((1 : Int32)))) ((4 : Int32))))).bind fun M2 =>
  (gI 9 10 M2 a0).bind fun v3 =>
  (pI 9 10 M2 a0 ((v3 + ((1 : Int32))))).bind fun M4 =>
  (gI 9 9 M4 a0).bind fun v5 =>
  (pI 9 8 M4 a0 v5).bind fun M6 =>
  (pI 9 7 M6 a0 ((0 : Int32))).bind fun M7 =>
  (pI 9 5 M7 a0 ((0 : Int32))).bind fun M8 =>
  (pI 9 6 M8 a0 ((0 : Int32))).bind fun M9 =>
  (pI 9 14 M9 a0 ((-1 : Int32))).bind fun M10 =>
  (pZ 9 15 M10 a0 ((0 : Int32))).bind fun M11 =>
  some ((), M11)
set_option maxRecDepth 20000 in
set_option maxHeartbeats 4000000 in
theorem s_X3_beginRound_0 {L : zL} {X : zX} {M0 : zM} {N : Nat × Nat} {Q : State → Prop} {r : Unit × zM} (hq : vQ L X M0 N Q none r.2) {a0 : Nat} {M : zM} (h : f_X3_beginRound_0 a0 M = some r) : V L X yX3_beginRound cX3_beginRound 1 (none : Option FieldType) 1 M0 N Q M 0 [(0, .ref (zad L (a0)))] [] := by
  unfold f_X3_beginRound_0 at h
  refine V_aload_n dX3_beginRound_0 rfl 0 rfl ?_
  refine V_aload_n dX3_beginRound_1 rfl 0 rfl ?_
  replace h := ob h
  obtain ⟨v1, e_v1, h⟩ := h
  refine V_getI zf_9_9 zl_X3_48 e_v1 dX3_beginRound_2 ?_
  refine V_pc (pc' := 5) rfl ?_
  refine V_iconst (v := 1) dX3_beginRound_5 (by decide) ?_
  refine V_iadd dX3_beginRound_6 ?_
  refine V_iconst (v := 4) dX3_beginRound_7 (by decide) ?_
  refine V_irem dX3_beginRound_8 (by decide) ?_
  replace h := ob h
  obtain ⟨M2, e_M2, h⟩ := h
  refine V_putI zf_9_9 zl_X3_48 (Or.inl rfl) rfl e_M2 dX3_beginRound_9 ?_
  refine V_pc (pc' := 12) rfl ?_
  refine V_aload_n dX3_beginRound_12 rfl 0 rfl ?_
  refine V_dup dX3_beginRound_13 rfl ?_
  replace h := ob h
  obtain ⟨v3, e_v3, h⟩ := h
  refine V_getI zf_9_10 zl_X3_51 e_v3 dX3_beginRound_14 ?_
  refine V_pc (pc' := 17) rfl ?_
  refine V_iconst (v := 1) dX3_beginRound_17 (by decide) ?_
  refine V_iadd dX3_beginRound_18 ?_
  replace h := ob h
  obtain ⟨M4, e_M4, h⟩ := h
  refine V_putI zf_9_10 zl_X3_51 (Or.inl rfl) rfl e_M4 dX3_beginRound_19 ?_
  refine V_pc (pc' := 22) rfl ?_
  refine V_aload_n dX3_beginRound_22 rfl 0 rfl ?_
  refine V_aload_n dX3_beginRound_23 rfl 0 rfl ?_
  replace h := ob h
  obtain ⟨v5, e_v5, h⟩ := h
  refine V_getI zf_9_9 zl_X3_48 e_v5 dX3_beginRound_24 ?_
  refine V_pc (pc' := 27) rfl ?_
  replace h := ob h
  obtain ⟨M6, e_M6, h⟩ := h
  refine V_putI zf_9_8 zl_X3_45 (Or.inl rfl) rfl e_M6 dX3_beginRound_27 ?_
  refine V_pc (pc' := 30) rfl ?_
  refine V_aload_n dX3_beginRound_30 rfl 0 rfl ?_
  refine V_iconst (v := 0) dX3_beginRound_31 (by decide) ?_
  replace h := ob h
  obtain ⟨M7, e_M7, h⟩ := h
  refine V_putI zf_9_7 zl_X3_42 (Or.inl rfl) rfl e_M7 dX3_beginRound_32 ?_
  refine V_pc (pc' := 35) rfl ?_
  refine V_aload_n dX3_beginRound_35 rfl 0 rfl ?_
  refine V_iconst (v := 0) dX3_beginRound_36 (by decide) ?_
  replace h := ob h
  obtain ⟨M8, e_M8, h⟩ := h
  refine V_putI zf_9_5 zl_X3_36 (Or.inl rfl) rfl e_M8 dX3_beginRound_37 ?_
  refine V_pc (pc' := 40) rfl ?_
  refine V_aload_n dX3_beginRound_40 rfl 0 rfl ?_
  refine V_iconst (v := 0) dX3_beginRound_41 (by decide) ?_
  replace h := ob h
  obtain ⟨M9, e_M9, h⟩ := h
  refine V_putI zf_9_6 zl_X3_39 (Or.inl rfl) rfl e_M9 dX3_beginRound_42 ?_
  refine V_pc (pc' := 45) rfl ?_
  refine V_aload_n dX3_beginRound_45 rfl 0 rfl ?_
  refine V_iconst (v := -1) dX3_beginRound_46 (by decide) ?_
  replace h := ob h
  obtain ⟨M10, e_M10, h⟩ := h
  refine V_putI zf_9_14 zl_X3_63 (Or.inl rfl) rfl e_M10 dX3_beginRound_47 ?_
  refine V_pc (pc' := 50) rfl ?_
  refine V_aload_n dX3_beginRound_50 rfl 0 rfl ?_
  refine V_iconst (v := 0) dX3_beginRound_51 (by decide) ?_
  replace h := ob h
  obtain ⟨M11, e_M11, h⟩ := h
  refine V_putZ zf_9_15 zl_X3_66 (Or.inl rfl) rfl e_M11 dX3_beginRound_52 ?_
  refine V_pc (pc' := 55) rfl ?_
  obtain rfl := Option.some.inj h
  exact V_vret rfl hq dX3_beginRound_55
def f_X3_beginRound (a0 : Nat) (M : zM) : Option (Unit × zM) := f_X3_beginRound_0 a0 M
theorem c_X3_beginRound {L : zL} {l : Launch} {a0 : Nat} {M : zM} {r : Unit × zM} (h : f_X3_beginRound a0 M = some r) : CP L l yX3_beginRound cX3_beginRound 1 (none : Option FieldType) 1 M [.ref (zad L (a0))] none r.2 :=
  CP.of ⟨by decide +kernel, by decide +kernel⟩ (Nat.le_of_ble_eq_true rfl) fun X Q hq => s_X3_beginRound_0 hq h
/-! Windsparlour.kindAt(I)I -/
theorem dX3_kindAt_0 : decode cX3_kindAt 0 = .ok (.aload_n 0, 1) := by decide +kernel
theorem dX3_kindAt_1 : decode cX3_kindAt 1 = .ok (.getfield 29, 3) := by decide +kernel
theorem dX3_kindAt_4 : decode cX3_kindAt 4 = .ok (.iload_n 1, 1) := by decide +kernel
theorem dX3_kindAt_5 : decode cX3_kindAt 5 = .ok (.imul, 1) := by decide +kernel
theorem dX3_kindAt_6 : decode cX3_kindAt 6 = .ok (.aload_n 0, 1) := by decide +kernel
theorem dX3_kindAt_7 : decode cX3_kindAt 7 = .ok (.getfield 33, 3) := by decide +kernel
theorem dX3_kindAt_10 : decode cX3_kindAt 10 = .ok (.iadd, 1) := by decide +kernel
theorem dX3_kindAt_11 : decode cX3_kindAt 11 = .ok (.bipush 100, 2) := by decide +kernel
theorem dX3_kindAt_13 : decode cX3_kindAt 13 = .ok (.irem, 1) := by decide +kernel
theorem dX3_kindAt_14 : decode cX3_kindAt 14 = .ok (.iconst 4, 1) := by decide +kernel
theorem dX3_kindAt_15 : decode cX3_kindAt 15 = .ok (.idiv, 1) := by decide +kernel
theorem dX3_kindAt_16 : decode cX3_kindAt 16 = .ok (.ireturn, 1) := by decide +kernel
def f_X3_kindAt_0 (a0 : Nat) (i1 : Int32) (M : zM) : Option (Int32 × zM) :=
  (gI 9 3 M a0).bind fun v1 =>
  (gI 9 4 M a0).bind fun v2 =>
  some ((((zmd ((((v1 * i1)) + v2)) ((100 : Int32)))) / ((4 : Int32))), M)
set_option maxRecDepth 20000 in
set_option maxHeartbeats 4000000 in
theorem s_X3_kindAt_0 {L : zL} {X : zX} {M0 : zM} {N : Nat × Nat} {Q : State → Prop} {r : Int32 × zM} (hq : vQ L X M0 N Q (some (.int r.1)) r.2) {a0 : Nat} {i1 : Int32} {M : zM} (h : f_X3_kindAt_0 a0 i1 M = some r) : V L X yX3_kindAt cX3_kindAt 2 (some FieldType.int) 1 M0 N Q M 0 [(0, .ref (zad L (a0))), (1, .int (i1))] [] := by
  unfold f_X3_kindAt_0 at h
  refine V_aload_n dX3_kindAt_0 rfl 0 rfl ?_
  replace h := ob h
  obtain ⟨v1, e_v1, h⟩ := h
  refine V_getI zf_9_3 zl_X3_29 e_v1 dX3_kindAt_1 ?_
  refine V_pc (pc' := 4) rfl ?_
  refine V_iload_n dX3_kindAt_4 rfl 1 rfl ?_
  refine V_imul dX3_kindAt_5 ?_
  refine V_aload_n dX3_kindAt_6 rfl 0 rfl ?_
  replace h := ob h
  obtain ⟨v2, e_v2, h⟩ := h
  refine V_getI zf_9_4 zl_X3_33 e_v2 dX3_kindAt_7 ?_
  refine V_pc (pc' := 10) rfl ?_
  refine V_iadd dX3_kindAt_10 ?_
  refine V_bipush (v := 100) dX3_kindAt_11 (by decide) ?_
  refine V_irem dX3_kindAt_13 (by decide) ?_
  refine V_iconst (v := 4) dX3_kindAt_14 (by decide) ?_
  refine V_idiv dX3_kindAt_15 (by decide) ?_
  obtain rfl := Option.some.inj h
  exact V_iret rfl hq dX3_kindAt_16
def f_X3_kindAt (a0 : Nat) (i1 : Int32) (M : zM) : Option (Int32 × zM) := f_X3_kindAt_0 a0 i1 M
theorem c_X3_kindAt {L : zL} {l : Launch} {a0 : Nat} {i1 : Int32} {M : zM} {r : Int32 × zM} (h : f_X3_kindAt a0 i1 M = some r) : CP L l yX3_kindAt cX3_kindAt 2 (some FieldType.int) 1 M [.ref (zad L (a0)), .int (i1)] (some (.int r.1)) r.2 :=
  CP.of ⟨by decide +kernel, by decide +kernel⟩ (Nat.le_of_ble_eq_true rfl) fun X Q hq => s_X3_kindAt_0 hq h
/-! Windsparlour.dealTo(I)V -/
theorem dX3_dealTo_0 : decode cX3_dealTo 0 = .ok (.aload_n 0, 1) := by decide +kernel
theorem dX3_dealTo_1 : decode cX3_dealTo 1 = .ok (.getfield 11, 3) := by decide +kernel
theorem dX3_dealTo_4 : decode cX3_dealTo 4 = .ok (.iload_n 1, 1) := by decide +kernel
theorem dX3_dealTo_5 : decode cX3_dealTo 5 = .ok (.aaload, 1) := by decide +kernel
theorem dX3_dealTo_6 : decode cX3_dealTo 6 = .ok (.astore_n 2, 1) := by decide +kernel
theorem dX3_dealTo_7 : decode cX3_dealTo 7 = .ok (.aload_n 2, 1) := by decide +kernel
theorem dX3_dealTo_8 : decode cX3_dealTo 8 = .ok (.invokevirtual 293, 3) := by decide +kernel
theorem dX3_dealTo_11 : decode cX3_dealTo 11 = .ok (.iconst 0, 1) := by decide +kernel
theorem dX3_dealTo_12 : decode cX3_dealTo 12 = .ok (.istore_n 3, 1) := by decide +kernel
theorem dX3_dealTo_13 : decode cX3_dealTo 13 = .ok (.iload_n 3, 1) := by decide +kernel
theorem dX3_dealTo_14 : decode cX3_dealTo 14 = .ok (.bipush 10, 2) := by decide +kernel
theorem dX3_dealTo_16 : decode cX3_dealTo 16 = .ok (.if_icmp .ge 24, 3) := by decide +kernel
theorem dX3_dealTo_19 : decode cX3_dealTo 19 = .ok (.aload_n 2, 1) := by decide +kernel
theorem dX3_dealTo_20 : decode cX3_dealTo 20 = .ok (.aload_n 0, 1) := by decide +kernel
theorem dX3_dealTo_21 : decode cX3_dealTo 21 = .ok (.bipush 10, 2) := by decide +kernel
theorem dX3_dealTo_23 : decode cX3_dealTo 23 = .ok (.iload_n 1, 1) := by decide +kernel
theorem dX3_dealTo_24 : decode cX3_dealTo 24 = .ok (.imul, 1) := by decide +kernel
theorem dX3_dealTo_25 : decode cX3_dealTo 25 = .ok (.iload_n 3, 1) := by decide +kernel
theorem dX3_dealTo_26 : decode cX3_dealTo 26 = .ok (.iadd, 1) := by decide +kernel
theorem dX3_dealTo_27 : decode cX3_dealTo 27 = .ok (.invokevirtual 88, 3) := by decide +kernel
theorem dX3_dealTo_30 : decode cX3_dealTo 30 = .ok (.iconst 1, 1) := by decide +kernel
theorem dX3_dealTo_31 : decode cX3_dealTo 31 = .ok (.invokevirtual 157, 3) := by decide +kernel
theorem dX3_dealTo_34 : decode cX3_dealTo 34 = .ok (.iinc 3 1, 3) := by decide +kernel
theorem dX3_dealTo_37 : decode cX3_dealTo 37 = .ok (.goto (-24), 3) := by decide +kernel
theorem dX3_dealTo_40 : decode cX3_dealTo 40 = .ok (.return_, 1) := by decide +kernel
def f_X3_dealTo_13 (n : Nat) (a0 : Nat) (i1 : Int32) (a2 : Nat) (i3 : Int32) (M : zM) : Option (Unit × zM) := match n with
  | 0 => none
  | n + 1 =>
    if ((10 : Int32)) ≤ i3 then
    some ((), M)
    else
    if mK M a0 = 9 then
    (f_X3_kindAt a0 ((((((10 : Int32)) * i1)) + i3)) M).bind fun r1 =>
    if mK r1.2 a2 = 7 then
    (f_X1_change a2 r1.1 ((1 : Int32)) r1.2).bind fun r3 =>
    f_X3_dealTo_13 n a0 i1 a2 ((i3 + (1 : Int32))) r3.2
    else none
    else none
set_option maxRecDepth 20000 in
set_option maxHeartbeats 4000000 in
theorem s_X3_dealTo_13 {L : zL} {X : zX} {M0 : zM} {N : Nat × Nat} {Q : State → Prop} {r : Unit × zM} (hq : vQ L X M0 N Q none r.2) {n : Nat} {a0 : Nat} {i1 : Int32} {a2 : Nat} {i3 : Int32} {M : zM} : f_X3_dealTo_13 n a0 i1 a2 i3 M = some r → V L X yX3_dealTo cX3_dealTo 4 (none : Option FieldType) 2 M0 N Q M 13 [(0, .ref (zad L (a0))), (1, .int (i1)), (2, .ref (zad L (a2))), (3, .int (i3))] [] := by
  induction n generalizing a0 i1 a2 i3 M with
  | zero =>
    intro h
    rw [f_X3_dealTo_13] at h
    cases h
  | succ n ih0 =>
    intro h
    have ih : ∀ (a0 : Nat) (i1 : Int32) (a2 : Nat) (i3 : Int32) (M : zM), f_X3_dealTo_13 n a0 i1 a2 i3 M = some r → V L X yX3_dealTo cX3_dealTo 4 (none : Option FieldType) 2 M0 N Q M 13 [(0, .ref (zad L (a0))), (1, .int (i1)), (2, .ref (zad L (a2))), (3, .int (i3))] [] := fun a0 i1 a2 i3 M h => ih0 h
    rw [f_X3_dealTo_13] at h
    refine V_iload_n dX3_dealTo_13 rfl 3 rfl ?_
    refine V_bipush (v := 10) dX3_dealTo_14 (by decide) ?_
    refine V_icmp_ge (tgt := 40) dX3_dealTo_16 (by decide) (fun c5 => ?_) (fun c5 => ?_)
    · replace h := (oi h).1 c5
      obtain rfl := Option.some.inj h
      exact V_vret rfl hq dX3_dealTo_40
    · replace h := (oi h).2 c5
      refine V_aload_n dX3_dealTo_19 rfl 2 rfl ?_
      refine V_aload_n dX3_dealTo_20 rfl 0 rfl ?_
      refine V_bipush (v := 10) dX3_dealTo_21 (by decide) ?_
      refine V_iload_n dX3_dealTo_23 rfl 1 rfl ?_
      refine V_imul dX3_dealTo_24 ?_
      refine V_iload_n dX3_dealTo_25 rfl 3 rfl ?_
      refine V_iadd dX3_dealTo_26 ?_
      replace h := ox h
      obtain ⟨c2, h⟩ := h
      replace h := ob h
      obtain ⟨r1, e_r1, h⟩ := h
      refine V_callV_I (As := [.int ((((((10 : Int32)) * i1)) + i3))]) (rest := [.ref (zad L (a2))]) (c_X3_kindAt e_r1) zc_X3_kindAt rfl (by decide) rfl (by decide) (Or.inl c2) zm_X3_88 (Nat.le_of_ble_eq_true rfl) rfl dX3_dealTo_27 ?_
      refine V_pc (pc' := 30) rfl ?_
      refine V_iconst (v := 1) dX3_dealTo_30 (by decide) ?_
      replace h := ox h
      obtain ⟨c4, h⟩ := h
      replace h := ob h
      obtain ⟨r3, e_r3, h⟩ := h
      refine V_callV_V (As := [.int (r1.1), .int ((1 : Int32))]) (rest := []) (c_X1_change e_r3) zc_X1_change rfl (by decide) rfl (by decide) (Or.inl c4) zm_X3_157 (Nat.le_of_ble_eq_true rfl) rfl dX3_dealTo_31 ?_
      refine V_pc (pc' := 34) rfl ?_
      refine V_iinc (v := i3 + (1 : Int32)) (ls' := [(3, .int ((i3 + (1 : Int32)))), (0, .ref (zad L (a0))), (1, .int (i1)), (2, .ref (zad L (a2)))]) dX3_dealTo_34 3 rfl (by rfl) (by decide) rfl ?_
      refine V_goto (tgt := 13) dX3_dealTo_37 (by decide) ?_
      refine V_sub [1, 2, 3, 0] rfl ?_
      exact ih _ _ _ _ _ h
def f_X3_dealTo_0 (a0 : Nat) (i1 : Int32) (M : zM) : Option (Unit × zM) :=
  (gR 9 0 M a0).bind fun v1 =>
  (lQ 1 M v1 i1).bind fun v2 =>
  if mK M v2 = 7 then
  (f_X1_clear v2 M).bind fun r3 =>
  f_X3_dealTo_13 zN a0 i1 v2 ((0 : Int32)) r3.2
  else none
set_option maxRecDepth 20000 in
set_option maxHeartbeats 4000000 in
theorem s_X3_dealTo_0 {L : zL} {X : zX} {M0 : zM} {N : Nat × Nat} {Q : State → Prop} {r : Unit × zM} (hq : vQ L X M0 N Q none r.2) {a0 : Nat} {i1 : Int32} {M : zM} (h : f_X3_dealTo_0 a0 i1 M = some r) : V L X yX3_dealTo cX3_dealTo 4 (none : Option FieldType) 2 M0 N Q M 0 [(0, .ref (zad L (a0))), (1, .int (i1))] [] := by
  unfold f_X3_dealTo_0 at h
  refine V_aload_n dX3_dealTo_0 rfl 0 rfl ?_
  replace h := ob h
  obtain ⟨v1, e_v1, h⟩ := h
  refine V_getR zf_9_0 zl_X3_11 e_v1 dX3_dealTo_1 ?_
  refine V_pc (pc' := 4) rfl ?_
  refine V_iload_n dX3_dealTo_4 rfl 1 rfl ?_
  replace h := ob h
  obtain ⟨v2, e_v2, h⟩ := h
  refine V_aald (by decide) e_v2 dX3_dealTo_5 ?_
  refine V_pc (pc' := 6) rfl ?_
  refine V_astore_n (ls' := [(2, .ref (zad L (v2))), (0, .ref (zad L (a0))), (1, .int (i1))]) dX3_dealTo_6 rfl (by decide) rfl ?_
  refine V_aload_n dX3_dealTo_7 rfl 0 rfl ?_
  replace h := ox h
  obtain ⟨c4, h⟩ := h
  replace h := ob h
  obtain ⟨r3, e_r3, h⟩ := h
  refine V_callV_V (As := []) (rest := []) (c_X1_clear e_r3) zc_X1_clear rfl (by decide) rfl (by decide) (Or.inl c4) zm_X3_293 (Nat.le_of_ble_eq_true rfl) rfl dX3_dealTo_8 ?_
  refine V_pc (pc' := 11) rfl ?_
  refine V_iconst (v := 0) dX3_dealTo_11 (by decide) ?_
  refine V_istore_n (ls' := [(3, .int ((0 : Int32))), (2, .ref (zad L (v2))), (0, .ref (zad L (a0))), (1, .int (i1))]) dX3_dealTo_12 rfl (by decide) rfl ?_
  refine V_sub [2, 3, 1, 0] rfl ?_
  exact s_X3_dealTo_13 hq h
def f_X3_dealTo (a0 : Nat) (i1 : Int32) (M : zM) : Option (Unit × zM) := f_X3_dealTo_0 a0 i1 M
theorem c_X3_dealTo {L : zL} {l : Launch} {a0 : Nat} {i1 : Int32} {M : zM} {r : Unit × zM} (h : f_X3_dealTo a0 i1 M = some r) : CP L l yX3_dealTo cX3_dealTo 4 (none : Option FieldType) 2 M [.ref (zad L (a0)), .int (i1)] none r.2 :=
  CP.of ⟨by decide +kernel, by decide +kernel⟩ (Nat.le_of_ble_eq_true rfl) fun X Q hq => s_X3_dealTo_0 hq h
/-! Windsparlour.follower(I)I -/
theorem dX3_follower_0 : decode cX3_follower 0 = .ok (.iload_n 0, 1) := by decide +kernel
theorem dX3_follower_1 : decode cX3_follower 1 = .ok (.bipush 18, 2) := by decide +kernel
theorem dX3_follower_3 : decode cX3_follower 3 = .ok (.if_icmp .ge 25, 3) := by decide +kernel
theorem dX3_follower_6 : decode cX3_follower 6 = .ok (.iload_n 0, 1) := by decide +kernel
theorem dX3_follower_7 : decode cX3_follower 7 = .ok (.bipush 9, 2) := by decide +kernel
theorem dX3_follower_9 : decode cX3_follower 9 = .ok (.irem, 1) := by decide +kernel
theorem dX3_follower_10 : decode cX3_follower 10 = .ok (.bipush 8, 2) := by decide +kernel
theorem dX3_follower_12 : decode cX3_follower 12 = .ok (.if_icmp .ne 12, 3) := by decide +kernel
theorem dX3_follower_15 : decode cX3_follower 15 = .ok (.iload_n 0, 1) := by decide +kernel
theorem dX3_follower_16 : decode cX3_follower 16 = .ok (.bipush 9, 2) := by decide +kernel
theorem dX3_follower_18 : decode cX3_follower 18 = .ok (.isub, 1) := by decide +kernel
theorem dX3_follower_19 : decode cX3_follower 19 = .ok (.iconst 1, 1) := by decide +kernel
theorem dX3_follower_20 : decode cX3_follower 20 = .ok (.iadd, 1) := by decide +kernel
theorem dX3_follower_21 : decode cX3_follower 21 = .ok (.goto 6, 3) := by decide +kernel
theorem dX3_follower_24 : decode cX3_follower 24 = .ok (.iload_n 0, 1) := by decide +kernel
theorem dX3_follower_25 : decode cX3_follower 25 = .ok (.iconst 1, 1) := by decide +kernel
theorem dX3_follower_26 : decode cX3_follower 26 = .ok (.iadd, 1) := by decide +kernel
theorem dX3_follower_27 : decode cX3_follower 27 = .ok (.ireturn, 1) := by decide +kernel
theorem dX3_follower_28 : decode cX3_follower 28 = .ok (.iload_n 0, 1) := by decide +kernel
theorem dX3_follower_29 : decode cX3_follower 29 = .ok (.bipush 22, 2) := by decide +kernel
theorem dX3_follower_31 : decode cX3_follower 31 = .ok (.if_icmp .ge 18, 3) := by decide +kernel
theorem dX3_follower_34 : decode cX3_follower 34 = .ok (.iload_n 0, 1) := by decide +kernel
theorem dX3_follower_35 : decode cX3_follower 35 = .ok (.bipush 21, 2) := by decide +kernel
theorem dX3_follower_37 : decode cX3_follower 37 = .ok (.if_icmp .ne 8, 3) := by decide +kernel
theorem dX3_follower_40 : decode cX3_follower 40 = .ok (.bipush 18, 2) := by decide +kernel
theorem dX3_follower_42 : decode cX3_follower 42 = .ok (.goto 6, 3) := by decide +kernel
theorem dX3_follower_45 : decode cX3_follower 45 = .ok (.iload_n 0, 1) := by decide +kernel
theorem dX3_follower_46 : decode cX3_follower 46 = .ok (.iconst 1, 1) := by decide +kernel
theorem dX3_follower_47 : decode cX3_follower 47 = .ok (.iadd, 1) := by decide +kernel
theorem dX3_follower_48 : decode cX3_follower 48 = .ok (.ireturn, 1) := by decide +kernel
theorem dX3_follower_49 : decode cX3_follower 49 = .ok (.iload_n 0, 1) := by decide +kernel
theorem dX3_follower_50 : decode cX3_follower 50 = .ok (.bipush 24, 2) := by decide +kernel
theorem dX3_follower_52 : decode cX3_follower 52 = .ok (.if_icmp .ne 8, 3) := by decide +kernel
theorem dX3_follower_55 : decode cX3_follower 55 = .ok (.bipush 22, 2) := by decide +kernel
theorem dX3_follower_57 : decode cX3_follower 57 = .ok (.goto 6, 3) := by decide +kernel
theorem dX3_follower_60 : decode cX3_follower 60 = .ok (.iload_n 0, 1) := by decide +kernel
theorem dX3_follower_61 : decode cX3_follower 61 = .ok (.iconst 1, 1) := by decide +kernel
theorem dX3_follower_62 : decode cX3_follower 62 = .ok (.iadd, 1) := by decide +kernel
theorem dX3_follower_63 : decode cX3_follower 63 = .ok (.ireturn, 1) := by decide +kernel
def f_X3_follower_0 (i0 : Int32) (M : zM) : Option (Int32 × zM) :=
  if ((18 : Int32)) ≤ i0 then
  if ((22 : Int32)) ≤ i0 then
  if i0 = ((24 : Int32)) then
  some ((22 : Int32), M)
  else
  some ((i0 + ((1 : Int32))), M)
  else
  if i0 = ((21 : Int32)) then
  some ((18 : Int32), M)
  else
  some ((i0 + ((1 : Int32))), M)
  else
  if ((zmd i0 ((9 : Int32)))) = ((8 : Int32)) then
  some ((((i0 - ((9 : Int32)))) + ((1 : Int32))), M)
  else
  some ((i0 + ((1 : Int32))), M)
set_option maxRecDepth 20000 in
set_option maxHeartbeats 4000000 in
theorem s_X3_follower_0 {L : zL} {X : zX} {M0 : zM} {N : Nat × Nat} {Q : State → Prop} {r : Int32 × zM} (hq : vQ L X M0 N Q (some (.int r.1)) r.2) {i0 : Int32} {M : zM} (h : f_X3_follower_0 i0 M = some r) : V L X yX3_follower cX3_follower 1 (some FieldType.int) 1 M0 N Q M 0 [(0, .int (i0))] [] := by
  unfold f_X3_follower_0 at h
  refine V_iload_n dX3_follower_0 rfl 0 rfl ?_
  refine V_bipush (v := 18) dX3_follower_1 (by decide) ?_
  refine V_icmp_ge (tgt := 28) dX3_follower_3 (by decide) (fun c5 => ?_) (fun c5 => ?_)
  · replace h := (oi h).1 c5
    refine V_iload_n dX3_follower_28 rfl 0 rfl ?_
    refine V_bipush (v := 22) dX3_follower_29 (by decide) ?_
    refine V_icmp_ge (tgt := 49) dX3_follower_31 (by decide) (fun c3 => ?_) (fun c3 => ?_)
    · replace h := (oi h).1 c3
      refine V_iload_n dX3_follower_49 rfl 0 rfl ?_
      refine V_bipush (v := 24) dX3_follower_50 (by decide) ?_
      refine V_icmp_ne (tgt := 60) dX3_follower_52 (by decide) (fun c1 => ?_) (fun c1 => ?_)
      · replace h := (oi h).2 c1
        refine V_iload_n dX3_follower_60 rfl 0 rfl ?_
        refine V_iconst (v := 1) dX3_follower_61 (by decide) ?_
        refine V_iadd dX3_follower_62 ?_
        obtain rfl := Option.some.inj h
        exact V_iret rfl hq dX3_follower_63
      · replace h := (oi h).1 c1
        refine V_bipush (v := 22) dX3_follower_55 (by decide) ?_
        refine V_goto (tgt := 63) dX3_follower_57 (by decide) ?_
        obtain rfl := Option.some.inj h
        exact V_iret rfl hq dX3_follower_63
    · replace h := (oi h).2 c3
      refine V_iload_n dX3_follower_34 rfl 0 rfl ?_
      refine V_bipush (v := 21) dX3_follower_35 (by decide) ?_
      refine V_icmp_ne (tgt := 45) dX3_follower_37 (by decide) (fun c2 => ?_) (fun c2 => ?_)
      · replace h := (oi h).2 c2
        refine V_iload_n dX3_follower_45 rfl 0 rfl ?_
        refine V_iconst (v := 1) dX3_follower_46 (by decide) ?_
        refine V_iadd dX3_follower_47 ?_
        obtain rfl := Option.some.inj h
        exact V_iret rfl hq dX3_follower_48
      · replace h := (oi h).1 c2
        refine V_bipush (v := 18) dX3_follower_40 (by decide) ?_
        refine V_goto (tgt := 48) dX3_follower_42 (by decide) ?_
        obtain rfl := Option.some.inj h
        exact V_iret rfl hq dX3_follower_48
  · replace h := (oi h).2 c5
    refine V_iload_n dX3_follower_6 rfl 0 rfl ?_
    refine V_bipush (v := 9) dX3_follower_7 (by decide) ?_
    refine V_irem dX3_follower_9 (by decide) ?_
    refine V_bipush (v := 8) dX3_follower_10 (by decide) ?_
    refine V_icmp_ne (tgt := 24) dX3_follower_12 (by decide) (fun c4 => ?_) (fun c4 => ?_)
    · replace h := (oi h).2 c4
      refine V_iload_n dX3_follower_24 rfl 0 rfl ?_
      refine V_iconst (v := 1) dX3_follower_25 (by decide) ?_
      refine V_iadd dX3_follower_26 ?_
      obtain rfl := Option.some.inj h
      exact V_iret rfl hq dX3_follower_27
    · replace h := (oi h).1 c4
      refine V_iload_n dX3_follower_15 rfl 0 rfl ?_
      refine V_bipush (v := 9) dX3_follower_16 (by decide) ?_
      refine V_isub dX3_follower_18 ?_
      refine V_iconst (v := 1) dX3_follower_19 (by decide) ?_
      refine V_iadd dX3_follower_20 ?_
      refine V_goto (tgt := 27) dX3_follower_21 (by decide) ?_
      obtain rfl := Option.some.inj h
      exact V_iret rfl hq dX3_follower_27
def f_X3_follower (i0 : Int32) (M : zM) : Option (Int32 × zM) := f_X3_follower_0 i0 M
theorem c_X3_follower {L : zL} {l : Launch} {i0 : Int32} {M : zM} {r : Int32 × zM} (h : f_X3_follower i0 M = some r) : CP L l yX3_follower cX3_follower 1 (some FieldType.int) 1 M [.int (i0)] (some (.int r.1)) r.2 :=
  CP.of ⟨by decide +kernel, by decide +kernel⟩ (Nat.le_of_ble_eq_true rfl) fun X Q hq => s_X3_follower_0 hq h
/-! Windsparlour.requirePhase(I)V -/
theorem dX3_requirePhase_0 : decode cX3_requirePhase 0 = .ok (.aload_n 0, 1) := by decide +kernel
theorem dX3_requirePhase_1 : decode cX3_requirePhase 1 = .ok (.getfield 42, 3) := by decide +kernel
theorem dX3_requirePhase_4 : decode cX3_requirePhase 4 = .ok (.iload_n 1, 1) := by decide +kernel
theorem dX3_requirePhase_5 : decode cX3_requirePhase 5 = .ok (.if_icmp .eq 14, 3) := by decide +kernel
theorem dX3_requirePhase_8 : decode cX3_requirePhase 8 = .ok (.new 118, 3) := by decide +kernel
theorem dX3_requirePhase_11 : decode cX3_requirePhase 11 = .ok (.dup, 1) := by decide +kernel
theorem dX3_requirePhase_12 : decode cX3_requirePhase 12 = .ok (.ldc_w 291, 3) := by decide +kernel
theorem dX3_requirePhase_15 : decode cX3_requirePhase 15 = .ok (.invokespecial 122, 3) := by decide +kernel
theorem dX3_requirePhase_18 : decode cX3_requirePhase 18 = .ok (.athrow, 1) := by decide +kernel
theorem dX3_requirePhase_19 : decode cX3_requirePhase 19 = .ok (.return_, 1) := by decide +kernel
def f_X3_requirePhase_0 (a0 : Nat) (i1 : Int32) (M : zM) : Option ((String ⊕ Unit) × zM) :=
  (gI 9 7 M a0).bind fun v1 =>
  if v1 = i1 then
  some (Sum.inr (()), M)
  else
  some (Sum.inl "java/lang/IllegalStateException", nE M)
set_option maxRecDepth 20000 in
set_option maxHeartbeats 4000000 in
theorem s_X3_requirePhase_0 {L : zL} {X : zX} {M0 : zM} {N : Nat × Nat} {Q : State → Prop} {r : (String ⊕ Unit) × zM} (hq : vQX L X M0 N Q (zoV r.1) r.2) {a0 : Nat} {i1 : Int32} {M : zM} (h : f_X3_requirePhase_0 a0 i1 M = some r) : V L X yX3_requirePhase cX3_requirePhase 2 (none : Option FieldType) 6 M0 N Q M 0 [(0, .ref (zad L (a0))), (1, .int (i1))] [] := by
  unfold f_X3_requirePhase_0 at h
  refine V_aload_n dX3_requirePhase_0 rfl 0 rfl ?_
  replace h := ob h
  obtain ⟨v1, e_v1, h⟩ := h
  refine V_getI zf_9_7 zl_X3_42 e_v1 dX3_requirePhase_1 ?_
  refine V_pc (pc' := 4) rfl ?_
  refine V_iload_n dX3_requirePhase_4 rfl 1 rfl ?_
  refine V_icmp_eq (tgt := 19) dX3_requirePhase_5 (by decide) (fun c2 => ?_) (fun c2 => ?_)
  · replace h := (oi h).1 c2
    obtain rfl := Option.some.inj h
    exact V_vretX rfl hq dX3_requirePhase_19
  · replace h := (oi h).2 c2
    obtain rfl := Option.some.inj h
    exact V_throwW (E := "java/lang/IllegalStateException") (tx := "not in this phase") hq zx_X3_122 zk_X3_118 zs_X3_291 (by decide +kernel) (by decide) (Nat.le_of_ble_eq_true rfl) dX3_requirePhase_8 dX3_requirePhase_11 dX3_requirePhase_12 dX3_requirePhase_15 dX3_requirePhase_18
def f_X3_requirePhase (a0 : Nat) (i1 : Int32) (M : zM) : Option ((String ⊕ Unit) × zM) := f_X3_requirePhase_0 a0 i1 M
theorem c_X3_requirePhase {L : zL} {l : Launch} {a0 : Nat} {i1 : Int32} {M : zM} {r : (String ⊕ Unit) × zM} (h : f_X3_requirePhase a0 i1 M = some r) : CX L l yX3_requirePhase cX3_requirePhase 2 (none : Option FieldType) 6 M [.ref (zad L (a0)), .int (i1)] (zoV r.1) r.2 :=
  CX.of ⟨by decide +kernel, by decide +kernel⟩ (Nat.le_of_ble_eq_true rfl) fun X Q hq => s_X3_requirePhase_0 hq h
/-! Windsparlour.lay(II)I -/
theorem dX3_lay_0 : decode cX3_lay 0 = .ok (.iload_n 1, 1) := by decide +kernel
theorem dX3_lay_1 : decode cX3_lay 1 = .ok (.iconst 1, 1) := by decide +kernel
theorem dX3_lay_2 : decode cX3_lay 2 = .ok (.if_icmp .lt 31, 3) := by decide +kernel
theorem dX3_lay_5 : decode cX3_lay 5 = .ok (.iload_n 1, 1) := by decide +kernel
theorem dX3_lay_6 : decode cX3_lay 6 = .ok (.bipush 100, 2) := by decide +kernel
theorem dX3_lay_8 : decode cX3_lay 8 = .ok (.if_icmp .ge 25, 3) := by decide +kernel
theorem dX3_lay_11 : decode cX3_lay 11 = .ok (.iload_n 1, 1) := by decide +kernel
theorem dX3_lay_12 : decode cX3_lay 12 = .ok (.iconst 2, 1) := by decide +kernel
theorem dX3_lay_13 : decode cX3_lay 13 = .ok (.irem, 1) := by decide +kernel
theorem dX3_lay_14 : decode cX3_lay 14 = .ok (.ifCond .eq 19, 3) := by decide +kernel
theorem dX3_lay_17 : decode cX3_lay 17 = .ok (.iload_n 1, 1) := by decide +kernel
theorem dX3_lay_18 : decode cX3_lay 18 = .ok (.iconst 5, 1) := by decide +kernel
theorem dX3_lay_19 : decode cX3_lay 19 = .ok (.irem, 1) := by decide +kernel
theorem dX3_lay_20 : decode cX3_lay 20 = .ok (.ifCond .eq 13, 3) := by decide +kernel
theorem dX3_lay_23 : decode cX3_lay 23 = .ok (.iload_n 2, 1) := by decide +kernel
theorem dX3_lay_24 : decode cX3_lay 24 = .ok (.ifCond .lt 9, 3) := by decide +kernel
theorem dX3_lay_27 : decode cX3_lay 27 = .ok (.iload_n 2, 1) := by decide +kernel
theorem dX3_lay_28 : decode cX3_lay 28 = .ok (.bipush 100, 2) := by decide +kernel
theorem dX3_lay_30 : decode cX3_lay 30 = .ok (.if_icmp .lt 13, 3) := by decide +kernel
theorem dX3_lay_33 : decode cX3_lay 33 = .ok (.new 71, 3) := by decide +kernel
theorem dX3_lay_36 : decode cX3_lay 36 = .ok (.dup, 1) := by decide +kernel
theorem dX3_lay_37 : decode cX3_lay 37 = .ok (.ldc 73, 2) := by decide +kernel
theorem dX3_lay_39 : decode cX3_lay 39 = .ok (.invokespecial 75, 3) := by decide +kernel
theorem dX3_lay_42 : decode cX3_lay 42 = .ok (.athrow, 1) := by decide +kernel
theorem dX3_lay_43 : decode cX3_lay 43 = .ok (.aload_n 0, 1) := by decide +kernel
theorem dX3_lay_44 : decode cX3_lay 44 = .ok (.iconst 3, 1) := by decide +kernel
theorem dX3_lay_45 : decode cX3_lay 45 = .ok (.invokevirtual 78, 3) := by decide +kernel
theorem dX3_lay_48 : decode cX3_lay 48 = .ok (.aload_n 0, 1) := by decide +kernel
theorem dX3_lay_49 : decode cX3_lay 49 = .ok (.iload_n 1, 1) := by decide +kernel
theorem dX3_lay_50 : decode cX3_lay 50 = .ok (.putfield 29, 3) := by decide +kernel
theorem dX3_lay_53 : decode cX3_lay 53 = .ok (.aload_n 0, 1) := by decide +kernel
theorem dX3_lay_54 : decode cX3_lay 54 = .ok (.iload_n 2, 1) := by decide +kernel
theorem dX3_lay_55 : decode cX3_lay 55 = .ok (.putfield 33, 3) := by decide +kernel
theorem dX3_lay_58 : decode cX3_lay 58 = .ok (.aload_n 0, 1) := by decide +kernel
theorem dX3_lay_59 : decode cX3_lay 59 = .ok (.invokevirtual 82, 3) := by decide +kernel
theorem dX3_lay_62 : decode cX3_lay 62 = .ok (.iconst 0, 1) := by decide +kernel
theorem dX3_lay_63 : decode cX3_lay 63 = .ok (.istore_n 3, 1) := by decide +kernel
theorem dX3_lay_64 : decode cX3_lay 64 = .ok (.iload_n 3, 1) := by decide +kernel
theorem dX3_lay_65 : decode cX3_lay 65 = .ok (.iconst 4, 1) := by decide +kernel
theorem dX3_lay_66 : decode cX3_lay 66 = .ok (.if_icmp .ge 14, 3) := by decide +kernel
theorem dX3_lay_69 : decode cX3_lay 69 = .ok (.aload_n 0, 1) := by decide +kernel
theorem dX3_lay_70 : decode cX3_lay 70 = .ok (.iload_n 3, 1) := by decide +kernel
theorem dX3_lay_71 : decode cX3_lay 71 = .ok (.invokevirtual 85, 3) := by decide +kernel
theorem dX3_lay_74 : decode cX3_lay 74 = .ok (.iinc 3 1, 3) := by decide +kernel
theorem dX3_lay_77 : decode cX3_lay 77 = .ok (.goto (-13), 3) := by decide +kernel
theorem dX3_lay_80 : decode cX3_lay 80 = .ok (.aload_n 0, 1) := by decide +kernel
theorem dX3_lay_81 : decode cX3_lay 81 = .ok (.aload_n 0, 1) := by decide +kernel
theorem dX3_lay_82 : decode cX3_lay 82 = .ok (.bipush 95, 2) := by decide +kernel
theorem dX3_lay_84 : decode cX3_lay 84 = .ok (.invokevirtual 88, 3) := by decide +kernel
theorem dX3_lay_87 : decode cX3_lay 87 = .ok (.invokestatic 92, 3) := by decide +kernel
theorem dX3_lay_90 : decode cX3_lay 90 = .ok (.putfield 57, 3) := by decide +kernel
theorem dX3_lay_93 : decode cX3_lay 93 = .ok (.aload_n 0, 1) := by decide +kernel
theorem dX3_lay_94 : decode cX3_lay 94 = .ok (.getfield 48, 3) := by decide +kernel
theorem dX3_lay_97 : decode cX3_lay 97 = .ok (.ireturn, 1) := by decide +kernel
def f_X3_lay_33 (M : zM) : Option ((String ⊕ Int32) × zM) :=
  some (Sum.inl "java/lang/IllegalArgumentException", nE M)
set_option maxRecDepth 20000 in
set_option maxHeartbeats 4000000 in
theorem s_X3_lay_33 {L : zL} {X : zX} {M0 : zM} {N : Nat × Nat} {Q : State → Prop} {r : (String ⊕ Int32) × zM} (hq : vQX L X M0 N Q (zoI r.1) r.2) {M : zM} (h : f_X3_lay_33 M = some r) : V L X yX3_lay cX3_lay 4 (some FieldType.int) 7 M0 N Q M 33 [] [] := by
  unfold f_X3_lay_33 at h
  obtain rfl := Option.some.inj h
  exact V_throw (E := "java/lang/IllegalArgumentException") (tx := "no such step or shift") hq zx_X3_75 zk_X3_71 zs_X3_73 (by decide +kernel) (by decide) (Nat.le_of_ble_eq_true rfl) dX3_lay_33 dX3_lay_36 dX3_lay_37 dX3_lay_39 dX3_lay_42
def f_X3_lay_64 (n : Nat) (a0 : Nat) (i3 : Int32) (M : zM) : Option ((String ⊕ Int32) × zM) := match n with
  | 0 => none
  | n + 1 =>
    if ((4 : Int32)) ≤ i3 then
    if mK M a0 = 9 then
    (f_X3_kindAt a0 ((95 : Int32)) M).bind fun r1 =>
    (f_X3_follower r1.1 r1.2).bind fun r3 =>
    (pI 9 12 r3.2 a0 r3.1).bind fun M4 =>
    (gI 9 9 M4 a0).bind fun v5 =>
    some (Sum.inr (v5), M4)
    else none
    else
    if mK M a0 = 9 then
    (f_X3_dealTo a0 i3 M).bind fun r6 =>
    f_X3_lay_64 n a0 ((i3 + (1 : Int32))) r6.2
    else none
set_option maxRecDepth 20000 in
set_option maxHeartbeats 4000000 in
theorem s_X3_lay_64 {L : zL} {X : zX} {M0 : zM} {N : Nat × Nat} {Q : State → Prop} {r : (String ⊕ Int32) × zM} (hq : vQX L X M0 N Q (zoI r.1) r.2) {n : Nat} {a0 : Nat} {i3 : Int32} {M : zM} : f_X3_lay_64 n a0 i3 M = some r → V L X yX3_lay cX3_lay 4 (some FieldType.int) 7 M0 N Q M 64 [(0, .ref (zad L (a0))), (3, .int (i3))] [] := by
  induction n generalizing a0 i3 M with
  | zero =>
    intro h
    rw [f_X3_lay_64] at h
    cases h
  | succ n ih0 =>
    intro h
    have ih : ∀ (a0 : Nat) (i3 : Int32) (M : zM), f_X3_lay_64 n a0 i3 M = some r → V L X yX3_lay cX3_lay 4 (some FieldType.int) 7 M0 N Q M 64 [(0, .ref (zad L (a0))), (3, .int (i3))] [] := fun a0 i3 M h => ih0 h
    rw [f_X3_lay_64] at h
    refine V_iload_n dX3_lay_64 rfl 1 rfl ?_
    refine V_iconst (v := 4) dX3_lay_65 (by decide) ?_
    refine V_icmp_ge (tgt := 80) dX3_lay_66 (by decide) (fun c8 => ?_) (fun c8 => ?_)
    · replace h := (oi h).1 c8
      refine V_aload_n dX3_lay_80 rfl 0 rfl ?_
      refine V_aload_n dX3_lay_81 rfl 0 rfl ?_
      refine V_bipush (v := 95) dX3_lay_82 (by decide) ?_
      replace h := ox h
      obtain ⟨c2, h⟩ := h
      replace h := ob h
      obtain ⟨r1, e_r1, h⟩ := h
      refine V_callV_I (As := [.int ((95 : Int32))]) (rest := [.ref (zad L (a0))]) (c_X3_kindAt e_r1) zc_X3_kindAt rfl (by decide) rfl (by decide) (Or.inl c2) zm_X3_88 (Nat.le_of_ble_eq_true rfl) rfl dX3_lay_84 ?_
      refine V_pc (pc' := 87) rfl ?_
      replace h := ob h
      obtain ⟨r3, e_r3, h⟩ := h
      refine V_callS_I (As := [.int (r1.1)]) (rest := [.ref (zad L (a0))]) (c_X3_follower e_r3) zc_X3_follower rfl (by decide) zm_X3_92 (Nat.le_of_ble_eq_true rfl) rfl dX3_lay_87 ?_
      refine V_pc (pc' := 90) rfl ?_
      replace h := ob h
      obtain ⟨M4, e_M4, h⟩ := h
      refine V_putI zf_9_12 zl_X3_57 (Or.inl rfl) rfl e_M4 dX3_lay_90 ?_
      refine V_pc (pc' := 93) rfl ?_
      refine V_aload_n dX3_lay_93 rfl 0 rfl ?_
      replace h := ob h
      obtain ⟨v5, e_v5, h⟩ := h
      refine V_getI zf_9_9 zl_X3_48 e_v5 dX3_lay_94 ?_
      refine V_pc (pc' := 97) rfl ?_
      obtain rfl := Option.some.inj h
      exact V_iretX rfl hq dX3_lay_97
    · replace h := (oi h).2 c8
      refine V_aload_n dX3_lay_69 rfl 0 rfl ?_
      refine V_iload_n dX3_lay_70 rfl 1 rfl ?_
      replace h := ox h
      obtain ⟨c7, h⟩ := h
      replace h := ob h
      obtain ⟨r6, e_r6, h⟩ := h
      refine V_callV_V (As := [.int (i3)]) (rest := []) (c_X3_dealTo e_r6) zc_X3_dealTo rfl (by decide) rfl (by decide) (Or.inl c7) zm_X3_85 (Nat.le_of_ble_eq_true rfl) rfl dX3_lay_71 ?_
      refine V_pc (pc' := 74) rfl ?_
      refine V_iinc (v := i3 + (1 : Int32)) (ls' := [(3, .int ((i3 + (1 : Int32)))), (0, .ref (zad L (a0)))]) dX3_lay_74 1 rfl (by rfl) (by decide) rfl ?_
      refine V_goto (tgt := 64) dX3_lay_77 (by decide) ?_
      refine V_sub [1, 0] rfl ?_
      exact ih _ _ _ h
def f_X3_lay_0 (a0 : Nat) (i1 : Int32) (i2 : Int32) (M : zM) : Option ((String ⊕ Int32) × zM) :=
  if i1 < ((1 : Int32)) then
  f_X3_lay_33 M
  else
  if ((100 : Int32)) ≤ i1 then
  f_X3_lay_33 M
  else
  if ((zmd i1 ((2 : Int32)))) = 0 then
  f_X3_lay_33 M
  else
  if ((zmd i1 ((5 : Int32)))) = 0 then
  f_X3_lay_33 M
  else
  if i2 < 0 then
  f_X3_lay_33 M
  else
  if i2 < ((100 : Int32)) then
  if mK M a0 = 9 then
  xb (f_X3_requirePhase a0 ((3 : Int32)) M) fun w1 Mw1 =>
  (pI 9 3 Mw1 a0 i1).bind fun M7 =>
  (pI 9 4 M7 a0 i2).bind fun M8 =>
  if mK M8 a0 = 9 then
  (f_X3_beginRound a0 M8).bind fun r9 =>
  f_X3_lay_64 zN a0 ((0 : Int32)) r9.2
  else none
  else none
  else
  f_X3_lay_33 M
set_option maxRecDepth 20000 in
set_option maxHeartbeats 4000000 in
theorem s_X3_lay_0 {L : zL} {X : zX} {M0 : zM} {N : Nat × Nat} {Q : State → Prop} {r : (String ⊕ Int32) × zM} (hq : vQX L X M0 N Q (zoI r.1) r.2) {a0 : Nat} {i1 : Int32} {i2 : Int32} {M : zM} (h : f_X3_lay_0 a0 i1 i2 M = some r) : V L X yX3_lay cX3_lay 4 (some FieldType.int) 7 M0 N Q M 0 [(0, .ref (zad L (a0))), (1, .int (i1)), (2, .int (i2))] [] := by
  unfold f_X3_lay_0 at h
  refine V_iload_n dX3_lay_0 rfl 1 rfl ?_
  refine V_iconst (v := 1) dX3_lay_1 (by decide) ?_
  refine V_icmp_lt (tgt := 33) dX3_lay_2 (by decide) (fun c16 => ?_) (fun c16 => ?_)
  · replace h := (oi h).1 c16
    refine V_sub [] rfl ?_
    exact s_X3_lay_33 hq h
  · replace h := (oi h).2 c16
    refine V_iload_n dX3_lay_5 rfl 1 rfl ?_
    refine V_bipush (v := 100) dX3_lay_6 (by decide) ?_
    refine V_icmp_ge (tgt := 33) dX3_lay_8 (by decide) (fun c15 => ?_) (fun c15 => ?_)
    · replace h := (oi h).1 c15
      refine V_sub [] rfl ?_
      exact s_X3_lay_33 hq h
    · replace h := (oi h).2 c15
      refine V_iload_n dX3_lay_11 rfl 1 rfl ?_
      refine V_iconst (v := 2) dX3_lay_12 (by decide) ?_
      refine V_irem dX3_lay_13 (by decide) ?_
      refine V_if_eq (tgt := 33) dX3_lay_14 (by decide) (fun c14 => ?_) (fun c14 => ?_)
      · replace h := (oi h).1 c14
        refine V_sub [] rfl ?_
        exact s_X3_lay_33 hq h
      · replace h := (oi h).2 c14
        refine V_iload_n dX3_lay_17 rfl 1 rfl ?_
        refine V_iconst (v := 5) dX3_lay_18 (by decide) ?_
        refine V_irem dX3_lay_19 (by decide) ?_
        refine V_if_eq (tgt := 33) dX3_lay_20 (by decide) (fun c13 => ?_) (fun c13 => ?_)
        · replace h := (oi h).1 c13
          refine V_sub [] rfl ?_
          exact s_X3_lay_33 hq h
        · replace h := (oi h).2 c13
          refine V_iload_n dX3_lay_23 rfl 2 rfl ?_
          refine V_if_lt (tgt := 33) dX3_lay_24 (by decide) (fun c12 => ?_) (fun c12 => ?_)
          · replace h := (oi h).1 c12
            refine V_sub [] rfl ?_
            exact s_X3_lay_33 hq h
          · replace h := (oi h).2 c12
            refine V_iload_n dX3_lay_27 rfl 2 rfl ?_
            refine V_bipush (v := 100) dX3_lay_28 (by decide) ?_
            refine V_icmp_lt (tgt := 43) dX3_lay_30 (by decide) (fun c11 => ?_) (fun c11 => ?_)
            · replace h := (oi h).1 c11
              refine V_aload_n dX3_lay_43 rfl 0 rfl ?_
              refine V_iconst (v := 3) dX3_lay_44 (by decide) ?_
              replace h := ox h
              obtain ⟨c2, h⟩ := h
              replace h := xbs h
              rcases h with ⟨E_r1, M_r1, e_r1, rfl⟩ | ⟨w1, Mw1, e_r1, h⟩
              · exact V_callVt (As := [.int ((3 : Int32))]) (rest := []) (c_X3_requirePhase e_r1) hq (by decide +kernel) zc_X3_requirePhase rfl (by decide) rfl (by decide) (Or.inl c2) zm_X3_78 (Nat.le_of_ble_eq_true rfl) rfl dX3_lay_45
              · refine V_callVx_V (As := [.int ((3 : Int32))]) (rest := []) (c_X3_requirePhase e_r1) zc_X3_requirePhase rfl (by decide) rfl (by decide) (Or.inl c2) zm_X3_78 (Nat.le_of_ble_eq_true rfl) rfl dX3_lay_45 ?_
                refine V_pc (pc' := 48) rfl ?_
                refine V_aload_n dX3_lay_48 rfl 0 rfl ?_
                refine V_iload_n dX3_lay_49 rfl 1 rfl ?_
                replace h := ob h
                obtain ⟨M7, e_M7, h⟩ := h
                refine V_putI zf_9_3 zl_X3_29 (Or.inl rfl) rfl e_M7 dX3_lay_50 ?_
                refine V_pc (pc' := 53) rfl ?_
                refine V_aload_n dX3_lay_53 rfl 0 rfl ?_
                refine V_iload_n dX3_lay_54 rfl 2 rfl ?_
                replace h := ob h
                obtain ⟨M8, e_M8, h⟩ := h
                refine V_putI zf_9_4 zl_X3_33 (Or.inl rfl) rfl e_M8 dX3_lay_55 ?_
                refine V_pc (pc' := 58) rfl ?_
                refine V_aload_n dX3_lay_58 rfl 0 rfl ?_
                replace h := ox h
                obtain ⟨c10, h⟩ := h
                replace h := ob h
                obtain ⟨r9, e_r9, h⟩ := h
                refine V_callV_V (As := []) (rest := []) (c_X3_beginRound e_r9) zc_X3_beginRound rfl (by decide) rfl (by decide) (Or.inl c10) zm_X3_82 (Nat.le_of_ble_eq_true rfl) rfl dX3_lay_59 ?_
                refine V_pc (pc' := 62) rfl ?_
                refine V_iconst (v := 0) dX3_lay_62 (by decide) ?_
                refine V_istore_n (ls' := [(3, .int ((0 : Int32))), (0, .ref (zad L (a0))), (1, .int (i1)), (2, .int (i2))]) dX3_lay_63 rfl (by decide) rfl ?_
                refine V_sub [1, 0] rfl ?_
                exact s_X3_lay_64 hq h
            · replace h := (oi h).2 c11
              refine V_sub [] rfl ?_
              exact s_X3_lay_33 hq h
def f_X3_lay (a0 : Nat) (i1 : Int32) (i2 : Int32) (M : zM) : Option ((String ⊕ Int32) × zM) := f_X3_lay_0 a0 i1 i2 M
theorem c_X3_lay {L : zL} {l : Launch} {a0 : Nat} {i1 : Int32} {i2 : Int32} {M : zM} {r : (String ⊕ Int32) × zM} (h : f_X3_lay a0 i1 i2 M = some r) : CX L l yX3_lay cX3_lay 4 (some FieldType.int) 7 M [.ref (zad L (a0)), .int (i1), .int (i2)] (zoI r.1) r.2 :=
  CX.of ⟨by decide +kernel, by decide +kernel⟩ (Nat.le_of_ble_eq_true rfl) fun X Q hq => s_X3_lay_0 hq h
/-! Windsparlour.tilesLeft()I -/
theorem dX3_tilesLeft_0 : decode cX3_tilesLeft 0 = .ok (.aload_n 0, 1) := by decide +kernel
theorem dX3_tilesLeft_1 : decode cX3_tilesLeft 1 = .ok (.getfield 51, 3) := by decide +kernel
theorem dX3_tilesLeft_4 : decode cX3_tilesLeft 4 = .ok (.ifCond .ne 7, 3) := by decide +kernel
theorem dX3_tilesLeft_7 : decode cX3_tilesLeft 7 = .ok (.iconst 0, 1) := by decide +kernel
theorem dX3_tilesLeft_8 : decode cX3_tilesLeft 8 = .ok (.goto 15, 3) := by decide +kernel
theorem dX3_tilesLeft_11 : decode cX3_tilesLeft 11 = .ok (.bipush 60, 2) := by decide +kernel
theorem dX3_tilesLeft_13 : decode cX3_tilesLeft 13 = .ok (.aload_n 0, 1) := by decide +kernel
theorem dX3_tilesLeft_14 : decode cX3_tilesLeft 14 = .ok (.getfield 36, 3) := by decide +kernel
theorem dX3_tilesLeft_17 : decode cX3_tilesLeft 17 = .ok (.isub, 1) := by decide +kernel
theorem dX3_tilesLeft_18 : decode cX3_tilesLeft 18 = .ok (.aload_n 0, 1) := by decide +kernel
theorem dX3_tilesLeft_19 : decode cX3_tilesLeft 19 = .ok (.getfield 39, 3) := by decide +kernel
theorem dX3_tilesLeft_22 : decode cX3_tilesLeft 22 = .ok (.isub, 1) := by decide +kernel
theorem dX3_tilesLeft_23 : decode cX3_tilesLeft 23 = .ok (.ireturn, 1) := by decide +kernel
def f_X3_tilesLeft_0 (a0 : Nat) (M : zM) : Option (Int32 × zM) :=
  (gI 9 10 M a0).bind fun v1 =>
  if v1 = 0 then
  some ((0 : Int32), M)
  else
  (gI 9 5 M a0).bind fun v2 =>
  (gI 9 6 M a0).bind fun v3 =>
  some ((((((60 : Int32)) - v2)) - v3), M)
set_option maxRecDepth 20000 in
set_option maxHeartbeats 4000000 in
theorem s_X3_tilesLeft_0 {L : zL} {X : zX} {M0 : zM} {N : Nat × Nat} {Q : State → Prop} {r : Int32 × zM} (hq : vQ L X M0 N Q (some (.int r.1)) r.2) {a0 : Nat} {M : zM} (h : f_X3_tilesLeft_0 a0 M = some r) : V L X yX3_tilesLeft cX3_tilesLeft 1 (some FieldType.int) 1 M0 N Q M 0 [(0, .ref (zad L (a0)))] [] := by
  unfold f_X3_tilesLeft_0 at h
  refine V_aload_n dX3_tilesLeft_0 rfl 0 rfl ?_
  replace h := ob h
  obtain ⟨v1, e_v1, h⟩ := h
  refine V_getI zf_9_10 zl_X3_51 e_v1 dX3_tilesLeft_1 ?_
  refine V_pc (pc' := 4) rfl ?_
  refine V_if_ne (tgt := 11) dX3_tilesLeft_4 (by decide) (fun c4 => ?_) (fun c4 => ?_)
  · replace h := (oi h).2 c4
    refine V_bipush (v := 60) dX3_tilesLeft_11 (by decide) ?_
    refine V_aload_n dX3_tilesLeft_13 rfl 0 rfl ?_
    replace h := ob h
    obtain ⟨v2, e_v2, h⟩ := h
    refine V_getI zf_9_5 zl_X3_36 e_v2 dX3_tilesLeft_14 ?_
    refine V_pc (pc' := 17) rfl ?_
    refine V_isub dX3_tilesLeft_17 ?_
    refine V_aload_n dX3_tilesLeft_18 rfl 0 rfl ?_
    replace h := ob h
    obtain ⟨v3, e_v3, h⟩ := h
    refine V_getI zf_9_6 zl_X3_39 e_v3 dX3_tilesLeft_19 ?_
    refine V_pc (pc' := 22) rfl ?_
    refine V_isub dX3_tilesLeft_22 ?_
    obtain rfl := Option.some.inj h
    exact V_iret rfl hq dX3_tilesLeft_23
  · replace h := (oi h).1 c4
    refine V_iconst (v := 0) dX3_tilesLeft_7 (by decide) ?_
    refine V_goto (tgt := 23) dX3_tilesLeft_8 (by decide) ?_
    obtain rfl := Option.some.inj h
    exact V_iret rfl hq dX3_tilesLeft_23
def f_X3_tilesLeft (a0 : Nat) (M : zM) : Option (Int32 × zM) := f_X3_tilesLeft_0 a0 M
theorem c_X3_tilesLeft {L : zL} {l : Launch} {a0 : Nat} {M : zM} {r : Int32 × zM} (h : f_X3_tilesLeft a0 M = some r) : CP L l yX3_tilesLeft cX3_tilesLeft 1 (some FieldType.int) 1 M [.ref (zad L (a0))] (some (.int r.1)) r.2 :=
  CP.of ⟨by decide +kernel, by decide +kernel⟩ (Nat.le_of_ble_eq_true rfl) fun X Q hq => s_X3_tilesLeft_0 hq h
/-! Windsparlour.canDraw()Z -/
theorem dX3_canDraw_0 : decode cX3_canDraw 0 = .ok (.aload_n 0, 1) := by decide +kernel
theorem dX3_canDraw_1 : decode cX3_canDraw 1 = .ok (.invokevirtual 250, 3) := by decide +kernel
theorem dX3_canDraw_4 : decode cX3_canDraw 4 = .ok (.bipush 24, 2) := by decide +kernel
theorem dX3_canDraw_6 : decode cX3_canDraw 6 = .ok (.if_icmp .le 7, 3) := by decide +kernel
theorem dX3_canDraw_9 : decode cX3_canDraw 9 = .ok (.iconst 1, 1) := by decide +kernel
theorem dX3_canDraw_10 : decode cX3_canDraw 10 = .ok (.goto 4, 3) := by decide +kernel
theorem dX3_canDraw_13 : decode cX3_canDraw 13 = .ok (.iconst 0, 1) := by decide +kernel
theorem dX3_canDraw_14 : decode cX3_canDraw 14 = .ok (.ireturn, 1) := by decide +kernel
def f_X3_canDraw_0 (a0 : Nat) (M : zM) : Option (Int32 × zM) :=
  if mK M a0 = 9 then
  (f_X3_tilesLeft a0 M).bind fun r1 =>
  if r1.1 ≤ ((24 : Int32)) then
  some ((0 : Int32), r1.2)
  else
  some ((1 : Int32), r1.2)
  else none
set_option maxRecDepth 20000 in
set_option maxHeartbeats 4000000 in
theorem s_X3_canDraw_0 {L : zL} {X : zX} {M0 : zM} {N : Nat × Nat} {Q : State → Prop} {r : Int32 × zM} (hq : vQ L X M0 N Q (some (.int r.1)) r.2) {a0 : Nat} {M : zM} (h : f_X3_canDraw_0 a0 M = some r) : V L X yX3_canDraw cX3_canDraw 1 (some FieldType.boolean) 2 M0 N Q M 0 [(0, .ref (zad L (a0)))] [] := by
  unfold f_X3_canDraw_0 at h
  refine V_aload_n dX3_canDraw_0 rfl 0 rfl ?_
  replace h := ox h
  obtain ⟨c2, h⟩ := h
  replace h := ob h
  obtain ⟨r1, e_r1, h⟩ := h
  refine V_callV_I (As := []) (rest := []) (c_X3_tilesLeft e_r1) zc_X3_tilesLeft rfl (by decide) rfl (by decide) (Or.inl c2) zm_X3_250 (Nat.le_of_ble_eq_true rfl) rfl dX3_canDraw_1 ?_
  refine V_pc (pc' := 4) rfl ?_
  refine V_bipush (v := 24) dX3_canDraw_4 (by decide) ?_
  refine V_icmp_le (tgt := 13) dX3_canDraw_6 (by decide) (fun c3 => ?_) (fun c3 => ?_)
  · replace h := (oi h).1 c3
    refine V_iconst (v := 0) dX3_canDraw_13 (by decide) ?_
    obtain rfl := Option.some.inj h
    exact V_zret (ty := .boolean) rfl rfl hq dX3_canDraw_14
  · replace h := (oi h).2 c3
    refine V_iconst (v := 1) dX3_canDraw_9 (by decide) ?_
    refine V_goto (tgt := 14) dX3_canDraw_10 (by decide) ?_
    obtain rfl := Option.some.inj h
    exact V_zret (ty := .boolean) rfl rfl hq dX3_canDraw_14
def f_X3_canDraw (a0 : Nat) (M : zM) : Option (Int32 × zM) := f_X3_canDraw_0 a0 M
theorem c_X3_canDraw {L : zL} {l : Launch} {a0 : Nat} {M : zM} {r : Int32 × zM} (h : f_X3_canDraw a0 M = some r) : CP L l yX3_canDraw cX3_canDraw 1 (some FieldType.boolean) 2 M [.ref (zad L (a0))] (some (.int r.1)) r.2 :=
  CP.of ⟨by decide +kernel, by decide +kernel⟩ (Nat.le_of_ble_eq_true rfl) fun X Q hq => s_X3_canDraw_0 hq h
/-! Windsparlour.waitsOf(LWindsparlour$Seat;)J -/
theorem dX3_waitsOf_0 : decode cX3_waitsOf 0 = .ok (.aload_n 1, 1) := by decide +kernel
theorem dX3_waitsOf_1 : decode cX3_waitsOf 1 = .ok (.invokevirtual 267, 3) := by decide +kernel
theorem dX3_waitsOf_4 : decode cX3_waitsOf 4 = .ok (.bipush 10, 2) := by decide +kernel
theorem dX3_waitsOf_6 : decode cX3_waitsOf 6 = .ok (.if_icmp .eq 5, 3) := by decide +kernel
theorem dX3_waitsOf_9 : decode cX3_waitsOf 9 = .ok (.lconst 0, 1) := by decide +kernel
theorem dX3_waitsOf_10 : decode cX3_waitsOf 10 = .ok (.lreturn, 1) := by decide +kernel
theorem dX3_waitsOf_11 : decode cX3_waitsOf 11 = .ok (.lconst 0, 1) := by decide +kernel
theorem dX3_waitsOf_12 : decode cX3_waitsOf 12 = .ok (.lstore_n 2, 1) := by decide +kernel
theorem dX3_waitsOf_13 : decode cX3_waitsOf 13 = .ok (.iconst 0, 1) := by decide +kernel
theorem dX3_waitsOf_14 : decode cX3_waitsOf 14 = .ok (.istore 4, 2) := by decide +kernel
theorem dX3_waitsOf_16 : decode cX3_waitsOf 16 = .ok (.iload 4, 2) := by decide +kernel
theorem dX3_waitsOf_18 : decode cX3_waitsOf 18 = .ok (.bipush 25, 2) := by decide +kernel
theorem dX3_waitsOf_20 : decode cX3_waitsOf 20 = .ok (.if_icmp .ge 44, 3) := by decide +kernel
theorem dX3_waitsOf_23 : decode cX3_waitsOf 23 = .ok (.aload_n 1, 1) := by decide +kernel
theorem dX3_waitsOf_24 : decode cX3_waitsOf 24 = .ok (.iload 4, 2) := by decide +kernel
theorem dX3_waitsOf_26 : decode cX3_waitsOf 26 = .ok (.iconst 1, 1) := by decide +kernel
theorem dX3_waitsOf_27 : decode cX3_waitsOf 27 = .ok (.invokevirtual 157, 3) := by decide +kernel
theorem dX3_waitsOf_30 : decode cX3_waitsOf 30 = .ok (.aload_n 0, 1) := by decide +kernel
theorem dX3_waitsOf_31 : decode cX3_waitsOf 31 = .ok (.getfield 18, 3) := by decide +kernel
theorem dX3_waitsOf_34 : decode cX3_waitsOf 34 = .ok (.aload_n 1, 1) := by decide +kernel
theorem dX3_waitsOf_35 : decode cX3_waitsOf 35 = .ok (.getfield 201, 3) := by decide +kernel
theorem dX3_waitsOf_38 : decode cX3_waitsOf 38 = .ok (.invokevirtual 306, 3) := by decide +kernel
theorem dX3_waitsOf_41 : decode cX3_waitsOf 41 = .ok (.ifCond .eq 10, 3) := by decide +kernel
theorem dX3_waitsOf_44 : decode cX3_waitsOf 44 = .ok (.lload_n 2, 1) := by decide +kernel
theorem dX3_waitsOf_45 : decode cX3_waitsOf 45 = .ok (.lconst 1, 1) := by decide +kernel
theorem dX3_waitsOf_46 : decode cX3_waitsOf 46 = .ok (.iload 4, 2) := by decide +kernel
theorem dX3_waitsOf_48 : decode cX3_waitsOf 48 = .ok (.lshl, 1) := by decide +kernel
theorem dX3_waitsOf_49 : decode cX3_waitsOf 49 = .ok (.lor, 1) := by decide +kernel
theorem dX3_waitsOf_50 : decode cX3_waitsOf 50 = .ok (.lstore_n 2, 1) := by decide +kernel
theorem dX3_waitsOf_51 : decode cX3_waitsOf 51 = .ok (.aload_n 1, 1) := by decide +kernel
theorem dX3_waitsOf_52 : decode cX3_waitsOf 52 = .ok (.iload 4, 2) := by decide +kernel
theorem dX3_waitsOf_54 : decode cX3_waitsOf 54 = .ok (.iconst (-1), 1) := by decide +kernel
theorem dX3_waitsOf_55 : decode cX3_waitsOf 55 = .ok (.invokevirtual 157, 3) := by decide +kernel
theorem dX3_waitsOf_58 : decode cX3_waitsOf 58 = .ok (.iinc 4 1, 3) := by decide +kernel
theorem dX3_waitsOf_61 : decode cX3_waitsOf 61 = .ok (.goto (-45), 3) := by decide +kernel
theorem dX3_waitsOf_64 : decode cX3_waitsOf 64 = .ok (.lload_n 2, 1) := by decide +kernel
theorem dX3_waitsOf_65 : decode cX3_waitsOf 65 = .ok (.lreturn, 1) := by decide +kernel
def f_X3_waitsOf_51 (K16 : Nat → Nat → Int64 → Int32 → zM → Option (Int64 × zM)) (a0 : Nat) (a1 : Nat) (j2 : Int64) (i4 : Int32) (M : zM) : Option (Int64 × zM) :=
  if mK M a1 = 7 then
  (f_X1_change a1 i4 ((-1 : Int32)) M).bind fun r1 =>
  K16 a0 a1 j2 ((i4 + (1 : Int32))) r1.2
  else none
set_option maxRecDepth 20000 in
set_option maxHeartbeats 4000000 in
theorem s_X3_waitsOf_51 {L : zL} {X : zX} {M0 : zM} {N : Nat × Nat} {Q : State → Prop} {r : Int64 × zM} {K16 : Nat → Nat → Int64 → Int32 → zM → Option (Int64 × zM)} (hK16 : ∀ (a0 : Nat) (a1 : Nat) (j2 : Int64) (i4 : Int32) (M : zM), K16 a0 a1 j2 i4 M = some r → V L X yX3_waitsOf cX3_waitsOf 5 (some FieldType.long) 4 M0 N Q M 16 [(0, .ref (zad L (a0))), (1, .ref (zad L (a1))), (2, .long (j2)), (4, .int (i4))] []) (hq : vQ L X M0 N Q (some (.long r.1)) r.2) {a0 : Nat} {a1 : Nat} {j2 : Int64} {i4 : Int32} {M : zM} (h : f_X3_waitsOf_51 K16 a0 a1 j2 i4 M = some r) : V L X yX3_waitsOf cX3_waitsOf 5 (some FieldType.long) 4 M0 N Q M 51 [(0, .ref (zad L (a0))), (1, .ref (zad L (a1))), (2, .long (j2)), (4, .int (i4))] [] := by
  unfold f_X3_waitsOf_51 at h
  refine V_aload_n dX3_waitsOf_51 rfl 1 rfl ?_
  refine V_iload dX3_waitsOf_52 3 rfl ?_
  refine V_iconst (v := -1) dX3_waitsOf_54 (by decide) ?_
  replace h := ox h
  obtain ⟨c2, h⟩ := h
  replace h := ob h
  obtain ⟨r1, e_r1, h⟩ := h
  refine V_callV_V (As := [.int (i4), .int ((-1 : Int32))]) (rest := []) (c_X1_change e_r1) zc_X1_change rfl (by decide) rfl (by decide) (Or.inl c2) zm_X3_157 (Nat.le_of_ble_eq_true rfl) rfl dX3_waitsOf_55 ?_
  refine V_pc (pc' := 58) rfl ?_
  refine V_iinc (v := i4 + (1 : Int32)) (ls' := [(4, .int ((i4 + (1 : Int32)))), (0, .ref (zad L (a0))), (1, .ref (zad L (a1))), (2, .long (j2))]) dX3_waitsOf_58 3 rfl (by rfl) (by decide) rfl ?_
  refine V_goto (tgt := 16) dX3_waitsOf_61 (by decide) ?_
  refine V_sub [1, 2, 3, 0] rfl ?_
  exact hK16 _ _ _ _ _ h
def f_X3_waitsOf_16 (n : Nat) (a0 : Nat) (a1 : Nat) (j2 : Int64) (i4 : Int32) (M : zM) : Option (Int64 × zM) := match n with
  | 0 => none
  | n + 1 =>
    if ((25 : Int32)) ≤ i4 then
    some (j2, M)
    else
    if mK M a1 = 7 then
    (f_X1_change a1 i4 ((1 : Int32)) M).bind fun r1 =>
    (gR 9 1 r1.2 a0).bind fun v3 =>
    (gR 7 0 r1.2 a1).bind fun v4 =>
    if mK r1.2 v3 = 6 then
    (f_X0_complete v3 v4 r1.2).bind fun r5 =>
    if r5.1 = 0 then
    f_X3_waitsOf_51 (f_X3_waitsOf_16 n) a0 a1 j2 i4 r5.2
    else
    f_X3_waitsOf_51 (f_X3_waitsOf_16 n) a0 a1 ((j2 ||| ((((1 : Int64)) <<< (i4.toInt64 &&& 63))))) i4 r5.2
    else none
    else none
set_option maxRecDepth 20000 in
set_option maxHeartbeats 4000000 in
theorem s_X3_waitsOf_16 {L : zL} {X : zX} {M0 : zM} {N : Nat × Nat} {Q : State → Prop} {r : Int64 × zM} (hq : vQ L X M0 N Q (some (.long r.1)) r.2) {n : Nat} {a0 : Nat} {a1 : Nat} {j2 : Int64} {i4 : Int32} {M : zM} : f_X3_waitsOf_16 n a0 a1 j2 i4 M = some r → V L X yX3_waitsOf cX3_waitsOf 5 (some FieldType.long) 4 M0 N Q M 16 [(0, .ref (zad L (a0))), (1, .ref (zad L (a1))), (2, .long (j2)), (4, .int (i4))] [] := by
  induction n generalizing a0 a1 j2 i4 M with
  | zero =>
    intro h
    rw [f_X3_waitsOf_16] at h
    cases h
  | succ n ih0 =>
    intro h
    have ih : ∀ (a0 : Nat) (a1 : Nat) (j2 : Int64) (i4 : Int32) (M : zM), f_X3_waitsOf_16 n a0 a1 j2 i4 M = some r → V L X yX3_waitsOf cX3_waitsOf 5 (some FieldType.long) 4 M0 N Q M 16 [(0, .ref (zad L (a0))), (1, .ref (zad L (a1))), (2, .long (j2)), (4, .int (i4))] [] := fun a0 a1 j2 i4 M h => ih0 h
    rw [f_X3_waitsOf_16] at h
    refine V_iload dX3_waitsOf_16 3 rfl ?_
    refine V_bipush (v := 25) dX3_waitsOf_18 (by decide) ?_
    refine V_icmp_ge (tgt := 64) dX3_waitsOf_20 (by decide) (fun c8 => ?_) (fun c8 => ?_)
    · replace h := (oi h).1 c8
      refine V_lload_n dX3_waitsOf_64 rfl 2 rfl ?_
      obtain rfl := Option.some.inj h
      exact V_lret rfl hq dX3_waitsOf_65
    · replace h := (oi h).2 c8
      refine V_aload_n dX3_waitsOf_23 rfl 1 rfl ?_
      refine V_iload dX3_waitsOf_24 3 rfl ?_
      refine V_iconst (v := 1) dX3_waitsOf_26 (by decide) ?_
      replace h := ox h
      obtain ⟨c2, h⟩ := h
      replace h := ob h
      obtain ⟨r1, e_r1, h⟩ := h
      refine V_callV_V (As := [.int (i4), .int ((1 : Int32))]) (rest := []) (c_X1_change e_r1) zc_X1_change rfl (by decide) rfl (by decide) (Or.inl c2) zm_X3_157 (Nat.le_of_ble_eq_true rfl) rfl dX3_waitsOf_27 ?_
      refine V_pc (pc' := 30) rfl ?_
      refine V_aload_n dX3_waitsOf_30 rfl 0 rfl ?_
      replace h := ob h
      obtain ⟨v3, e_v3, h⟩ := h
      refine V_getR zf_9_1 zl_X3_18 e_v3 dX3_waitsOf_31 ?_
      refine V_pc (pc' := 34) rfl ?_
      refine V_aload_n dX3_waitsOf_34 rfl 1 rfl ?_
      replace h := ob h
      obtain ⟨v4, e_v4, h⟩ := h
      refine V_getR zf_7_0 zl_X3_201 e_v4 dX3_waitsOf_35 ?_
      refine V_pc (pc' := 38) rfl ?_
      replace h := ox h
      obtain ⟨c6, h⟩ := h
      replace h := ob h
      obtain ⟨r5, e_r5, h⟩ := h
      refine V_callV_I (As := [.ref (zad L (v4))]) (rest := []) (c_X0_complete e_r5) zc_X0_complete rfl (by decide) rfl (by decide) (Or.inl c6) zm_X3_306 (Nat.le_of_ble_eq_true rfl) rfl dX3_waitsOf_38 ?_
      refine V_pc (pc' := 41) rfl ?_
      refine V_if_eq (tgt := 51) dX3_waitsOf_41 (by decide) (fun c7 => ?_) (fun c7 => ?_)
      · replace h := (oi h).1 c7
        exact s_X3_waitsOf_51 ih hq h
      · replace h := (oi h).2 c7
        refine V_lload_n dX3_waitsOf_44 rfl 2 rfl ?_
        refine V_lconst (v := 1) dX3_waitsOf_45 (by decide) ?_
        refine V_iload dX3_waitsOf_46 3 rfl ?_
        refine V_lshl dX3_waitsOf_48 ?_
        refine V_lor dX3_waitsOf_49 ?_
        refine V_lstore_n (ls' := [(2, .long ((j2 ||| ((((1 : Int64)) <<< (i4.toInt64 &&& 63)))))), (0, .ref (zad L (a0))), (1, .ref (zad L (a1))), (4, .int (i4))]) dX3_waitsOf_50 rfl (by decide) rfl ?_
        refine V_sub [1, 2, 0, 3] rfl ?_
        exact s_X3_waitsOf_51 ih hq h
def f_X3_waitsOf_0 (a0 : Nat) (a1 : Nat) (M : zM) : Option (Int64 × zM) :=
  if mK M a1 = 7 then
  (f_X1_size a1 M).bind fun r1 =>
  if r1.1 = ((10 : Int32)) then
  f_X3_waitsOf_16 zN a0 a1 ((0 : Int64)) ((0 : Int32)) r1.2
  else
  some ((0 : Int64), r1.2)
  else none
set_option maxRecDepth 20000 in
set_option maxHeartbeats 4000000 in
theorem s_X3_waitsOf_0 {L : zL} {X : zX} {M0 : zM} {N : Nat × Nat} {Q : State → Prop} {r : Int64 × zM} (hq : vQ L X M0 N Q (some (.long r.1)) r.2) {a0 : Nat} {a1 : Nat} {M : zM} (h : f_X3_waitsOf_0 a0 a1 M = some r) : V L X yX3_waitsOf cX3_waitsOf 5 (some FieldType.long) 4 M0 N Q M 0 [(0, .ref (zad L (a0))), (1, .ref (zad L (a1)))] [] := by
  unfold f_X3_waitsOf_0 at h
  refine V_aload_n dX3_waitsOf_0 rfl 1 rfl ?_
  replace h := ox h
  obtain ⟨c2, h⟩ := h
  replace h := ob h
  obtain ⟨r1, e_r1, h⟩ := h
  refine V_callV_I (As := []) (rest := []) (c_X1_size e_r1) zc_X1_size rfl (by decide) rfl (by decide) (Or.inl c2) zm_X3_267 (Nat.le_of_ble_eq_true rfl) rfl dX3_waitsOf_1 ?_
  refine V_pc (pc' := 4) rfl ?_
  refine V_bipush (v := 10) dX3_waitsOf_4 (by decide) ?_
  refine V_icmp_eq (tgt := 11) dX3_waitsOf_6 (by decide) (fun c3 => ?_) (fun c3 => ?_)
  · replace h := (oi h).1 c3
    refine V_lconst (v := 0) dX3_waitsOf_11 (by decide) ?_
    refine V_lstore_n (ls' := [(2, .long ((0 : Int64))), (0, .ref (zad L (a0))), (1, .ref (zad L (a1)))]) dX3_waitsOf_12 rfl (by decide) rfl ?_
    refine V_iconst (v := 0) dX3_waitsOf_13 (by decide) ?_
    refine V_istore (ls' := [(4, .int ((0 : Int32))), (2, .long ((0 : Int64))), (0, .ref (zad L (a0))), (1, .ref (zad L (a1)))]) dX3_waitsOf_14 (by decide) rfl ?_
    refine V_sub [2, 3, 1, 0] rfl ?_
    exact s_X3_waitsOf_16 hq h
  · replace h := (oi h).2 c3
    refine V_lconst (v := 0) dX3_waitsOf_9 (by decide) ?_
    obtain rfl := Option.some.inj h
    exact V_lret rfl hq dX3_waitsOf_10
def f_X3_waitsOf (a0 : Nat) (a1 : Nat) (M : zM) : Option (Int64 × zM) := f_X3_waitsOf_0 a0 a1 M
theorem c_X3_waitsOf {L : zL} {l : Launch} {a0 : Nat} {a1 : Nat} {M : zM} {r : Int64 × zM} (h : f_X3_waitsOf a0 a1 M = some r) : CP L l yX3_waitsOf cX3_waitsOf 5 (some FieldType.long) 4 M [.ref (zad L (a0)), .ref (zad L (a1))] (some (.long r.1)) r.2 :=
  CP.of ⟨by decide +kernel, by decide +kernel⟩ (Nat.le_of_ble_eq_true rfl) fun X Q hq => s_X3_waitsOf_0 hq h
/-! Windsparlour.endWithoutWinner()V -/
theorem dX3_endWithoutWinner_0 : decode cX3_endWithoutWinner 0 = .ok (.iconst 0, 1) := by decide +kernel
theorem dX3_endWithoutWinner_1 : decode cX3_endWithoutWinner 1 = .ok (.istore_n 1, 1) := by decide +kernel
theorem dX3_endWithoutWinner_2 : decode cX3_endWithoutWinner 2 = .ok (.iconst 0, 1) := by decide +kernel
theorem dX3_endWithoutWinner_3 : decode cX3_endWithoutWinner 3 = .ok (.istore_n 2, 1) := by decide +kernel
theorem dX3_endWithoutWinner_4 : decode cX3_endWithoutWinner 4 = .ok (.iload_n 2, 1) := by decide +kernel
theorem dX3_endWithoutWinner_5 : decode cX3_endWithoutWinner 5 = .ok (.iconst 4, 1) := by decide +kernel
theorem dX3_endWithoutWinner_6 : decode cX3_endWithoutWinner 6 = .ok (.if_icmp .ge 32, 3) := by decide +kernel
theorem dX3_endWithoutWinner_9 : decode cX3_endWithoutWinner 9 = .ok (.iload_n 1, 1) := by decide +kernel
theorem dX3_endWithoutWinner_10 : decode cX3_endWithoutWinner 10 = .ok (.aload_n 0, 1) := by decide +kernel
theorem dX3_endWithoutWinner_11 : decode cX3_endWithoutWinner 11 = .ok (.aload_n 0, 1) := by decide +kernel
theorem dX3_endWithoutWinner_12 : decode cX3_endWithoutWinner 12 = .ok (.getfield 11, 3) := by decide +kernel
theorem dX3_endWithoutWinner_15 : decode cX3_endWithoutWinner 15 = .ok (.iload_n 2, 1) := by decide +kernel
theorem dX3_endWithoutWinner_16 : decode cX3_endWithoutWinner 16 = .ok (.aaload, 1) := by decide +kernel
theorem dX3_endWithoutWinner_17 : decode cX3_endWithoutWinner 17 = .ok (.invokevirtual 209, 3) := by decide +kernel
theorem dX3_endWithoutWinner_20 : decode cX3_endWithoutWinner 20 = .ok (.lconst 0, 1) := by decide +kernel
theorem dX3_endWithoutWinner_21 : decode cX3_endWithoutWinner 21 = .ok (.lcmp, 1) := by decide +kernel
theorem dX3_endWithoutWinner_22 : decode cX3_endWithoutWinner 22 = .ok (.ifCond .eq 7, 3) := by decide +kernel
theorem dX3_endWithoutWinner_25 : decode cX3_endWithoutWinner 25 = .ok (.iconst 1, 1) := by decide +kernel
theorem dX3_endWithoutWinner_26 : decode cX3_endWithoutWinner 26 = .ok (.goto 4, 3) := by decide +kernel
theorem dX3_endWithoutWinner_29 : decode cX3_endWithoutWinner 29 = .ok (.iconst 0, 1) := by decide +kernel
theorem dX3_endWithoutWinner_30 : decode cX3_endWithoutWinner 30 = .ok (.iadd, 1) := by decide +kernel
theorem dX3_endWithoutWinner_31 : decode cX3_endWithoutWinner 31 = .ok (.istore_n 1, 1) := by decide +kernel
theorem dX3_endWithoutWinner_32 : decode cX3_endWithoutWinner 32 = .ok (.iinc 2 1, 3) := by decide +kernel
theorem dX3_endWithoutWinner_35 : decode cX3_endWithoutWinner 35 = .ok (.goto (-31), 3) := by decide +kernel
theorem dX3_endWithoutWinner_38 : decode cX3_endWithoutWinner 38 = .ok (.iconst 0, 1) := by decide +kernel
theorem dX3_endWithoutWinner_39 : decode cX3_endWithoutWinner 39 = .ok (.istore_n 2, 1) := by decide +kernel
theorem dX3_endWithoutWinner_40 : decode cX3_endWithoutWinner 40 = .ok (.iload_n 2, 1) := by decide +kernel
theorem dX3_endWithoutWinner_41 : decode cX3_endWithoutWinner 41 = .ok (.iconst 4, 1) := by decide +kernel
theorem dX3_endWithoutWinner_42 : decode cX3_endWithoutWinner 42 = .ok (.if_icmp .ge 59, 3) := by decide +kernel
theorem dX3_endWithoutWinner_45 : decode cX3_endWithoutWinner 45 = .ok (.aload_n 0, 1) := by decide +kernel
theorem dX3_endWithoutWinner_46 : decode cX3_endWithoutWinner 46 = .ok (.aload_n 0, 1) := by decide +kernel
theorem dX3_endWithoutWinner_47 : decode cX3_endWithoutWinner 47 = .ok (.getfield 11, 3) := by decide +kernel
theorem dX3_endWithoutWinner_50 : decode cX3_endWithoutWinner 50 = .ok (.iload_n 2, 1) := by decide +kernel
theorem dX3_endWithoutWinner_51 : decode cX3_endWithoutWinner 51 = .ok (.aaload, 1) := by decide +kernel
theorem dX3_endWithoutWinner_52 : decode cX3_endWithoutWinner 52 = .ok (.invokevirtual 209, 3) := by decide +kernel
theorem dX3_endWithoutWinner_55 : decode cX3_endWithoutWinner 55 = .ok (.lconst 0, 1) := by decide +kernel
theorem dX3_endWithoutWinner_56 : decode cX3_endWithoutWinner 56 = .ok (.lcmp, 1) := by decide +kernel
theorem dX3_endWithoutWinner_57 : decode cX3_endWithoutWinner 57 = .ok (.ifCond .eq 7, 3) := by decide +kernel
theorem dX3_endWithoutWinner_60 : decode cX3_endWithoutWinner 60 = .ok (.iconst 1, 1) := by decide +kernel
theorem dX3_endWithoutWinner_61 : decode cX3_endWithoutWinner 61 = .ok (.goto 4, 3) := by decide +kernel
theorem dX3_endWithoutWinner_64 : decode cX3_endWithoutWinner 64 = .ok (.iconst 0, 1) := by decide +kernel
theorem dX3_endWithoutWinner_65 : decode cX3_endWithoutWinner 65 = .ok (.istore_n 3, 1) := by decide +kernel
theorem dX3_endWithoutWinner_66 : decode cX3_endWithoutWinner 66 = .ok (.aload_n 0, 1) := by decide +kernel
theorem dX3_endWithoutWinner_67 : decode cX3_endWithoutWinner 67 = .ok (.getfield 11, 3) := by decide +kernel
theorem dX3_endWithoutWinner_70 : decode cX3_endWithoutWinner 70 = .ok (.iload_n 2, 1) := by decide +kernel
theorem dX3_endWithoutWinner_71 : decode cX3_endWithoutWinner 71 = .ok (.aaload, 1) := by decide +kernel
theorem dX3_endWithoutWinner_72 : decode cX3_endWithoutWinner 72 = .ok (.dup, 1) := by decide +kernel
theorem dX3_endWithoutWinner_73 : decode cX3_endWithoutWinner 73 = .ok (.getfield 140, 3) := by decide +kernel
theorem dX3_endWithoutWinner_76 : decode cX3_endWithoutWinner 76 = .ok (.bipush 10, 2) := by decide +kernel
theorem dX3_endWithoutWinner_78 : decode cX3_endWithoutWinner 78 = .ok (.iload_n 3, 1) := by decide +kernel
theorem dX3_endWithoutWinner_79 : decode cX3_endWithoutWinner 79 = .ok (.ifCond .eq 9, 3) := by decide +kernel
theorem dX3_endWithoutWinner_82 : decode cX3_endWithoutWinner 82 = .ok (.iconst 4, 1) := by decide +kernel
theorem dX3_endWithoutWinner_83 : decode cX3_endWithoutWinner 83 = .ok (.iload_n 1, 1) := by decide +kernel
theorem dX3_endWithoutWinner_84 : decode cX3_endWithoutWinner 84 = .ok (.isub, 1) := by decide +kernel
theorem dX3_endWithoutWinner_85 : decode cX3_endWithoutWinner 85 = .ok (.goto 5, 3) := by decide +kernel
theorem dX3_endWithoutWinner_88 : decode cX3_endWithoutWinner 88 = .ok (.iload_n 1, 1) := by decide +kernel
theorem dX3_endWithoutWinner_89 : decode cX3_endWithoutWinner 89 = .ok (.ineg, 1) := by decide +kernel
theorem dX3_endWithoutWinner_90 : decode cX3_endWithoutWinner 90 = .ok (.imul, 1) := by decide +kernel
theorem dX3_endWithoutWinner_91 : decode cX3_endWithoutWinner 91 = .ok (.iadd, 1) := by decide +kernel
theorem dX3_endWithoutWinner_92 : decode cX3_endWithoutWinner 92 = .ok (.putfield 140, 3) := by decide +kernel
theorem dX3_endWithoutWinner_95 : decode cX3_endWithoutWinner 95 = .ok (.iinc 2 1, 3) := by decide +kernel
theorem dX3_endWithoutWinner_98 : decode cX3_endWithoutWinner 98 = .ok (.goto (-58), 3) := by decide +kernel
theorem dX3_endWithoutWinner_101 : decode cX3_endWithoutWinner 101 = .ok (.aload_n 0, 1) := by decide +kernel
theorem dX3_endWithoutWinner_102 : decode cX3_endWithoutWinner 102 = .ok (.iconst (-1), 1) := by decide +kernel
theorem dX3_endWithoutWinner_103 : decode cX3_endWithoutWinner 103 = .ok (.putfield 60, 3) := by decide +kernel
theorem dX3_endWithoutWinner_106 : decode cX3_endWithoutWinner 106 = .ok (.aload_n 0, 1) := by decide +kernel
theorem dX3_endWithoutWinner_107 : decode cX3_endWithoutWinner 107 = .ok (.iconst 3, 1) := by decide +kernel
theorem dX3_endWithoutWinner_108 : decode cX3_endWithoutWinner 108 = .ok (.putfield 42, 3) := by decide +kernel
theorem dX3_endWithoutWinner_111 : decode cX3_endWithoutWinner 111 = .ok (.return_, 1) := by decide +kernel
def f_X3_endWithoutWinner_90 (K40 : Nat → Int32 → Int32 → zM → Option (Unit × zM)) (a0 : Nat) (i1 : Int32) (i2 : Int32) (i_0 : Int32) (i_1 : Int32) (i_2 : Int32) (a_3 : Nat) (M : zM) : Option (Unit × zM) :=
  (pI 7 7 M a_3 ((i_2 + ((i_1 * i_0))))).bind fun M1 =>
  K40 a0 i1 ((i2 + (1 : Int32))) M1
set_option maxRecDepth 20000 in
set_option maxHeartbeats 4000000 in
theorem s_X3_endWithoutWinner_90 {L : zL} {X : zX} {M0 : zM} {N : Nat × Nat} {Q : State → Prop} {r : Unit × zM} {K40 : Nat → Int32 → Int32 → zM → Option (Unit × zM)} (hK40 : ∀ (a0 : Nat) (i1 : Int32) (i2 : Int32) (M : zM), K40 a0 i1 i2 M = some r → V L X yX3_endWithoutWinner cX3_endWithoutWinner 4 (none : Option FieldType) 5 M0 N Q M 40 [(0, .ref (zad L (a0))), (1, .int (i1)), (2, .int (i2))] []) (hq : vQ L X M0 N Q none r.2) {a0 : Nat} {i1 : Int32} {i2 : Int32} {i_0 : Int32} {i_1 : Int32} {i_2 : Int32} {a_3 : Nat} {M : zM} (h : f_X3_endWithoutWinner_90 K40 a0 i1 i2 i_0 i_1 i_2 a_3 M = some r) : V L X yX3_endWithoutWinner cX3_endWithoutWinner 4 (none : Option FieldType) 5 M0 N Q M 90 [(0, .ref (zad L (a0))), (1, .int (i1)), (2, .int (i2))] [.int (i_0), .int (i_1), .int (i_2), .ref (zad L (a_3))] := by
  unfold f_X3_endWithoutWinner_90 at h
  refine V_imul dX3_endWithoutWinner_90 ?_
  refine V_iadd dX3_endWithoutWinner_91 ?_
  replace h := ob h
  obtain ⟨M1, e_M1, h⟩ := h
  refine V_putI zf_7_7 zl_X3_140 (Or.inl rfl) rfl e_M1 dX3_endWithoutWinner_92 ?_
  refine V_pc (pc' := 95) rfl ?_
  refine V_iinc (v := i2 + (1 : Int32)) (ls' := [(2, .int ((i2 + (1 : Int32)))), (0, .ref (zad L (a0))), (1, .int (i1))]) dX3_endWithoutWinner_95 2 rfl (by rfl) (by decide) rfl ?_
  refine V_goto (tgt := 40) dX3_endWithoutWinner_98 (by decide) ?_
  refine V_sub [1, 2, 0] rfl ?_
  exact hK40 _ _ _ _ h
def f_X3_endWithoutWinner_65 (K40 : Nat → Int32 → Int32 → zM → Option (Unit × zM)) (a0 : Nat) (i1 : Int32) (i2 : Int32) (i_0 : Int32) (M : zM) : Option (Unit × zM) :=
  (gR 9 0 M a0).bind fun v1 =>
  (lQ 1 M v1 i2).bind fun v2 =>
  (gI 7 7 M v2).bind fun v3 =>
  if i_0 = 0 then
  f_X3_endWithoutWinner_90 K40 a0 i1 i2 ((-i1)) ((10 : Int32)) v3 v2 M
  else
  f_X3_endWithoutWinner_90 K40 a0 i1 i2 ((((4 : Int32)) - i1)) ((10 : Int32)) v3 v2 M
set_option maxRecDepth 20000 in
set_option maxHeartbeats 4000000 in
theorem s_X3_endWithoutWinner_65 {L : zL} {X : zX} {M0 : zM} {N : Nat × Nat} {Q : State → Prop} {r : Unit × zM} {K40 : Nat → Int32 → Int32 → zM → Option (Unit × zM)} (hK40 : ∀ (a0 : Nat) (i1 : Int32) (i2 : Int32) (M : zM), K40 a0 i1 i2 M = some r → V L X yX3_endWithoutWinner cX3_endWithoutWinner 4 (none : Option FieldType) 5 M0 N Q M 40 [(0, .ref (zad L (a0))), (1, .int (i1)), (2, .int (i2))] []) (hq : vQ L X M0 N Q none r.2) {a0 : Nat} {i1 : Int32} {i2 : Int32} {i_0 : Int32} {M : zM} (h : f_X3_endWithoutWinner_65 K40 a0 i1 i2 i_0 M = some r) : V L X yX3_endWithoutWinner cX3_endWithoutWinner 4 (none : Option FieldType) 5 M0 N Q M 65 [(0, .ref (zad L (a0))), (1, .int (i1)), (2, .int (i2))] [.int (i_0)] := by
  unfold f_X3_endWithoutWinner_65 at h
  refine V_istore_n (ls' := [(3, .int (i_0)), (0, .ref (zad L (a0))), (1, .int (i1)), (2, .int (i2))]) dX3_endWithoutWinner_65 rfl (by decide) rfl ?_
  refine V_aload_n dX3_endWithoutWinner_66 rfl 1 rfl ?_
  replace h := ob h
  obtain ⟨v1, e_v1, h⟩ := h
  refine V_getR zf_9_0 zl_X3_11 e_v1 dX3_endWithoutWinner_67 ?_
  refine V_pc (pc' := 70) rfl ?_
  refine V_iload_n dX3_endWithoutWinner_70 rfl 3 rfl ?_
  replace h := ob h
  obtain ⟨v2, e_v2, h⟩ := h
  refine V_aald (by decide) e_v2 dX3_endWithoutWinner_71 ?_
  refine V_pc (pc' := 72) rfl ?_
  refine V_dup dX3_endWithoutWinner_72 rfl ?_
  replace h := ob h
  obtain ⟨v3, e_v3, h⟩ := h
  refine V_getI zf_7_7 zl_X3_140 e_v3 dX3_endWithoutWinner_73 ?_
  refine V_pc (pc' := 76) rfl ?_
  refine V_bipush (v := 10) dX3_endWithoutWinner_76 (by decide) ?_
  refine V_iload_n dX3_endWithoutWinner_78 rfl 0 rfl ?_
  refine V_if_eq (tgt := 88) dX3_endWithoutWinner_79 (by decide) (fun c4 => ?_) (fun c4 => ?_)
  · replace h := (oi h).1 c4
    refine V_iload_n dX3_endWithoutWinner_88 rfl 2 rfl ?_
    refine V_ineg dX3_endWithoutWinner_89 ?_
    refine V_sub [1, 2, 3] rfl ?_
    exact s_X3_endWithoutWinner_90 hK40 hq h
  · replace h := (oi h).2 c4
    refine V_iconst (v := 4) dX3_endWithoutWinner_82 (by decide) ?_
    refine V_iload_n dX3_endWithoutWinner_83 rfl 2 rfl ?_
    refine V_isub dX3_endWithoutWinner_84 ?_
    refine V_goto (tgt := 90) dX3_endWithoutWinner_85 (by decide) ?_
    refine V_sub [1, 2, 3] rfl ?_
    exact s_X3_endWithoutWinner_90 hK40 hq h
def f_X3_endWithoutWinner_40 (n : Nat) (a0 : Nat) (i1 : Int32) (i2 : Int32) (M : zM) : Option (Unit × zM) := match n with
  | 0 => none
  | n + 1 =>
    if ((4 : Int32)) ≤ i2 then
    (pI 9 13 M a0 ((-1 : Int32))).bind fun M1 =>
    (pI 9 7 M1 a0 ((3 : Int32))).bind fun M2 =>
    some ((), M2)
    else
    (gR 9 0 M a0).bind fun v3 =>
    (lQ 1 M v3 i2).bind fun v4 =>
    if mK M a0 = 9 then
    (f_X3_waitsOf a0 v4 M).bind fun r5 =>
    if ((lg_cmp r5.1 ((0 : Int64)))) = 0 then
    f_X3_endWithoutWinner_65 (f_X3_endWithoutWinner_40 n) a0 i1 i2 ((0 : Int32)) r5.2
    else
    f_X3_endWithoutWinner_65 (f_X3_endWithoutWinner_40 n) a0 i1 i2 ((1 : Int32)) r5.2
    else none
set_option maxRecDepth 20000 in
set_option maxHeartbeats 4000000 in
theorem s_X3_endWithoutWinner_40 {L : zL} {X : zX} {M0 : zM} {N : Nat × Nat} {Q : State → Prop} {r : Unit × zM} (hq : vQ L X M0 N Q none r.2) {n : Nat} {a0 : Nat} {i1 : Int32} {i2 : Int32} {M : zM} : f_X3_endWithoutWinner_40 n a0 i1 i2 M = some r → V L X yX3_endWithoutWinner cX3_endWithoutWinner 4 (none : Option FieldType) 5 M0 N Q M 40 [(0, .ref (zad L (a0))), (1, .int (i1)), (2, .int (i2))] [] := by
  induction n generalizing a0 i1 i2 M with
  | zero =>
    intro h
    rw [f_X3_endWithoutWinner_40] at h
    cases h
  | succ n ih0 =>
    intro h
    have ih : ∀ (a0 : Nat) (i1 : Int32) (i2 : Int32) (M : zM), f_X3_endWithoutWinner_40 n a0 i1 i2 M = some r → V L X yX3_endWithoutWinner cX3_endWithoutWinner 4 (none : Option FieldType) 5 M0 N Q M 40 [(0, .ref (zad L (a0))), (1, .int (i1)), (2, .int (i2))] [] := fun a0 i1 i2 M h => ih0 h
    rw [f_X3_endWithoutWinner_40] at h
    refine V_iload_n dX3_endWithoutWinner_40 rfl 2 rfl ?_
    refine V_iconst (v := 4) dX3_endWithoutWinner_41 (by decide) ?_
    refine V_icmp_ge (tgt := 101) dX3_endWithoutWinner_42 (by decide) (fun c8 => ?_) (fun c8 => ?_)
    · replace h := (oi h).1 c8
      refine V_aload_n dX3_endWithoutWinner_101 rfl 0 rfl ?_
      refine V_iconst (v := -1) dX3_endWithoutWinner_102 (by decide) ?_
      replace h := ob h
      obtain ⟨M1, e_M1, h⟩ := h
      refine V_putI zf_9_13 zl_X3_60 (Or.inl rfl) rfl e_M1 dX3_endWithoutWinner_103 ?_
      refine V_pc (pc' := 106) rfl ?_
      refine V_aload_n dX3_endWithoutWinner_106 rfl 0 rfl ?_
      refine V_iconst (v := 3) dX3_endWithoutWinner_107 (by decide) ?_
      replace h := ob h
      obtain ⟨M2, e_M2, h⟩ := h
      refine V_putI zf_9_7 zl_X3_42 (Or.inl rfl) rfl e_M2 dX3_endWithoutWinner_108 ?_
      refine V_pc (pc' := 111) rfl ?_
      obtain rfl := Option.some.inj h
      exact V_vret rfl hq dX3_endWithoutWinner_111
    · replace h := (oi h).2 c8
      refine V_aload_n dX3_endWithoutWinner_45 rfl 0 rfl ?_
      refine V_aload_n dX3_endWithoutWinner_46 rfl 0 rfl ?_
      replace h := ob h
      obtain ⟨v3, e_v3, h⟩ := h
      refine V_getR zf_9_0 zl_X3_11 e_v3 dX3_endWithoutWinner_47 ?_
      refine V_pc (pc' := 50) rfl ?_
      refine V_iload_n dX3_endWithoutWinner_50 rfl 2 rfl ?_
      replace h := ob h
      obtain ⟨v4, e_v4, h⟩ := h
      refine V_aald (by decide) e_v4 dX3_endWithoutWinner_51 ?_
      refine V_pc (pc' := 52) rfl ?_
      replace h := ox h
      obtain ⟨c6, h⟩ := h
      replace h := ob h
      obtain ⟨r5, e_r5, h⟩ := h
      refine V_callV_J (As := [.ref (zad L (v4))]) (rest := []) (c_X3_waitsOf e_r5) zc_X3_waitsOf rfl (by decide) rfl (by decide) (Or.inl c6) zm_X3_209 (Nat.le_of_ble_eq_true rfl) rfl dX3_endWithoutWinner_52 ?_
      refine V_pc (pc' := 55) rfl ?_
      refine V_lconst (v := 0) dX3_endWithoutWinner_55 (by decide) ?_
      refine V_lcmp dX3_endWithoutWinner_56 ?_
      refine V_if_eq (tgt := 64) dX3_endWithoutWinner_57 (by decide) (fun c7 => ?_) (fun c7 => ?_)
      · replace h := (oi h).1 c7
        refine V_iconst (v := 0) dX3_endWithoutWinner_64 (by decide) ?_
        exact s_X3_endWithoutWinner_65 ih hq h
      · replace h := (oi h).2 c7
        refine V_iconst (v := 1) dX3_endWithoutWinner_60 (by decide) ?_
        refine V_goto (tgt := 65) dX3_endWithoutWinner_61 (by decide) ?_
        exact s_X3_endWithoutWinner_65 ih hq h
def f_X3_endWithoutWinner_4 (n : Nat) (a0 : Nat) (i1 : Int32) (i2 : Int32) (M : zM) : Option (Unit × zM) := match n with
  | 0 => none
  | n + 1 =>
    if ((4 : Int32)) ≤ i2 then
    f_X3_endWithoutWinner_40 zN a0 i1 ((0 : Int32)) M
    else
    (gR 9 0 M a0).bind fun v1 =>
    (lQ 1 M v1 i2).bind fun v2 =>
    if mK M a0 = 9 then
    (f_X3_waitsOf a0 v2 M).bind fun r3 =>
    if ((lg_cmp r3.1 ((0 : Int64)))) = 0 then
    f_X3_endWithoutWinner_4 n a0 ((i1 + ((0 : Int32)))) ((i2 + (1 : Int32))) r3.2
    else
    f_X3_endWithoutWinner_4 n a0 ((i1 + ((1 : Int32)))) ((i2 + (1 : Int32))) r3.2
    else none
set_option maxRecDepth 20000 in
set_option maxHeartbeats 4000000 in
theorem s_X3_endWithoutWinner_4 {L : zL} {X : zX} {M0 : zM} {N : Nat × Nat} {Q : State → Prop} {r : Unit × zM} (hq : vQ L X M0 N Q none r.2) {n : Nat} {a0 : Nat} {i1 : Int32} {i2 : Int32} {M : zM} : f_X3_endWithoutWinner_4 n a0 i1 i2 M = some r → V L X yX3_endWithoutWinner cX3_endWithoutWinner 4 (none : Option FieldType) 5 M0 N Q M 4 [(0, .ref (zad L (a0))), (1, .int (i1)), (2, .int (i2))] [] := by
  induction n generalizing a0 i1 i2 M with
  | zero =>
    intro h
    rw [f_X3_endWithoutWinner_4] at h
    cases h
  | succ n ih0 =>
    intro h
    have ih : ∀ (a0 : Nat) (i1 : Int32) (i2 : Int32) (M : zM), f_X3_endWithoutWinner_4 n a0 i1 i2 M = some r → V L X yX3_endWithoutWinner cX3_endWithoutWinner 4 (none : Option FieldType) 5 M0 N Q M 4 [(0, .ref (zad L (a0))), (1, .int (i1)), (2, .int (i2))] [] := fun a0 i1 i2 M h => ih0 h
    rw [f_X3_endWithoutWinner_4] at h
    refine V_iload_n dX3_endWithoutWinner_4 rfl 2 rfl ?_
    refine V_iconst (v := 4) dX3_endWithoutWinner_5 (by decide) ?_
    refine V_icmp_ge (tgt := 38) dX3_endWithoutWinner_6 (by decide) (fun c6 => ?_) (fun c6 => ?_)
    · replace h := (oi h).1 c6
      refine V_iconst (v := 0) dX3_endWithoutWinner_38 (by decide) ?_
      refine V_istore_n (ls' := [(2, .int ((0 : Int32))), (0, .ref (zad L (a0))), (1, .int (i1))]) dX3_endWithoutWinner_39 rfl (by decide) rfl ?_
      refine V_sub [1, 2, 0] rfl ?_
      exact s_X3_endWithoutWinner_40 hq h
    · replace h := (oi h).2 c6
      refine V_iload_n dX3_endWithoutWinner_9 rfl 1 rfl ?_
      refine V_aload_n dX3_endWithoutWinner_10 rfl 0 rfl ?_
      refine V_aload_n dX3_endWithoutWinner_11 rfl 0 rfl ?_
      replace h := ob h
      obtain ⟨v1, e_v1, h⟩ := h
      refine V_getR zf_9_0 zl_X3_11 e_v1 dX3_endWithoutWinner_12 ?_
      refine V_pc (pc' := 15) rfl ?_
      refine V_iload_n dX3_endWithoutWinner_15 rfl 2 rfl ?_
      replace h := ob h
      obtain ⟨v2, e_v2, h⟩ := h
      refine V_aald (by decide) e_v2 dX3_endWithoutWinner_16 ?_
      refine V_pc (pc' := 17) rfl ?_
      replace h := ox h
      obtain ⟨c4, h⟩ := h
      replace h := ob h
      obtain ⟨r3, e_r3, h⟩ := h
      refine V_callV_J (As := [.ref (zad L (v2))]) (rest := [.int (i1)]) (c_X3_waitsOf e_r3) zc_X3_waitsOf rfl (by decide) rfl (by decide) (Or.inl c4) zm_X3_209 (Nat.le_of_ble_eq_true rfl) rfl dX3_endWithoutWinner_17 ?_
      refine V_pc (pc' := 20) rfl ?_
      refine V_lconst (v := 0) dX3_endWithoutWinner_20 (by decide) ?_
      refine V_lcmp dX3_endWithoutWinner_21 ?_
      refine V_if_eq (tgt := 29) dX3_endWithoutWinner_22 (by decide) (fun c5 => ?_) (fun c5 => ?_)
      · replace h := (oi h).1 c5
        refine V_iconst (v := 0) dX3_endWithoutWinner_29 (by decide) ?_
        refine V_iadd dX3_endWithoutWinner_30 ?_
        refine V_istore_n (ls' := [(1, .int ((i1 + ((0 : Int32))))), (0, .ref (zad L (a0))), (2, .int (i2))]) dX3_endWithoutWinner_31 rfl (by decide) rfl ?_
        refine V_iinc (v := i2 + (1 : Int32)) (ls' := [(2, .int ((i2 + (1 : Int32)))), (1, .int ((i1 + ((0 : Int32))))), (0, .ref (zad L (a0)))]) dX3_endWithoutWinner_32 2 rfl (by rfl) (by decide) rfl ?_
        refine V_goto (tgt := 4) dX3_endWithoutWinner_35 (by decide) ?_
        refine V_sub [2, 1, 0] rfl ?_
        exact ih _ _ _ _ h
      · replace h := (oi h).2 c5
        refine V_iconst (v := 1) dX3_endWithoutWinner_25 (by decide) ?_
        refine V_goto (tgt := 30) dX3_endWithoutWinner_26 (by decide) ?_
        refine V_iadd dX3_endWithoutWinner_30 ?_
        refine V_istore_n (ls' := [(1, .int ((i1 + ((1 : Int32))))), (0, .ref (zad L (a0))), (2, .int (i2))]) dX3_endWithoutWinner_31 rfl (by decide) rfl ?_
        refine V_iinc (v := i2 + (1 : Int32)) (ls' := [(2, .int ((i2 + (1 : Int32)))), (1, .int ((i1 + ((1 : Int32))))), (0, .ref (zad L (a0)))]) dX3_endWithoutWinner_32 2 rfl (by rfl) (by decide) rfl ?_
        refine V_goto (tgt := 4) dX3_endWithoutWinner_35 (by decide) ?_
        refine V_sub [2, 1, 0] rfl ?_
        exact ih _ _ _ _ h
def f_X3_endWithoutWinner_0 (a0 : Nat) (M : zM) : Option (Unit × zM) :=
  f_X3_endWithoutWinner_4 zN a0 ((0 : Int32)) ((0 : Int32)) M
set_option maxRecDepth 20000 in
set_option maxHeartbeats 4000000 in
theorem s_X3_endWithoutWinner_0 {L : zL} {X : zX} {M0 : zM} {N : Nat × Nat} {Q : State → Prop} {r : Unit × zM} (hq : vQ L X M0 N Q none r.2) {a0 : Nat} {M : zM} (h : f_X3_endWithoutWinner_0 a0 M = some r) : V L X yX3_endWithoutWinner cX3_endWithoutWinner 4 (none : Option FieldType) 5 M0 N Q M 0 [(0, .ref (zad L (a0)))] [] := by
  unfold f_X3_endWithoutWinner_0 at h
  refine V_iconst (v := 0) dX3_endWithoutWinner_0 (by decide) ?_
  refine V_istore_n (ls' := [(1, .int ((0 : Int32))), (0, .ref (zad L (a0)))]) dX3_endWithoutWinner_1 rfl (by decide) rfl ?_
  refine V_iconst (v := 0) dX3_endWithoutWinner_2 (by decide) ?_
  refine V_istore_n (ls' := [(2, .int ((0 : Int32))), (1, .int ((0 : Int32))), (0, .ref (zad L (a0)))]) dX3_endWithoutWinner_3 rfl (by decide) rfl ?_
  refine V_sub [2, 1, 0] rfl ?_
  exact s_X3_endWithoutWinner_4 hq h
def f_X3_endWithoutWinner (a0 : Nat) (M : zM) : Option (Unit × zM) := f_X3_endWithoutWinner_0 a0 M
theorem c_X3_endWithoutWinner {L : zL} {l : Launch} {a0 : Nat} {M : zM} {r : Unit × zM} (h : f_X3_endWithoutWinner a0 M = some r) : CP L l yX3_endWithoutWinner cX3_endWithoutWinner 4 (none : Option FieldType) 5 M [.ref (zad L (a0))] none r.2 :=
  CP.of ⟨by decide +kernel, by decide +kernel⟩ (Nat.le_of_ble_eq_true rfl) fun X Q hq => s_X3_endWithoutWinner_0 hq h
/-! Windsparlour.seatInTurn()LWindsparlour$Seat; -/
theorem dX3_seatInTurn_0 : decode cX3_seatInTurn 0 = .ok (.aload_n 0, 1) := by decide +kernel
theorem dX3_seatInTurn_1 : decode cX3_seatInTurn 1 = .ok (.getfield 45, 3) := by decide +kernel
theorem dX3_seatInTurn_4 : decode cX3_seatInTurn 4 = .ok (.ifCond .lt 23, 3) := by decide +kernel
theorem dX3_seatInTurn_7 : decode cX3_seatInTurn 7 = .ok (.aload_n 0, 1) := by decide +kernel
theorem dX3_seatInTurn_8 : decode cX3_seatInTurn 8 = .ok (.getfield 45, 3) := by decide +kernel
theorem dX3_seatInTurn_11 : decode cX3_seatInTurn 11 = .ok (.iconst 4, 1) := by decide +kernel
theorem dX3_seatInTurn_12 : decode cX3_seatInTurn 12 = .ok (.if_icmp .ge 15, 3) := by decide +kernel
theorem dX3_seatInTurn_15 : decode cX3_seatInTurn 15 = .ok (.aload_n 0, 1) := by decide +kernel
theorem dX3_seatInTurn_16 : decode cX3_seatInTurn 16 = .ok (.getfield 11, 3) := by decide +kernel
theorem dX3_seatInTurn_19 : decode cX3_seatInTurn 19 = .ok (.aload_n 0, 1) := by decide +kernel
theorem dX3_seatInTurn_20 : decode cX3_seatInTurn 20 = .ok (.getfield 45, 3) := by decide +kernel
theorem dX3_seatInTurn_23 : decode cX3_seatInTurn 23 = .ok (.aaload, 1) := by decide +kernel
theorem dX3_seatInTurn_24 : decode cX3_seatInTurn 24 = .ok (.goto 9, 3) := by decide +kernel
theorem dX3_seatInTurn_27 : decode cX3_seatInTurn 27 = .ok (.aload_n 0, 1) := by decide +kernel
theorem dX3_seatInTurn_28 : decode cX3_seatInTurn 28 = .ok (.getfield 11, 3) := by decide +kernel
theorem dX3_seatInTurn_31 : decode cX3_seatInTurn 31 = .ok (.iconst 0, 1) := by decide +kernel
theorem dX3_seatInTurn_32 : decode cX3_seatInTurn 32 = .ok (.aaload, 1) := by decide +kernel
theorem dX3_seatInTurn_33 : decode cX3_seatInTurn 33 = .ok (.areturn, 1) := by decide +kernel
def f_X3_seatInTurn_27 (a0 : Nat) (M : zM) : Option (Nat × zM) :=
  (gR 9 0 M a0).bind fun v1 =>
  (lQ 1 M v1 ((0 : Int32))).bind fun v2 =>
  some (v2, M)
set_option maxRecDepth 20000 in
set_option maxHeartbeats 4000000 in
theorem s_X3_seatInTurn_27 {L : zL} {X : zX} {M0 : zM} {N : Nat × Nat} {Q : State → Prop} {r : Nat × zM} (hq : vQ L X M0 N Q (some (.ref (zad L r.1))) r.2) {a0 : Nat} {M : zM} (h : f_X3_seatInTurn_27 a0 M = some r) : V L X yX3_seatInTurn cX3_seatInTurn 1 (Option.some (FieldType.object "Windsparlour$Seat")) 1 M0 N Q M 27 [(0, .ref (zad L (a0)))] [] := by
  unfold f_X3_seatInTurn_27 at h
  refine V_aload_n dX3_seatInTurn_27 rfl 0 rfl ?_
  replace h := ob h
  obtain ⟨v1, e_v1, h⟩ := h
  refine V_getR zf_9_0 zl_X3_11 e_v1 dX3_seatInTurn_28 ?_
  refine V_pc (pc' := 31) rfl ?_
  refine V_iconst (v := 0) dX3_seatInTurn_31 (by decide) ?_
  replace h := ob h
  obtain ⟨v2, e_v2, h⟩ := h
  refine V_aald (by decide) e_v2 dX3_seatInTurn_32 ?_
  refine V_pc (pc' := 33) rfl ?_
  obtain rfl := Option.some.inj h
  exact V_aret rfl (by first | exact Or.inl ⟨_, rfl⟩ | exact Or.inr ⟨_, rfl⟩) hq dX3_seatInTurn_33
def f_X3_seatInTurn_0 (a0 : Nat) (M : zM) : Option (Nat × zM) :=
  (gI 9 8 M a0).bind fun v1 =>
  if v1 < 0 then
  f_X3_seatInTurn_27 a0 M
  else
  (gI 9 8 M a0).bind fun v2 =>
  if ((4 : Int32)) ≤ v2 then
  f_X3_seatInTurn_27 a0 M
  else
  (gR 9 0 M a0).bind fun v3 =>
  (gI 9 8 M a0).bind fun v4 =>
  (lQ 1 M v3 v4).bind fun v5 =>
  some (v5, M)
set_option maxRecDepth 20000 in
set_option maxHeartbeats 4000000 in
theorem s_X3_seatInTurn_0 {L : zL} {X : zX} {M0 : zM} {N : Nat × Nat} {Q : State → Prop} {r : Nat × zM} (hq : vQ L X M0 N Q (some (.ref (zad L r.1))) r.2) {a0 : Nat} {M : zM} (h : f_X3_seatInTurn_0 a0 M = some r) : V L X yX3_seatInTurn cX3_seatInTurn 1 (Option.some (FieldType.object "Windsparlour$Seat")) 1 M0 N Q M 0 [(0, .ref (zad L (a0)))] [] := by
  unfold f_X3_seatInTurn_0 at h
  refine V_aload_n dX3_seatInTurn_0 rfl 0 rfl ?_
  replace h := ob h
  obtain ⟨v1, e_v1, h⟩ := h
  refine V_getI zf_9_8 zl_X3_45 e_v1 dX3_seatInTurn_1 ?_
  refine V_pc (pc' := 4) rfl ?_
  refine V_if_lt (tgt := 27) dX3_seatInTurn_4 (by decide) (fun c7 => ?_) (fun c7 => ?_)
  · replace h := (oi h).1 c7
    exact s_X3_seatInTurn_27 hq h
  · replace h := (oi h).2 c7
    refine V_aload_n dX3_seatInTurn_7 rfl 0 rfl ?_
    replace h := ob h
    obtain ⟨v2, e_v2, h⟩ := h
    refine V_getI zf_9_8 zl_X3_45 e_v2 dX3_seatInTurn_8 ?_
    refine V_pc (pc' := 11) rfl ?_
    refine V_iconst (v := 4) dX3_seatInTurn_11 (by decide) ?_
    refine V_icmp_ge (tgt := 27) dX3_seatInTurn_12 (by decide) (fun c6 => ?_) (fun c6 => ?_)
    · replace h := (oi h).1 c6
      exact s_X3_seatInTurn_27 hq h
    · replace h := (oi h).2 c6
      refine V_aload_n dX3_seatInTurn_15 rfl 0 rfl ?_
      replace h := ob h
      obtain ⟨v3, e_v3, h⟩ := h
      refine V_getR zf_9_0 zl_X3_11 e_v3 dX3_seatInTurn_16 ?_
      refine V_pc (pc' := 19) rfl ?_
      refine V_aload_n dX3_seatInTurn_19 rfl 0 rfl ?_
      replace h := ob h
      obtain ⟨v4, e_v4, h⟩ := h
      refine V_getI zf_9_8 zl_X3_45 e_v4 dX3_seatInTurn_20 ?_
      refine V_pc (pc' := 23) rfl ?_
      replace h := ob h
      obtain ⟨v5, e_v5, h⟩ := h
      refine V_aald (by decide) e_v5 dX3_seatInTurn_23 ?_
      refine V_pc (pc' := 24) rfl ?_
      refine V_goto (tgt := 33) dX3_seatInTurn_24 (by decide) ?_
      obtain rfl := Option.some.inj h
      exact V_aret rfl (by first | exact Or.inl ⟨_, rfl⟩ | exact Or.inr ⟨_, rfl⟩) hq dX3_seatInTurn_33
def f_X3_seatInTurn (a0 : Nat) (M : zM) : Option (Nat × zM) := f_X3_seatInTurn_0 a0 M
theorem c_X3_seatInTurn {L : zL} {l : Launch} {a0 : Nat} {M : zM} {r : Nat × zM} (h : f_X3_seatInTurn a0 M = some r) : CP L l yX3_seatInTurn cX3_seatInTurn 1 (Option.some (FieldType.object "Windsparlour$Seat")) 1 M [.ref (zad L (a0))] (some (.ref (zad L r.1))) r.2 :=
  CP.of ⟨by decide +kernel, by decide +kernel⟩ (Nat.le_of_ble_eq_true rfl) fun X Q hq => s_X3_seatInTurn_0 hq h
/-! Windsparlour.receive(I)V -/
theorem dX3_receive_0 : decode cX3_receive 0 = .ok (.aload_n 0, 1) := by decide +kernel
theorem dX3_receive_1 : decode cX3_receive 1 = .ok (.invokevirtual 108, 3) := by decide +kernel
theorem dX3_receive_4 : decode cX3_receive 4 = .ok (.iload_n 1, 1) := by decide +kernel
theorem dX3_receive_5 : decode cX3_receive 5 = .ok (.iconst 1, 1) := by decide +kernel
theorem dX3_receive_6 : decode cX3_receive 6 = .ok (.invokevirtual 157, 3) := by decide +kernel
theorem dX3_receive_9 : decode cX3_receive 9 = .ok (.aload_n 0, 1) := by decide +kernel
theorem dX3_receive_10 : decode cX3_receive 10 = .ok (.iload_n 1, 1) := by decide +kernel
theorem dX3_receive_11 : decode cX3_receive 11 = .ok (.putfield 63, 3) := by decide +kernel
theorem dX3_receive_14 : decode cX3_receive 14 = .ok (.aload_n 0, 1) := by decide +kernel
theorem dX3_receive_15 : decode cX3_receive 15 = .ok (.iconst 1, 1) := by decide +kernel
theorem dX3_receive_16 : decode cX3_receive 16 = .ok (.putfield 66, 3) := by decide +kernel
theorem dX3_receive_19 : decode cX3_receive 19 = .ok (.return_, 1) := by decide +kernel
def f_X3_receive_0 (a0 : Nat) (i1 : Int32) (M : zM) : Option (Unit × zM) :=
  if mK M a0 = 9 then
  (f_X3_seatInTurn a0 M).bind fun r1 =>
  if mK r1.2 r1.1 = 7 then
  (f_X1_change r1.1 i1 ((1 : Int32)) r1.2).bind fun r3 =>
  (pI 9 14 r3.2 a0 i1).bind fun M5 =>
  (pZ 9 15 M5 a0 ((1 : Int32))).bind fun M6 =>
  some ((), M6)
  else none
  else none
set_option maxRecDepth 20000 in
set_option maxHeartbeats 4000000 in
theorem s_X3_receive_0 {L : zL} {X : zX} {M0 : zM} {N : Nat × Nat} {Q : State → Prop} {r : Unit × zM} (hq : vQ L X M0 N Q none r.2) {a0 : Nat} {i1 : Int32} {M : zM} (h : f_X3_receive_0 a0 i1 M = some r) : V L X yX3_receive cX3_receive 2 (none : Option FieldType) 2 M0 N Q M 0 [(0, .ref (zad L (a0))), (1, .int (i1))] [] := by
  unfold f_X3_receive_0 at h
  refine V_aload_n dX3_receive_0 rfl 0 rfl ?_
  replace h := ox h
  obtain ⟨c2, h⟩ := h
  replace h := ob h
  obtain ⟨r1, e_r1, h⟩ := h
  refine V_callV_A (As := []) (rest := []) (c_X3_seatInTurn e_r1) zc_X3_seatInTurn rfl (by decide) rfl (by decide) (Or.inl c2) zm_X3_108 (Nat.le_of_ble_eq_true rfl) rfl dX3_receive_1 ?_
  refine V_pc (pc' := 4) rfl ?_
  refine V_iload_n dX3_receive_4 rfl 1 rfl ?_
  refine V_iconst (v := 1) dX3_receive_5 (by decide) ?_
  replace h := ox h
  obtain ⟨c4, h⟩ := h
  replace h := ob h
  obtain ⟨r3, e_r3, h⟩ := h
  refine V_callV_V (As := [.int (i1), .int ((1 : Int32))]) (rest := []) (c_X1_change e_r3) zc_X1_change rfl (by decide) rfl (by decide) (Or.inl c4) zm_X3_157 (Nat.le_of_ble_eq_true rfl) rfl dX3_receive_6 ?_
  refine V_pc (pc' := 9) rfl ?_
  refine V_aload_n dX3_receive_9 rfl 0 rfl ?_
  refine V_iload_n dX3_receive_10 rfl 1 rfl ?_
  replace h := ob h
  obtain ⟨M5, e_M5, h⟩ := h
  refine V_putI zf_9_14 zl_X3_63 (Or.inl rfl) rfl e_M5 dX3_receive_11 ?_
  refine V_pc (pc' := 14) rfl ?_
  refine V_aload_n dX3_receive_14 rfl 0 rfl ?_
  refine V_iconst (v := 1) dX3_receive_15 (by decide) ?_
  replace h := ob h
  obtain ⟨M6, e_M6, h⟩ := h
  refine V_putZ zf_9_15 zl_X3_66 (Or.inl rfl) rfl e_M6 dX3_receive_16 ?_
  refine V_pc (pc' := 19) rfl ?_
  obtain rfl := Option.some.inj h
  exact V_vret rfl hq dX3_receive_19
def f_X3_receive (a0 : Nat) (i1 : Int32) (M : zM) : Option (Unit × zM) := f_X3_receive_0 a0 i1 M
theorem c_X3_receive {L : zL} {l : Launch} {a0 : Nat} {i1 : Int32} {M : zM} {r : Unit × zM} (h : f_X3_receive a0 i1 M = some r) : CP L l yX3_receive cX3_receive 2 (none : Option FieldType) 2 M [.ref (zad L (a0)), .int (i1)] none r.2 :=
  CP.of ⟨by decide +kernel, by decide +kernel⟩ (Nat.le_of_ble_eq_true rfl) fun X Q hq => s_X3_receive_0 hq h
/-! Windsparlour.draw()I -/
theorem dX3_draw_0 : decode cX3_draw 0 = .ok (.aload_n 0, 1) := by decide +kernel
theorem dX3_draw_1 : decode cX3_draw 1 = .ok (.iconst 0, 1) := by decide +kernel
theorem dX3_draw_2 : decode cX3_draw 2 = .ok (.invokevirtual 78, 3) := by decide +kernel
theorem dX3_draw_5 : decode cX3_draw 5 = .ok (.aload_n 0, 1) := by decide +kernel
theorem dX3_draw_6 : decode cX3_draw 6 = .ok (.invokevirtual 95, 3) := by decide +kernel
theorem dX3_draw_9 : decode cX3_draw 9 = .ok (.ifCond .ne 9, 3) := by decide +kernel
theorem dX3_draw_12 : decode cX3_draw 12 = .ok (.aload_n 0, 1) := by decide +kernel
theorem dX3_draw_13 : decode cX3_draw 13 = .ok (.invokevirtual 99, 3) := by decide +kernel
theorem dX3_draw_16 : decode cX3_draw 16 = .ok (.iconst (-1), 1) := by decide +kernel
theorem dX3_draw_17 : decode cX3_draw 17 = .ok (.ireturn, 1) := by decide +kernel
theorem dX3_draw_18 : decode cX3_draw 18 = .ok (.aload_n 0, 1) := by decide +kernel
theorem dX3_draw_19 : decode cX3_draw 19 = .ok (.bipush 40, 2) := by decide +kernel
theorem dX3_draw_21 : decode cX3_draw 21 = .ok (.aload_n 0, 1) := by decide +kernel
theorem dX3_draw_22 : decode cX3_draw 22 = .ok (.getfield 36, 3) := by decide +kernel
theorem dX3_draw_25 : decode cX3_draw 25 = .ok (.iadd, 1) := by decide +kernel
theorem dX3_draw_26 : decode cX3_draw 26 = .ok (.invokevirtual 88, 3) := by decide +kernel
theorem dX3_draw_29 : decode cX3_draw 29 = .ok (.istore_n 1, 1) := by decide +kernel
theorem dX3_draw_30 : decode cX3_draw 30 = .ok (.aload_n 0, 1) := by decide +kernel
theorem dX3_draw_31 : decode cX3_draw 31 = .ok (.dup, 1) := by decide +kernel
theorem dX3_draw_32 : decode cX3_draw 32 = .ok (.getfield 36, 3) := by decide +kernel
theorem dX3_draw_35 : decode cX3_draw 35 = .ok (.iconst 1, 1) := by decide +kernel
theorem dX3_draw_36 : decode cX3_draw 36 = .ok (.iadd, 1) := by decide +kernel
theorem dX3_draw_37 : decode cX3_draw 37 = .ok (.putfield 36, 3) := by decide +kernel
theorem dX3_draw_40 : decode cX3_draw 40 = .ok (.aload_n 0, 1) := by decide +kernel
theorem dX3_draw_41 : decode cX3_draw 41 = .ok (.iconst 1, 1) := by decide +kernel
theorem dX3_draw_42 : decode cX3_draw 42 = .ok (.putfield 42, 3) := by decide +kernel
theorem dX3_draw_45 : decode cX3_draw 45 = .ok (.aload_n 0, 1) := by decide +kernel
theorem dX3_draw_46 : decode cX3_draw 46 = .ok (.iload_n 1, 1) := by decide +kernel
theorem dX3_draw_47 : decode cX3_draw 47 = .ok (.invokevirtual 102, 3) := by decide +kernel
theorem dX3_draw_50 : decode cX3_draw 50 = .ok (.iload_n 1, 1) := by decide +kernel
theorem dX3_draw_51 : decode cX3_draw 51 = .ok (.ireturn, 1) := by decide +kernel
def f_X3_draw_0 (a0 : Nat) (M : zM) : Option ((String ⊕ Int32) × zM) :=
  if mK M a0 = 9 then
  xb (f_X3_requirePhase a0 ((0 : Int32)) M) fun w1 Mw1 =>
  if mK Mw1 a0 = 9 then
  (f_X3_canDraw a0 Mw1).bind fun r16 =>
  if r16.1 = 0 then
  if mK r16.2 a0 = 9 then
  (f_X3_endWithoutWinner a0 r16.2).bind fun r26 =>
  some (Sum.inr ((-1 : Int32)), r26.2)
  else none
  else
  (gI 9 5 r16.2 a0).bind fun v18 =>
  if mK r16.2 a0 = 9 then
  (f_X3_kindAt a0 ((((40 : Int32)) + v18)) r16.2).bind fun r19 =>
  (gI 9 5 r19.2 a0).bind fun v21 =>
  (pI 9 5 r19.2 a0 ((v21 + ((1 : Int32))))).bind fun M22 =>
  (pI 9 7 M22 a0 ((1 : Int32))).bind fun M23 =>
  if mK M23 a0 = 9 then
  (f_X3_receive a0 r19.1 M23).bind fun r24 =>
  some (Sum.inr (r19.1), r24.2)
  else none
  else none
  else none
  else none
set_option maxRecDepth 20000 in
set_option maxHeartbeats 4000000 in
theorem s_X3_draw_0 {L : zL} {X : zX} {M0 : zM} {N : Nat × Nat} {Q : State → Prop} {r : (String ⊕ Int32) × zM} (hq : vQX L X M0 N Q (zoI r.1) r.2) {a0 : Nat} {M : zM} (h : f_X3_draw_0 a0 M = some r) : V L X yX3_draw cX3_draw 2 (some FieldType.int) 7 M0 N Q M 0 [(0, .ref (zad L (a0)))] [] := by
  unfold f_X3_draw_0 at h
  refine V_aload_n dX3_draw_0 rfl 0 rfl ?_
  refine V_iconst (v := 0) dX3_draw_1 (by decide) ?_
  replace h := ox h
  obtain ⟨c2, h⟩ := h
  replace h := xbs h
  rcases h with ⟨E_r1, M_r1, e_r1, rfl⟩ | ⟨w1, Mw1, e_r1, h⟩
  · exact V_callVt (As := [.int ((0 : Int32))]) (rest := []) (c_X3_requirePhase e_r1) hq (by decide +kernel) zc_X3_requirePhase rfl (by decide) rfl (by decide) (Or.inl c2) zm_X3_78 (Nat.le_of_ble_eq_true rfl) rfl dX3_draw_2
  · refine V_callVx_V (As := [.int ((0 : Int32))]) (rest := []) (c_X3_requirePhase e_r1) zc_X3_requirePhase rfl (by decide) rfl (by decide) (Or.inl c2) zm_X3_78 (Nat.le_of_ble_eq_true rfl) rfl dX3_draw_2 ?_
    refine V_pc (pc' := 5) rfl ?_
    refine V_aload_n dX3_draw_5 rfl 0 rfl ?_
    replace h := ox h
    obtain ⟨c17, h⟩ := h
    replace h := ob h
    obtain ⟨r16, e_r16, h⟩ := h
    refine V_callV_I (As := []) (rest := []) (c_X3_canDraw e_r16) zc_X3_canDraw rfl (by decide) rfl (by decide) (Or.inl c17) zm_X3_95 (Nat.le_of_ble_eq_true rfl) rfl dX3_draw_6 ?_
    refine V_pc (pc' := 9) rfl ?_
    refine V_if_ne (tgt := 18) dX3_draw_9 (by decide) (fun c28 => ?_) (fun c28 => ?_)
    · replace h := (oi h).2 c28
      refine V_aload_n dX3_draw_18 rfl 0 rfl ?_
      refine V_bipush (v := 40) dX3_draw_19 (by decide) ?_
      refine V_aload_n dX3_draw_21 rfl 0 rfl ?_
      replace h := ob h
      obtain ⟨v18, e_v18, h⟩ := h
      refine V_getI zf_9_5 zl_X3_36 e_v18 dX3_draw_22 ?_
      refine V_pc (pc' := 25) rfl ?_
      refine V_iadd dX3_draw_25 ?_
      replace h := ox h
      obtain ⟨c20, h⟩ := h
      replace h := ob h
      obtain ⟨r19, e_r19, h⟩ := h
      refine V_callV_I (As := [.int ((((40 : Int32)) + v18))]) (rest := []) (c_X3_kindAt e_r19) zc_X3_kindAt rfl (by decide) rfl (by decide) (Or.inl c20) zm_X3_88 (Nat.le_of_ble_eq_true rfl) rfl dX3_draw_26 ?_
      refine V_pc (pc' := 29) rfl ?_
      refine V_istore_n (ls' := [(1, .int (r19.1)), (0, .ref (zad L (a0)))]) dX3_draw_29 rfl (by decide) rfl ?_
      refine V_aload_n dX3_draw_30 rfl 1 rfl ?_
      refine V_dup dX3_draw_31 rfl ?_
      replace h := ob h
      obtain ⟨v21, e_v21, h⟩ := h
      refine V_getI zf_9_5 zl_X3_36 e_v21 dX3_draw_32 ?_
      refine V_pc (pc' := 35) rfl ?_
      refine V_iconst (v := 1) dX3_draw_35 (by decide) ?_
      refine V_iadd dX3_draw_36 ?_
      replace h := ob h
      obtain ⟨M22, e_M22, h⟩ := h
      refine V_putI zf_9_5 zl_X3_36 (Or.inl rfl) rfl e_M22 dX3_draw_37 ?_
      refine V_pc (pc' := 40) rfl ?_
      refine V_aload_n dX3_draw_40 rfl 1 rfl ?_
      refine V_iconst (v := 1) dX3_draw_41 (by decide) ?_
      replace h := ob h
      obtain ⟨M23, e_M23, h⟩ := h
      refine V_putI zf_9_7 zl_X3_42 (Or.inl rfl) rfl e_M23 dX3_draw_42 ?_
      refine V_pc (pc' := 45) rfl ?_
      refine V_aload_n dX3_draw_45 rfl 1 rfl ?_
      refine V_iload_n dX3_draw_46 rfl 0 rfl ?_
      replace h := ox h
      obtain ⟨c25, h⟩ := h
      replace h := ob h
      obtain ⟨r24, e_r24, h⟩ := h
      refine V_callV_V (As := [.int (r19.1)]) (rest := []) (c_X3_receive e_r24) zc_X3_receive rfl (by decide) rfl (by decide) (Or.inl c25) zm_X3_102 (Nat.le_of_ble_eq_true rfl) rfl dX3_draw_47 ?_
      refine V_pc (pc' := 50) rfl ?_
      refine V_iload_n dX3_draw_50 rfl 0 rfl ?_
      obtain rfl := Option.some.inj h
      exact V_iretX rfl hq dX3_draw_51
    · replace h := (oi h).1 c28
      refine V_aload_n dX3_draw_12 rfl 0 rfl ?_
      replace h := ox h
      obtain ⟨c27, h⟩ := h
      replace h := ob h
      obtain ⟨r26, e_r26, h⟩ := h
      refine V_callV_V (As := []) (rest := []) (c_X3_endWithoutWinner e_r26) zc_X3_endWithoutWinner rfl (by decide) rfl (by decide) (Or.inl c27) zm_X3_99 (Nat.le_of_ble_eq_true rfl) rfl dX3_draw_13 ?_
      refine V_pc (pc' := 16) rfl ?_
      refine V_iconst (v := -1) dX3_draw_16 (by decide) ?_
      obtain rfl := Option.some.inj h
      exact V_iretX rfl hq dX3_draw_17
def f_X3_draw (a0 : Nat) (M : zM) : Option ((String ⊕ Int32) × zM) := f_X3_draw_0 a0 M
theorem c_X3_draw {L : zL} {l : Launch} {a0 : Nat} {M : zM} {r : (String ⊕ Int32) × zM} (h : f_X3_draw a0 M = some r) : CX L l yX3_draw cX3_draw 2 (some FieldType.int) 7 M [.ref (zad L (a0))] (zoI r.1) r.2 :=
  CX.of ⟨by decide +kernel, by decide +kernel⟩ (Nat.le_of_ble_eq_true rfl) fun X Q hq => s_X3_draw_0 hq h
/-! Windsparlour.layIntoRiver(LWindsparlour$Seat;I)V -/
theorem dX3_layIntoRiver_0 : decode cX3_layIntoRiver 0 = .ok (.aload_n 1, 1) := by decide +kernel
theorem dX3_layIntoRiver_1 : decode cX3_layIntoRiver 1 = .ok (.iload_n 2, 1) := by decide +kernel
theorem dX3_layIntoRiver_2 : decode cX3_layIntoRiver 2 = .ok (.invokevirtual 296, 3) := by decide +kernel
theorem dX3_layIntoRiver_5 : decode cX3_layIntoRiver 5 = .ok (.aload_n 0, 1) := by decide +kernel
theorem dX3_layIntoRiver_6 : decode cX3_layIntoRiver 6 = .ok (.iconst 2, 1) := by decide +kernel
theorem dX3_layIntoRiver_7 : decode cX3_layIntoRiver 7 = .ok (.putfield 42, 3) := by decide +kernel
theorem dX3_layIntoRiver_10 : decode cX3_layIntoRiver 10 = .ok (.return_, 1) := by decide +kernel
def f_X3_layIntoRiver_0 (a0 : Nat) (a1 : Nat) (i2 : Int32) (M : zM) : Option (Unit × zM) :=
  if mK M a1 = 7 then
  (f_X1_toRiver a1 i2 M).bind fun r1 =>
  (pI 9 7 r1.2 a0 ((2 : Int32))).bind fun M3 =>
  some ((), M3)
  else none
set_option maxRecDepth 20000 in
set_option maxHeartbeats 4000000 in
theorem s_X3_layIntoRiver_0 {L : zL} {X : zX} {M0 : zM} {N : Nat × Nat} {Q : State → Prop} {r : Unit × zM} (hq : vQ L X M0 N Q none r.2) {a0 : Nat} {a1 : Nat} {i2 : Int32} {M : zM} (h : f_X3_layIntoRiver_0 a0 a1 i2 M = some r) : V L X yX3_layIntoRiver cX3_layIntoRiver 3 (none : Option FieldType) 3 M0 N Q M 0 [(0, .ref (zad L (a0))), (1, .ref (zad L (a1))), (2, .int (i2))] [] := by
  unfold f_X3_layIntoRiver_0 at h
  refine V_aload_n dX3_layIntoRiver_0 rfl 1 rfl ?_
  refine V_iload_n dX3_layIntoRiver_1 rfl 2 rfl ?_
  replace h := ox h
  obtain ⟨c2, h⟩ := h
  replace h := ob h
  obtain ⟨r1, e_r1, h⟩ := h
  refine V_callV_V (As := [.int (i2)]) (rest := []) (c_X1_toRiver e_r1) zc_X1_toRiver rfl (by decide) rfl (by decide) (Or.inl c2) zm_X3_296 (Nat.le_of_ble_eq_true rfl) rfl dX3_layIntoRiver_2 ?_
  refine V_pc (pc' := 5) rfl ?_
  refine V_aload_n dX3_layIntoRiver_5 rfl 0 rfl ?_
  refine V_iconst (v := 2) dX3_layIntoRiver_6 (by decide) ?_
  replace h := ob h
  obtain ⟨M3, e_M3, h⟩ := h
  refine V_putI zf_9_7 zl_X3_42 (Or.inl rfl) rfl e_M3 dX3_layIntoRiver_7 ?_
  refine V_pc (pc' := 10) rfl ?_
  obtain rfl := Option.some.inj h
  exact V_vret rfl hq dX3_layIntoRiver_10
def f_X3_layIntoRiver (a0 : Nat) (a1 : Nat) (i2 : Int32) (M : zM) : Option (Unit × zM) := f_X3_layIntoRiver_0 a0 a1 i2 M
theorem c_X3_layIntoRiver {L : zL} {l : Launch} {a0 : Nat} {a1 : Nat} {i2 : Int32} {M : zM} {r : Unit × zM} (h : f_X3_layIntoRiver a0 a1 i2 M = some r) : CP L l yX3_layIntoRiver cX3_layIntoRiver 3 (none : Option FieldType) 3 M [.ref (zad L (a0)), .ref (zad L (a1)), .int (i2)] none r.2 :=
  CP.of ⟨by decide +kernel, by decide +kernel⟩ (Nat.le_of_ble_eq_true rfl) fun X Q hq => s_X3_layIntoRiver_0 hq h
/-! Windsparlour.requireKind(I)V -/
theorem dX3_requireKind_0 : decode cX3_requireKind 0 = .ok (.iload_n 0, 1) := by decide +kernel
theorem dX3_requireKind_1 : decode cX3_requireKind 1 = .ok (.ifCond .lt 9, 3) := by decide +kernel
theorem dX3_requireKind_4 : decode cX3_requireKind 4 = .ok (.iload_n 0, 1) := by decide +kernel
theorem dX3_requireKind_5 : decode cX3_requireKind 5 = .ok (.bipush 25, 2) := by decide +kernel
theorem dX3_requireKind_7 : decode cX3_requireKind 7 = .ok (.if_icmp .lt 14, 3) := by decide +kernel
theorem dX3_requireKind_10 : decode cX3_requireKind 10 = .ok (.new 71, 3) := by decide +kernel
theorem dX3_requireKind_13 : decode cX3_requireKind 13 = .ok (.dup, 1) := by decide +kernel
theorem dX3_requireKind_14 : decode cX3_requireKind 14 = .ok (.ldc_w 289, 3) := by decide +kernel
theorem dX3_requireKind_17 : decode cX3_requireKind 17 = .ok (.invokespecial 75, 3) := by decide +kernel
theorem dX3_requireKind_20 : decode cX3_requireKind 20 = .ok (.athrow, 1) := by decide +kernel
theorem dX3_requireKind_21 : decode cX3_requireKind 21 = .ok (.return_, 1) := by decide +kernel
def f_X3_requireKind_10 (M : zM) : Option ((String ⊕ Unit) × zM) :=
  some (Sum.inl "java/lang/IllegalArgumentException", nE M)
set_option maxRecDepth 20000 in
set_option maxHeartbeats 4000000 in
theorem s_X3_requireKind_10 {L : zL} {X : zX} {M0 : zM} {N : Nat × Nat} {Q : State → Prop} {r : (String ⊕ Unit) × zM} (hq : vQX L X M0 N Q (zoV r.1) r.2) {M : zM} (h : f_X3_requireKind_10 M = some r) : V L X yX3_requireKind cX3_requireKind 1 (none : Option FieldType) 6 M0 N Q M 10 [] [] := by
  unfold f_X3_requireKind_10 at h
  obtain rfl := Option.some.inj h
  exact V_throwW (E := "java/lang/IllegalArgumentException") (tx := "no such kind") hq zx_X3_75 zk_X3_71 zs_X3_289 (by decide +kernel) (by decide) (Nat.le_of_ble_eq_true rfl) dX3_requireKind_10 dX3_requireKind_13 dX3_requireKind_14 dX3_requireKind_17 dX3_requireKind_20
def f_X3_requireKind_0 (i0 : Int32) (M : zM) : Option ((String ⊕ Unit) × zM) :=
  if i0 < 0 then
  f_X3_requireKind_10 M
  else
  if i0 < ((25 : Int32)) then
  some (Sum.inr (()), M)
  else
  f_X3_requireKind_10 M
set_option maxRecDepth 20000 in
set_option maxHeartbeats 4000000 in
theorem s_X3_requireKind_0 {L : zL} {X : zX} {M0 : zM} {N : Nat × Nat} {Q : State → Prop} {r : (String ⊕ Unit) × zM} (hq : vQX L X M0 N Q (zoV r.1) r.2) {i0 : Int32} {M : zM} (h : f_X3_requireKind_0 i0 M = some r) : V L X yX3_requireKind cX3_requireKind 1 (none : Option FieldType) 6 M0 N Q M 0 [(0, .int (i0))] [] := by
  unfold f_X3_requireKind_0 at h
  refine V_iload_n dX3_requireKind_0 rfl 0 rfl ?_
  refine V_if_lt (tgt := 10) dX3_requireKind_1 (by decide) (fun c2 => ?_) (fun c2 => ?_)
  · replace h := (oi h).1 c2
    refine V_sub [] rfl ?_
    exact s_X3_requireKind_10 hq h
  · replace h := (oi h).2 c2
    refine V_iload_n dX3_requireKind_4 rfl 0 rfl ?_
    refine V_bipush (v := 25) dX3_requireKind_5 (by decide) ?_
    refine V_icmp_lt (tgt := 21) dX3_requireKind_7 (by decide) (fun c1 => ?_) (fun c1 => ?_)
    · replace h := (oi h).1 c1
      obtain rfl := Option.some.inj h
      exact V_vretX rfl hq dX3_requireKind_21
    · replace h := (oi h).2 c1
      refine V_sub [] rfl ?_
      exact s_X3_requireKind_10 hq h
def f_X3_requireKind (i0 : Int32) (M : zM) : Option ((String ⊕ Unit) × zM) := f_X3_requireKind_0 i0 M
theorem c_X3_requireKind {L : zL} {l : Launch} {i0 : Int32} {M : zM} {r : (String ⊕ Unit) × zM} (h : f_X3_requireKind i0 M = some r) : CX L l yX3_requireKind cX3_requireKind 1 (none : Option FieldType) 6 M [.int (i0)] (zoV r.1) r.2 :=
  CX.of ⟨by decide +kernel, by decide +kernel⟩ (Nat.le_of_ble_eq_true rfl) fun X Q hq => s_X3_requireKind_0 hq h
/-! Windsparlour.discard(I)I -/
theorem dX3_discard_0 : decode cX3_discard 0 = .ok (.iload_n 1, 1) := by decide +kernel
theorem dX3_discard_1 : decode cX3_discard 1 = .ok (.invokestatic 105, 3) := by decide +kernel
theorem dX3_discard_4 : decode cX3_discard 4 = .ok (.aload_n 0, 1) := by decide +kernel
theorem dX3_discard_5 : decode cX3_discard 5 = .ok (.iconst 1, 1) := by decide +kernel
theorem dX3_discard_6 : decode cX3_discard 6 = .ok (.invokevirtual 78, 3) := by decide +kernel
theorem dX3_discard_9 : decode cX3_discard 9 = .ok (.aload_n 0, 1) := by decide +kernel
theorem dX3_discard_10 : decode cX3_discard 10 = .ok (.invokevirtual 108, 3) := by decide +kernel
theorem dX3_discard_13 : decode cX3_discard 13 = .ok (.astore_n 2, 1) := by decide +kernel
theorem dX3_discard_14 : decode cX3_discard 14 = .ok (.aload_n 2, 1) := by decide +kernel
theorem dX3_discard_15 : decode cX3_discard 15 = .ok (.iload_n 1, 1) := by decide +kernel
theorem dX3_discard_16 : decode cX3_discard 16 = .ok (.invokevirtual 112, 3) := by decide +kernel
theorem dX3_discard_19 : decode cX3_discard 19 = .ok (.ifCond .eq 18, 3) := by decide +kernel
theorem dX3_discard_22 : decode cX3_discard 22 = .ok (.aload_n 2, 1) := by decide +kernel
theorem dX3_discard_23 : decode cX3_discard 23 = .ok (.getfield 115, 3) := by decide +kernel
theorem dX3_discard_26 : decode cX3_discard 26 = .ok (.ifCond .eq 21, 3) := by decide +kernel
theorem dX3_discard_29 : decode cX3_discard 29 = .ok (.iload_n 1, 1) := by decide +kernel
theorem dX3_discard_30 : decode cX3_discard 30 = .ok (.aload_n 0, 1) := by decide +kernel
theorem dX3_discard_31 : decode cX3_discard 31 = .ok (.getfield 63, 3) := by decide +kernel
theorem dX3_discard_34 : decode cX3_discard 34 = .ok (.if_icmp .eq 13, 3) := by decide +kernel
theorem dX3_discard_37 : decode cX3_discard 37 = .ok (.new 118, 3) := by decide +kernel
theorem dX3_discard_40 : decode cX3_discard 40 = .ok (.dup, 1) := by decide +kernel
theorem dX3_discard_41 : decode cX3_discard 41 = .ok (.ldc 120, 2) := by decide +kernel
theorem dX3_discard_43 : decode cX3_discard 43 = .ok (.invokespecial 122, 3) := by decide +kernel
theorem dX3_discard_46 : decode cX3_discard 46 = .ok (.athrow, 1) := by decide +kernel
theorem dX3_discard_47 : decode cX3_discard 47 = .ok (.aload_n 0, 1) := by decide +kernel
theorem dX3_discard_48 : decode cX3_discard 48 = .ok (.aload_n 2, 1) := by decide +kernel
theorem dX3_discard_49 : decode cX3_discard 49 = .ok (.iload_n 1, 1) := by decide +kernel
theorem dX3_discard_50 : decode cX3_discard 50 = .ok (.invokevirtual 123, 3) := by decide +kernel
theorem dX3_discard_53 : decode cX3_discard 53 = .ok (.aload_n 2, 1) := by decide +kernel
theorem dX3_discard_54 : decode cX3_discard 54 = .ok (.getfield 127, 3) := by decide +kernel
theorem dX3_discard_57 : decode cX3_discard 57 = .ok (.ireturn, 1) := by decide +kernel
def f_X3_discard_37 (M : zM) : Option ((String ⊕ Int32) × zM) :=
  some (Sum.inl "java/lang/IllegalStateException", nE M)
set_option maxRecDepth 20000 in
set_option maxHeartbeats 4000000 in
theorem s_X3_discard_37 {L : zL} {X : zX} {M0 : zM} {N : Nat × Nat} {Q : State → Prop} {r : (String ⊕ Int32) × zM} (hq : vQX L X M0 N Q (zoI r.1) r.2) {M : zM} (h : f_X3_discard_37 M = some r) : V L X yX3_discard cX3_discard 3 (some FieldType.int) 7 M0 N Q M 37 [] [] := by
  unfold f_X3_discard_37 at h
  obtain rfl := Option.some.inj h
  exact V_throw (E := "java/lang/IllegalStateException") (tx := "that tile cannot be discarded") hq zx_X3_122 zk_X3_118 zs_X3_120 (by decide +kernel) (by decide) (Nat.le_of_ble_eq_true rfl) dX3_discard_37 dX3_discard_40 dX3_discard_41 dX3_discard_43 dX3_discard_46
def f_X3_discard_47 (a0 : Nat) (i1 : Int32) (a2 : Nat) (M : zM) : Option ((String ⊕ Int32) × zM) :=
  if mK M a0 = 9 then
  (f_X3_layIntoRiver a0 a2 i1 M).bind fun r1 =>
  (gI 7 5 r1.2 a2).bind fun v3 =>
  some (Sum.inr (v3), r1.2)
  else none
set_option maxRecDepth 20000 in
set_option maxHeartbeats 4000000 in
theorem s_X3_discard_47 {L : zL} {X : zX} {M0 : zM} {N : Nat × Nat} {Q : State → Prop} {r : (String ⊕ Int32) × zM} (hq : vQX L X M0 N Q (zoI r.1) r.2) {a0 : Nat} {i1 : Int32} {a2 : Nat} {M : zM} (h : f_X3_discard_47 a0 i1 a2 M = some r) : V L X yX3_discard cX3_discard 3 (some FieldType.int) 7 M0 N Q M 47 [(0, .ref (zad L (a0))), (1, .int (i1)), (2, .ref (zad L (a2)))] [] := by
  unfold f_X3_discard_47 at h
  refine V_aload_n dX3_discard_47 rfl 0 rfl ?_
  refine V_aload_n dX3_discard_48 rfl 2 rfl ?_
  refine V_iload_n dX3_discard_49 rfl 1 rfl ?_
  replace h := ox h
  obtain ⟨c2, h⟩ := h
  replace h := ob h
  obtain ⟨r1, e_r1, h⟩ := h
  refine V_callV_V (As := [.ref (zad L (a2)), .int (i1)]) (rest := []) (c_X3_layIntoRiver e_r1) zc_X3_layIntoRiver rfl (by decide) rfl (by decide) (Or.inl c2) zm_X3_123 (Nat.le_of_ble_eq_true rfl) rfl dX3_discard_50 ?_
  refine V_pc (pc' := 53) rfl ?_
  refine V_aload_n dX3_discard_53 rfl 2 rfl ?_
  replace h := ob h
  obtain ⟨v3, e_v3, h⟩ := h
  refine V_getI zf_7_5 zl_X3_127 e_v3 dX3_discard_54 ?_
  refine V_pc (pc' := 57) rfl ?_
  obtain rfl := Option.some.inj h
  exact V_iretX rfl hq dX3_discard_57
def f_X3_discard_0 (a0 : Nat) (i1 : Int32) (M : zM) : Option ((String ⊕ Int32) × zM) :=
  xb (f_X3_requireKind i1 M) fun w1 Mw1 =>
  if mK Mw1 a0 = 9 then
  xb (f_X3_requirePhase a0 ((1 : Int32)) Mw1) fun w22 Mw22 =>
  if mK Mw22 a0 = 9 then
  (f_X3_seatInTurn a0 Mw22).bind fun r33 =>
  if mK r33.2 r33.1 = 7 then
  (f_X1_count r33.1 i1 r33.2).bind fun r35 =>
  if r35.1 = 0 then
  f_X3_discard_37 r35.2
  else
  (gI 7 6 r35.2 r33.1).bind fun v37 =>
  if v37 = 0 then
  f_X3_discard_47 a0 i1 r33.1 r35.2
  else
  (gI 9 14 r35.2 a0).bind fun v38 =>
  if i1 = v38 then
  f_X3_discard_47 a0 i1 r33.1 r35.2
  else
  f_X3_discard_37 r35.2
  else none
  else none
  else none
set_option maxRecDepth 20000 in
set_option maxHeartbeats 4000000 in
theorem s_X3_discard_0 {L : zL} {X : zX} {M0 : zM} {N : Nat × Nat} {Q : State → Prop} {r : (String ⊕ Int32) × zM} (hq : vQX L X M0 N Q (zoI r.1) r.2) {a0 : Nat} {i1 : Int32} {M : zM} (h : f_X3_discard_0 a0 i1 M = some r) : V L X yX3_discard cX3_discard 3 (some FieldType.int) 7 M0 N Q M 0 [(0, .ref (zad L (a0))), (1, .int (i1))] [] := by
  unfold f_X3_discard_0 at h
  refine V_iload_n dX3_discard_0 rfl 1 rfl ?_
  replace h := xbs h
  rcases h with ⟨E_r1, M_r1, e_r1, rfl⟩ | ⟨w1, Mw1, e_r1, h⟩
  · exact V_callSt (As := [.int (i1)]) (rest := []) (c_X3_requireKind e_r1) hq (by decide +kernel) zc_X3_requireKind rfl (by decide) zm_X3_105 (Nat.le_of_ble_eq_true rfl) rfl dX3_discard_1
  · refine V_callSx_V (As := [.int (i1)]) (rest := []) (c_X3_requireKind e_r1) zc_X3_requireKind rfl (by decide) zm_X3_105 (Nat.le_of_ble_eq_true rfl) rfl dX3_discard_1 ?_
    refine V_pc (pc' := 4) rfl ?_
    refine V_aload_n dX3_discard_4 rfl 0 rfl ?_
    refine V_iconst (v := 1) dX3_discard_5 (by decide) ?_
    replace h := ox h
    obtain ⟨c23, h⟩ := h
    replace h := xbs h
    rcases h with ⟨E_r22, M_r22, e_r22, rfl⟩ | ⟨w22, Mw22, e_r22, h⟩
    · exact V_callVt (As := [.int ((1 : Int32))]) (rest := []) (c_X3_requirePhase e_r22) hq (by decide +kernel) zc_X3_requirePhase rfl (by decide) rfl (by decide) (Or.inl c23) zm_X3_78 (Nat.le_of_ble_eq_true rfl) rfl dX3_discard_6
    · refine V_callVx_V (As := [.int ((1 : Int32))]) (rest := []) (c_X3_requirePhase e_r22) zc_X3_requirePhase rfl (by decide) rfl (by decide) (Or.inl c23) zm_X3_78 (Nat.le_of_ble_eq_true rfl) rfl dX3_discard_6 ?_
      refine V_pc (pc' := 9) rfl ?_
      refine V_aload_n dX3_discard_9 rfl 0 rfl ?_
      replace h := ox h
      obtain ⟨c34, h⟩ := h
      replace h := ob h
      obtain ⟨r33, e_r33, h⟩ := h
      refine V_callV_A (As := []) (rest := []) (c_X3_seatInTurn e_r33) zc_X3_seatInTurn rfl (by decide) rfl (by decide) (Or.inl c34) zm_X3_108 (Nat.le_of_ble_eq_true rfl) rfl dX3_discard_10 ?_
      refine V_pc (pc' := 13) rfl ?_
      refine V_astore_n (ls' := [(2, .ref (zad L (r33.1))), (0, .ref (zad L (a0))), (1, .int (i1))]) dX3_discard_13 rfl (by decide) rfl ?_
      refine V_aload_n dX3_discard_14 rfl 0 rfl ?_
      refine V_iload_n dX3_discard_15 rfl 2 rfl ?_
      replace h := ox h
      obtain ⟨c36, h⟩ := h
      replace h := ob h
      obtain ⟨r35, e_r35, h⟩ := h
      refine V_callV_I (As := [.int (i1)]) (rest := []) (c_X1_count e_r35) zc_X1_count rfl (by decide) rfl (by decide) (Or.inl c36) zm_X3_112 (Nat.le_of_ble_eq_true rfl) rfl dX3_discard_16 ?_
      refine V_pc (pc' := 19) rfl ?_
      refine V_if_eq (tgt := 37) dX3_discard_19 (by decide) (fun c41 => ?_) (fun c41 => ?_)
      · replace h := (oi h).1 c41
        refine V_sub [] rfl ?_
        exact s_X3_discard_37 hq h
      · replace h := (oi h).2 c41
        refine V_aload_n dX3_discard_22 rfl 0 rfl ?_
        replace h := ob h
        obtain ⟨v37, e_v37, h⟩ := h
        refine V_getI zf_7_6 zl_X3_115 e_v37 dX3_discard_23 ?_
        refine V_pc (pc' := 26) rfl ?_
        refine V_if_eq (tgt := 47) dX3_discard_26 (by decide) (fun c40 => ?_) (fun c40 => ?_)
        · replace h := (oi h).1 c40
          refine V_sub [1, 2, 0] rfl ?_
          exact s_X3_discard_47 hq h
        · replace h := (oi h).2 c40
          refine V_iload_n dX3_discard_29 rfl 2 rfl ?_
          refine V_aload_n dX3_discard_30 rfl 1 rfl ?_
          replace h := ob h
          obtain ⟨v38, e_v38, h⟩ := h
          refine V_getI zf_9_14 zl_X3_63 e_v38 dX3_discard_31 ?_
          refine V_pc (pc' := 34) rfl ?_
          refine V_icmp_eq (tgt := 47) dX3_discard_34 (by decide) (fun c39 => ?_) (fun c39 => ?_)
          · replace h := (oi h).1 c39
            refine V_sub [1, 2, 0] rfl ?_
            exact s_X3_discard_47 hq h
          · replace h := (oi h).2 c39
            refine V_sub [] rfl ?_
            exact s_X3_discard_37 hq h
def f_X3_discard (a0 : Nat) (i1 : Int32) (M : zM) : Option ((String ⊕ Int32) × zM) := f_X3_discard_0 a0 i1 M
theorem c_X3_discard {L : zL} {l : Launch} {a0 : Nat} {i1 : Int32} {M : zM} {r : (String ⊕ Int32) × zM} (h : f_X3_discard a0 i1 M = some r) : CX L l yX3_discard cX3_discard 3 (some FieldType.int) 7 M [.ref (zad L (a0)), .int (i1)] (zoI r.1) r.2 :=
  CX.of ⟨by decide +kernel, by decide +kernel⟩ (Nat.le_of_ble_eq_true rfl) fun X Q hq => s_X3_discard_0 hq h
/-! Windsparlour.readyWithout(LWindsparlour$Seat;I)Z -/
theorem dX3_readyWithout_0 : decode cX3_readyWithout 0 = .ok (.aload_n 1, 1) := by decide +kernel
theorem dX3_readyWithout_1 : decode cX3_readyWithout 1 = .ok (.iload_n 2, 1) := by decide +kernel
theorem dX3_readyWithout_2 : decode cX3_readyWithout 2 = .ok (.iconst (-1), 1) := by decide +kernel
theorem dX3_readyWithout_3 : decode cX3_readyWithout 3 = .ok (.invokevirtual 157, 3) := by decide +kernel
theorem dX3_readyWithout_6 : decode cX3_readyWithout 6 = .ok (.aload_n 0, 1) := by decide +kernel
theorem dX3_readyWithout_7 : decode cX3_readyWithout 7 = .ok (.aload_n 1, 1) := by decide +kernel
theorem dX3_readyWithout_8 : decode cX3_readyWithout 8 = .ok (.invokevirtual 209, 3) := by decide +kernel
theorem dX3_readyWithout_11 : decode cX3_readyWithout 11 = .ok (.lconst 0, 1) := by decide +kernel
theorem dX3_readyWithout_12 : decode cX3_readyWithout 12 = .ok (.lcmp, 1) := by decide +kernel
theorem dX3_readyWithout_13 : decode cX3_readyWithout 13 = .ok (.ifCond .eq 7, 3) := by decide +kernel
theorem dX3_readyWithout_16 : decode cX3_readyWithout 16 = .ok (.iconst 1, 1) := by decide +kernel
theorem dX3_readyWithout_17 : decode cX3_readyWithout 17 = .ok (.goto 4, 3) := by decide +kernel
theorem dX3_readyWithout_20 : decode cX3_readyWithout 20 = .ok (.iconst 0, 1) := by decide +kernel
theorem dX3_readyWithout_21 : decode cX3_readyWithout 21 = .ok (.istore_n 3, 1) := by decide +kernel
theorem dX3_readyWithout_22 : decode cX3_readyWithout 22 = .ok (.aload_n 1, 1) := by decide +kernel
theorem dX3_readyWithout_23 : decode cX3_readyWithout 23 = .ok (.iload_n 2, 1) := by decide +kernel
theorem dX3_readyWithout_24 : decode cX3_readyWithout 24 = .ok (.iconst 1, 1) := by decide +kernel
theorem dX3_readyWithout_25 : decode cX3_readyWithout 25 = .ok (.invokevirtual 157, 3) := by decide +kernel
theorem dX3_readyWithout_28 : decode cX3_readyWithout 28 = .ok (.iload_n 3, 1) := by decide +kernel
theorem dX3_readyWithout_29 : decode cX3_readyWithout 29 = .ok (.ireturn, 1) := by decide +kernel
def f_X3_readyWithout_21 (a1 : Nat) (i2 : Int32) (i_0 : Int32) (M : zM) : Option (Int32 × zM) :=
  if mK M a1 = 7 then
  (f_X1_change a1 i2 ((1 : Int32)) M).bind fun r1 =>
  if i_0 = 0 ∨ i_0 = 1 then some (i_0, r1.2) else none
  else none
set_option maxRecDepth 20000 in
set_option maxHeartbeats 4000000 in
theorem s_X3_readyWithout_21 {L : zL} {X : zX} {M0 : zM} {N : Nat × Nat} {Q : State → Prop} {r : Int32 × zM} (hq : vQ L X M0 N Q (some (.int r.1)) r.2) {a1 : Nat} {i2 : Int32} {i_0 : Int32} {M : zM} (h : f_X3_readyWithout_21 a1 i2 i_0 M = some r) : V L X yX3_readyWithout cX3_readyWithout 4 (some FieldType.boolean) 5 M0 N Q M 21 [(1, .ref (zad L (a1))), (2, .int (i2))] [.int (i_0)] := by
  unfold f_X3_readyWithout_21 at h
  refine V_istore_n (ls' := [(3, .int (i_0)), (1, .ref (zad L (a1))), (2, .int (i2))]) dX3_readyWithout_21 rfl (by decide) rfl ?_
  refine V_aload_n dX3_readyWithout_22 rfl 1 rfl ?_
  refine V_iload_n dX3_readyWithout_23 rfl 2 rfl ?_
  refine V_iconst (v := 1) dX3_readyWithout_24 (by decide) ?_
  replace h := ox h
  obtain ⟨c2, h⟩ := h
  replace h := ob h
  obtain ⟨r1, e_r1, h⟩ := h
  refine V_callV_V (As := [.int (i2), .int ((1 : Int32))]) (rest := []) (c_X1_change e_r1) zc_X1_change rfl (by decide) rfl (by decide) (Or.inl c2) zm_X3_157 (Nat.le_of_ble_eq_true rfl) rfl dX3_readyWithout_25 ?_
  refine V_pc (pc' := 28) rfl ?_
  refine V_iload_n dX3_readyWithout_28 rfl 0 rfl ?_
  replace h := ox h
  obtain ⟨c3, h⟩ := h
  obtain rfl := Option.some.inj h
  exact V_zret (ty := .boolean) rfl (by rcases c3 with e | e <;> rw [e] <;> rfl) hq dX3_readyWithout_29
def f_X3_readyWithout_0 (a0 : Nat) (a1 : Nat) (i2 : Int32) (M : zM) : Option (Int32 × zM) :=
  if mK M a1 = 7 then
  (f_X1_change a1 i2 ((-1 : Int32)) M).bind fun r1 =>
  if mK r1.2 a0 = 9 then
  (f_X3_waitsOf a0 a1 r1.2).bind fun r3 =>
  if ((lg_cmp r3.1 ((0 : Int64)))) = 0 then
  f_X3_readyWithout_21 a1 i2 ((0 : Int32)) r3.2
  else
  f_X3_readyWithout_21 a1 i2 ((1 : Int32)) r3.2
  else none
  else none
set_option maxRecDepth 20000 in
set_option maxHeartbeats 4000000 in
theorem s_X3_readyWithout_0 {L : zL} {X : zX} {M0 : zM} {N : Nat × Nat} {Q : State → Prop} {r : Int32 × zM} (hq : vQ L X M0 N Q (some (.int r.1)) r.2) {a0 : Nat} {a1 : Nat} {i2 : Int32} {M : zM} (h : f_X3_readyWithout_0 a0 a1 i2 M = some r) : V L X yX3_readyWithout cX3_readyWithout 4 (some FieldType.boolean) 5 M0 N Q M 0 [(0, .ref (zad L (a0))), (1, .ref (zad L (a1))), (2, .int (i2))] [] := by
  unfold f_X3_readyWithout_0 at h
  refine V_aload_n dX3_readyWithout_0 rfl 1 rfl ?_
  refine V_iload_n dX3_readyWithout_1 rfl 2 rfl ?_
  refine V_iconst (v := -1) dX3_readyWithout_2 (by decide) ?_
  replace h := ox h
  obtain ⟨c2, h⟩ := h
  replace h := ob h
  obtain ⟨r1, e_r1, h⟩ := h
  refine V_callV_V (As := [.int (i2), .int ((-1 : Int32))]) (rest := []) (c_X1_change e_r1) zc_X1_change rfl (by decide) rfl (by decide) (Or.inl c2) zm_X3_157 (Nat.le_of_ble_eq_true rfl) rfl dX3_readyWithout_3 ?_
  refine V_pc (pc' := 6) rfl ?_
  refine V_aload_n dX3_readyWithout_6 rfl 0 rfl ?_
  refine V_aload_n dX3_readyWithout_7 rfl 1 rfl ?_
  replace h := ox h
  obtain ⟨c4, h⟩ := h
  replace h := ob h
  obtain ⟨r3, e_r3, h⟩ := h
  refine V_callV_J (As := [.ref (zad L (a1))]) (rest := []) (c_X3_waitsOf e_r3) zc_X3_waitsOf rfl (by decide) rfl (by decide) (Or.inl c4) zm_X3_209 (Nat.le_of_ble_eq_true rfl) rfl dX3_readyWithout_8 ?_
  refine V_pc (pc' := 11) rfl ?_
  refine V_lconst (v := 0) dX3_readyWithout_11 (by decide) ?_
  refine V_lcmp dX3_readyWithout_12 ?_
  refine V_if_eq (tgt := 20) dX3_readyWithout_13 (by decide) (fun c5 => ?_) (fun c5 => ?_)
  · replace h := (oi h).1 c5
    refine V_iconst (v := 0) dX3_readyWithout_20 (by decide) ?_
    refine V_sub [1, 2] rfl ?_
    exact s_X3_readyWithout_21 hq h
  · replace h := (oi h).2 c5
    refine V_iconst (v := 1) dX3_readyWithout_16 (by decide) ?_
    refine V_goto (tgt := 21) dX3_readyWithout_17 (by decide) ?_
    refine V_sub [1, 2] rfl ?_
    exact s_X3_readyWithout_21 hq h
def f_X3_readyWithout (a0 : Nat) (a1 : Nat) (i2 : Int32) (M : zM) : Option (Int32 × zM) := f_X3_readyWithout_0 a0 a1 i2 M
theorem c_X3_readyWithout {L : zL} {l : Launch} {a0 : Nat} {a1 : Nat} {i2 : Int32} {M : zM} {r : Int32 × zM} (h : f_X3_readyWithout a0 a1 i2 M = some r) : CP L l yX3_readyWithout cX3_readyWithout 4 (some FieldType.boolean) 5 M [.ref (zad L (a0)), .ref (zad L (a1)), .int (i2)] (some (.int r.1)) r.2 :=
  CP.of ⟨by decide +kernel, by decide +kernel⟩ (Nat.le_of_ble_eq_true rfl) fun X Q hq => s_X3_readyWithout_0 hq h
/-! Windsparlour.call(I)I -/
theorem dX3_call_0 : decode cX3_call 0 = .ok (.iload_n 1, 1) := by decide +kernel
theorem dX3_call_1 : decode cX3_call 1 = .ok (.invokestatic 105, 3) := by decide +kernel
theorem dX3_call_4 : decode cX3_call 4 = .ok (.aload_n 0, 1) := by decide +kernel
theorem dX3_call_5 : decode cX3_call 5 = .ok (.iconst 1, 1) := by decide +kernel
theorem dX3_call_6 : decode cX3_call 6 = .ok (.invokevirtual 78, 3) := by decide +kernel
theorem dX3_call_9 : decode cX3_call 9 = .ok (.aload_n 0, 1) := by decide +kernel
theorem dX3_call_10 : decode cX3_call 10 = .ok (.invokevirtual 108, 3) := by decide +kernel
theorem dX3_call_13 : decode cX3_call 13 = .ok (.astore_n 2, 1) := by decide +kernel
theorem dX3_call_14 : decode cX3_call 14 = .ok (.aload_n 2, 1) := by decide +kernel
theorem dX3_call_15 : decode cX3_call 15 = .ok (.getfield 115, 3) := by decide +kernel
theorem dX3_call_18 : decode cX3_call 18 = .ok (.ifCond .ne 27, 3) := by decide +kernel
theorem dX3_call_21 : decode cX3_call 21 = .ok (.aload_n 2, 1) := by decide +kernel
theorem dX3_call_22 : decode cX3_call 22 = .ok (.invokevirtual 130, 3) := by decide +kernel
theorem dX3_call_25 : decode cX3_call 25 = .ok (.ifCond .gt 20, 3) := by decide +kernel
theorem dX3_call_28 : decode cX3_call 28 = .ok (.aload_n 2, 1) := by decide +kernel
theorem dX3_call_29 : decode cX3_call 29 = .ok (.iload_n 1, 1) := by decide +kernel
theorem dX3_call_30 : decode cX3_call 30 = .ok (.invokevirtual 112, 3) := by decide +kernel
theorem dX3_call_33 : decode cX3_call 33 = .ok (.ifCond .eq 12, 3) := by decide +kernel
theorem dX3_call_36 : decode cX3_call 36 = .ok (.aload_n 0, 1) := by decide +kernel
theorem dX3_call_37 : decode cX3_call 37 = .ok (.aload_n 2, 1) := by decide +kernel
theorem dX3_call_38 : decode cX3_call 38 = .ok (.iload_n 1, 1) := by decide +kernel
theorem dX3_call_39 : decode cX3_call 39 = .ok (.invokevirtual 134, 3) := by decide +kernel
theorem dX3_call_42 : decode cX3_call 42 = .ok (.ifCond .ne 13, 3) := by decide +kernel
theorem dX3_call_45 : decode cX3_call 45 = .ok (.new 118, 3) := by decide +kernel
theorem dX3_call_48 : decode cX3_call 48 = .ok (.dup, 1) := by decide +kernel
theorem dX3_call_49 : decode cX3_call 49 = .ok (.ldc 138, 2) := by decide +kernel
theorem dX3_call_51 : decode cX3_call 51 = .ok (.invokespecial 122, 3) := by decide +kernel
theorem dX3_call_54 : decode cX3_call 54 = .ok (.athrow, 1) := by decide +kernel
theorem dX3_call_55 : decode cX3_call 55 = .ok (.aload_n 2, 1) := by decide +kernel
theorem dX3_call_56 : decode cX3_call 56 = .ok (.dup, 1) := by decide +kernel
theorem dX3_call_57 : decode cX3_call 57 = .ok (.getfield 140, 3) := by decide +kernel
theorem dX3_call_60 : decode cX3_call 60 = .ok (.bipush 10, 2) := by decide +kernel
theorem dX3_call_62 : decode cX3_call 62 = .ok (.isub, 1) := by decide +kernel
theorem dX3_call_63 : decode cX3_call 63 = .ok (.putfield 140, 3) := by decide +kernel
theorem dX3_call_66 : decode cX3_call 66 = .ok (.aload_n 0, 1) := by decide +kernel
theorem dX3_call_67 : decode cX3_call 67 = .ok (.dup, 1) := by decide +kernel
theorem dX3_call_68 : decode cX3_call 68 = .ok (.getfield 54, 3) := by decide +kernel
theorem dX3_call_71 : decode cX3_call 71 = .ok (.bipush 10, 2) := by decide +kernel
theorem dX3_call_73 : decode cX3_call 73 = .ok (.iadd, 1) := by decide +kernel
theorem dX3_call_74 : decode cX3_call 74 = .ok (.putfield 54, 3) := by decide +kernel
theorem dX3_call_77 : decode cX3_call 77 = .ok (.aload_n 2, 1) := by decide +kernel
theorem dX3_call_78 : decode cX3_call 78 = .ok (.iconst 1, 1) := by decide +kernel
theorem dX3_call_79 : decode cX3_call 79 = .ok (.putfield 115, 3) := by decide +kernel
theorem dX3_call_82 : decode cX3_call 82 = .ok (.aload_n 0, 1) := by decide +kernel
theorem dX3_call_83 : decode cX3_call 83 = .ok (.aload_n 2, 1) := by decide +kernel
theorem dX3_call_84 : decode cX3_call 84 = .ok (.iload_n 1, 1) := by decide +kernel
theorem dX3_call_85 : decode cX3_call 85 = .ok (.invokevirtual 123, 3) := by decide +kernel
theorem dX3_call_88 : decode cX3_call 88 = .ok (.aload_n 2, 1) := by decide +kernel
theorem dX3_call_89 : decode cX3_call 89 = .ok (.getfield 140, 3) := by decide +kernel
theorem dX3_call_92 : decode cX3_call 92 = .ok (.ireturn, 1) := by decide +kernel
def f_X3_call_45 (M : zM) : Option ((String ⊕ Int32) × zM) :=
  some (Sum.inl "java/lang/IllegalStateException", nE M)
set_option maxRecDepth 20000 in
set_option maxHeartbeats 4000000 in
theorem s_X3_call_45 {L : zL} {X : zX} {M0 : zM} {N : Nat × Nat} {Q : State → Prop} {r : (String ⊕ Int32) × zM} (hq : vQX L X M0 N Q (zoI r.1) r.2) {M : zM} (h : f_X3_call_45 M = some r) : V L X yX3_call cX3_call 3 (some FieldType.int) 7 M0 N Q M 45 [] [] := by
  unfold f_X3_call_45 at h
  obtain rfl := Option.some.inj h
  exact V_throw (E := "java/lang/IllegalStateException") (tx := "that hand cannot be called") hq zx_X3_122 zk_X3_118 zs_X3_138 (by decide +kernel) (by decide) (Nat.le_of_ble_eq_true rfl) dX3_call_45 dX3_call_48 dX3_call_49 dX3_call_51 dX3_call_54
def f_X3_call_0 (a0 : Nat) (i1 : Int32) (M : zM) : Option ((String ⊕ Int32) × zM) :=
  xb (f_X3_requireKind i1 M) fun w1 Mw1 =>
  if mK Mw1 a0 = 9 then
  xb (f_X3_requirePhase a0 ((1 : Int32)) Mw1) fun w46 Mw46 =>
  if mK Mw46 a0 = 9 then
  (f_X3_seatInTurn a0 Mw46).bind fun r69 =>
  (gI 7 6 r69.2 r69.1).bind fun v71 =>
  if v71 = 0 then
  if mK r69.2 r69.1 = 7 then
  (f_X1_openSets r69.1 r69.2).bind fun r72 =>
  if 0 < r72.1 then
  f_X3_call_45 r72.2
  else
  if mK r72.2 r69.1 = 7 then
  (f_X1_count r69.1 i1 r72.2).bind fun r74 =>
  if r74.1 = 0 then
  f_X3_call_45 r74.2
  else
  if mK r74.2 a0 = 9 then
  (f_X3_readyWithout a0 r69.1 i1 r74.2).bind fun r76 =>
  if r76.1 = 0 then
  f_X3_call_45 r76.2
  else
  (gI 7 7 r76.2 r69.1).bind fun v78 =>
  (pI 7 7 r76.2 r69.1 ((v78 - ((10 : Int32))))).bind fun M79 =>
  (gI 9 11 M79 a0).bind fun v80 =>
  (pI 9 11 M79 a0 ((v80 + ((10 : Int32))))).bind fun M81 =>
  (pZ 7 6 M81 r69.1 ((1 : Int32))).bind fun M82 =>
  if mK M82 a0 = 9 then
  (f_X3_layIntoRiver a0 r69.1 i1 M82).bind fun r83 =>
  (gI 7 7 r83.2 r69.1).bind fun v85 =>
  some (Sum.inr (v85), r83.2)
  else none
  else none
  else none
  else none
  else
  f_X3_call_45 r69.2
  else none
  else none
set_option maxRecDepth 20000 in
set_option maxHeartbeats 4000000 in
theorem s_X3_call_0 {L : zL} {X : zX} {M0 : zM} {N : Nat × Nat} {Q : State → Prop} {r : (String ⊕ Int32) × zM} (hq : vQX L X M0 N Q (zoI r.1) r.2) {a0 : Nat} {i1 : Int32} {M : zM} (h : f_X3_call_0 a0 i1 M = some r) : V L X yX3_call cX3_call 3 (some FieldType.int) 7 M0 N Q M 0 [(0, .ref (zad L (a0))), (1, .int (i1))] [] := by
  unfold f_X3_call_0 at h
  refine V_iload_n dX3_call_0 rfl 1 rfl ?_
  replace h := xbs h
  rcases h with ⟨E_r1, M_r1, e_r1, rfl⟩ | ⟨w1, Mw1, e_r1, h⟩
  · exact V_callSt (As := [.int (i1)]) (rest := []) (c_X3_requireKind e_r1) hq (by decide +kernel) zc_X3_requireKind rfl (by decide) zm_X3_105 (Nat.le_of_ble_eq_true rfl) rfl dX3_call_1
  · refine V_callSx_V (As := [.int (i1)]) (rest := []) (c_X3_requireKind e_r1) zc_X3_requireKind rfl (by decide) zm_X3_105 (Nat.le_of_ble_eq_true rfl) rfl dX3_call_1 ?_
    refine V_pc (pc' := 4) rfl ?_
    refine V_aload_n dX3_call_4 rfl 0 rfl ?_
    refine V_iconst (v := 1) dX3_call_5 (by decide) ?_
    replace h := ox h
    obtain ⟨c47, h⟩ := h
    replace h := xbs h
    rcases h with ⟨E_r46, M_r46, e_r46, rfl⟩ | ⟨w46, Mw46, e_r46, h⟩
    · exact V_callVt (As := [.int ((1 : Int32))]) (rest := []) (c_X3_requirePhase e_r46) hq (by decide +kernel) zc_X3_requirePhase rfl (by decide) rfl (by decide) (Or.inl c47) zm_X3_78 (Nat.le_of_ble_eq_true rfl) rfl dX3_call_6
    · refine V_callVx_V (As := [.int ((1 : Int32))]) (rest := []) (c_X3_requirePhase e_r46) zc_X3_requirePhase rfl (by decide) rfl (by decide) (Or.inl c47) zm_X3_78 (Nat.le_of_ble_eq_true rfl) rfl dX3_call_6 ?_
      refine V_pc (pc' := 9) rfl ?_
      refine V_aload_n dX3_call_9 rfl 0 rfl ?_
      replace h := ox h
      obtain ⟨c70, h⟩ := h
      replace h := ob h
      obtain ⟨r69, e_r69, h⟩ := h
      refine V_callV_A (As := []) (rest := []) (c_X3_seatInTurn e_r69) zc_X3_seatInTurn rfl (by decide) rfl (by decide) (Or.inl c70) zm_X3_108 (Nat.le_of_ble_eq_true rfl) rfl dX3_call_10 ?_
      refine V_pc (pc' := 13) rfl ?_
      refine V_astore_n (ls' := [(2, .ref (zad L (r69.1))), (0, .ref (zad L (a0))), (1, .int (i1))]) dX3_call_13 rfl (by decide) rfl ?_
      refine V_aload_n dX3_call_14 rfl 0 rfl ?_
      replace h := ob h
      obtain ⟨v71, e_v71, h⟩ := h
      refine V_getI zf_7_6 zl_X3_115 e_v71 dX3_call_15 ?_
      refine V_pc (pc' := 18) rfl ?_
      refine V_if_ne (tgt := 45) dX3_call_18 (by decide) (fun c89 => ?_) (fun c89 => ?_)
      · replace h := (oi h).2 c89
        refine V_sub [] rfl ?_
        exact s_X3_call_45 hq h
      · replace h := (oi h).1 c89
        refine V_aload_n dX3_call_21 rfl 0 rfl ?_
        replace h := ox h
        obtain ⟨c73, h⟩ := h
        replace h := ob h
        obtain ⟨r72, e_r72, h⟩ := h
        refine V_callV_I (As := []) (rest := []) (c_X1_openSets e_r72) zc_X1_openSets rfl (by decide) rfl (by decide) (Or.inl c73) zm_X3_130 (Nat.le_of_ble_eq_true rfl) rfl dX3_call_22 ?_
        refine V_pc (pc' := 25) rfl ?_
        refine V_if_gt (tgt := 45) dX3_call_25 (by decide) (fun c88 => ?_) (fun c88 => ?_)
        · replace h := (oi h).1 c88
          refine V_sub [] rfl ?_
          exact s_X3_call_45 hq h
        · replace h := (oi h).2 c88
          refine V_aload_n dX3_call_28 rfl 0 rfl ?_
          refine V_iload_n dX3_call_29 rfl 2 rfl ?_
          replace h := ox h
          obtain ⟨c75, h⟩ := h
          replace h := ob h
          obtain ⟨r74, e_r74, h⟩ := h
          refine V_callV_I (As := [.int (i1)]) (rest := []) (c_X1_count e_r74) zc_X1_count rfl (by decide) rfl (by decide) (Or.inl c75) zm_X3_112 (Nat.le_of_ble_eq_true rfl) rfl dX3_call_30 ?_
          refine V_pc (pc' := 33) rfl ?_
          refine V_if_eq (tgt := 45) dX3_call_33 (by decide) (fun c87 => ?_) (fun c87 => ?_)
          · replace h := (oi h).1 c87
            refine V_sub [] rfl ?_
            exact s_X3_call_45 hq h
          · replace h := (oi h).2 c87
            refine V_aload_n dX3_call_36 rfl 1 rfl ?_
            refine V_aload_n dX3_call_37 rfl 0 rfl ?_
            refine V_iload_n dX3_call_38 rfl 2 rfl ?_
            replace h := ox h
            obtain ⟨c77, h⟩ := h
            replace h := ob h
            obtain ⟨r76, e_r76, h⟩ := h
            refine V_callV_I (As := [.ref (zad L (r69.1)), .int (i1)]) (rest := []) (c_X3_readyWithout e_r76) zc_X3_readyWithout rfl (by decide) rfl (by decide) (Or.inl c77) zm_X3_134 (Nat.le_of_ble_eq_true rfl) rfl dX3_call_39 ?_
            refine V_pc (pc' := 42) rfl ?_
            refine V_if_ne (tgt := 55) dX3_call_42 (by decide) (fun c86 => ?_) (fun c86 => ?_)
            · replace h := (oi h).2 c86
              refine V_aload_n dX3_call_55 rfl 0 rfl ?_
              refine V_dup dX3_call_56 rfl ?_
              replace h := ob h
              obtain ⟨v78, e_v78, h⟩ := h
              refine V_getI zf_7_7 zl_X3_140 e_v78 dX3_call_57 ?_
              refine V_pc (pc' := 60) rfl ?_
              refine V_bipush (v := 10) dX3_call_60 (by decide) ?_
              refine V_isub dX3_call_62 ?_
              replace h := ob h
              obtain ⟨M79, e_M79, h⟩ := h
              refine V_putI zf_7_7 zl_X3_140 (Or.inl rfl) rfl e_M79 dX3_call_63 ?_
              refine V_pc (pc' := 66) rfl ?_
              refine V_aload_n dX3_call_66 rfl 1 rfl ?_
              refine V_dup dX3_call_67 rfl ?_
              replace h := ob h
              obtain ⟨v80, e_v80, h⟩ := h
              refine V_getI zf_9_11 zl_X3_54 e_v80 dX3_call_68 ?_
              refine V_pc (pc' := 71) rfl ?_
              refine V_bipush (v := 10) dX3_call_71 (by decide) ?_
              refine V_iadd dX3_call_73 ?_
              replace h := ob h
              obtain ⟨M81, e_M81, h⟩ := h
              refine V_putI zf_9_11 zl_X3_54 (Or.inl rfl) rfl e_M81 dX3_call_74 ?_
              refine V_pc (pc' := 77) rfl ?_
              refine V_aload_n dX3_call_77 rfl 0 rfl ?_
              refine V_iconst (v := 1) dX3_call_78 (by decide) ?_
              replace h := ob h
              obtain ⟨M82, e_M82, h⟩ := h
              refine V_putZ zf_7_6 zl_X3_115 (Or.inl rfl) rfl e_M82 dX3_call_79 ?_
              refine V_pc (pc' := 82) rfl ?_
              refine V_aload_n dX3_call_82 rfl 1 rfl ?_
              refine V_aload_n dX3_call_83 rfl 0 rfl ?_
              refine V_iload_n dX3_call_84 rfl 2 rfl ?_
              replace h := ox h
              obtain ⟨c84, h⟩ := h
              replace h := ob h
              obtain ⟨r83, e_r83, h⟩ := h
              refine V_callV_V (As := [.ref (zad L (r69.1)), .int (i1)]) (rest := []) (c_X3_layIntoRiver e_r83) zc_X3_layIntoRiver rfl (by decide) rfl (by decide) (Or.inl c84) zm_X3_123 (Nat.le_of_ble_eq_true rfl) rfl dX3_call_85 ?_
              refine V_pc (pc' := 88) rfl ?_
              refine V_aload_n dX3_call_88 rfl 0 rfl ?_
              replace h := ob h
              obtain ⟨v85, e_v85, h⟩ := h
              refine V_getI zf_7_7 zl_X3_140 e_v85 dX3_call_89 ?_
              refine V_pc (pc' := 92) rfl ?_
              obtain rfl := Option.some.inj h
              exact V_iretX rfl hq dX3_call_92
            · replace h := (oi h).1 c86
              refine V_sub [] rfl ?_
              exact s_X3_call_45 hq h
def f_X3_call (a0 : Nat) (i1 : Int32) (M : zM) : Option ((String ⊕ Int32) × zM) := f_X3_call_0 a0 i1 M
theorem c_X3_call {L : zL} {l : Launch} {a0 : Nat} {i1 : Int32} {M : zM} {r : (String ⊕ Int32) × zM} (h : f_X3_call a0 i1 M = some r) : CX L l yX3_call cX3_call 3 (some FieldType.int) 7 M [.ref (zad L (a0)), .int (i1)] (zoI r.1) r.2 :=
  CX.of ⟨by decide +kernel, by decide +kernel⟩ (Nat.le_of_ble_eq_true rfl) fun X Q hq => s_X3_call_0 hq h
/-! Windsparlour.drawForFour()I -/
theorem dX3_drawForFour_0 : decode cX3_drawForFour 0 = .ok (.aload_n 0, 1) := by decide +kernel
theorem dX3_drawForFour_1 : decode cX3_drawForFour 1 = .ok (.bipush 99, 2) := by decide +kernel
theorem dX3_drawForFour_3 : decode cX3_drawForFour 3 = .ok (.aload_n 0, 1) := by decide +kernel
theorem dX3_drawForFour_4 : decode cX3_drawForFour 4 = .ok (.getfield 39, 3) := by decide +kernel
theorem dX3_drawForFour_7 : decode cX3_drawForFour 7 = .ok (.isub, 1) := by decide +kernel
theorem dX3_drawForFour_8 : decode cX3_drawForFour 8 = .ok (.invokevirtual 88, 3) := by decide +kernel
theorem dX3_drawForFour_11 : decode cX3_drawForFour 11 = .ok (.istore_n 1, 1) := by decide +kernel
theorem dX3_drawForFour_12 : decode cX3_drawForFour 12 = .ok (.aload_n 0, 1) := by decide +kernel
theorem dX3_drawForFour_13 : decode cX3_drawForFour 13 = .ok (.dup, 1) := by decide +kernel
theorem dX3_drawForFour_14 : decode cX3_drawForFour 14 = .ok (.getfield 39, 3) := by decide +kernel
theorem dX3_drawForFour_17 : decode cX3_drawForFour 17 = .ok (.iconst 1, 1) := by decide +kernel
theorem dX3_drawForFour_18 : decode cX3_drawForFour 18 = .ok (.iadd, 1) := by decide +kernel
theorem dX3_drawForFour_19 : decode cX3_drawForFour 19 = .ok (.putfield 39, 3) := by decide +kernel
theorem dX3_drawForFour_22 : decode cX3_drawForFour 22 = .ok (.aload_n 0, 1) := by decide +kernel
theorem dX3_drawForFour_23 : decode cX3_drawForFour 23 = .ok (.iload_n 1, 1) := by decide +kernel
theorem dX3_drawForFour_24 : decode cX3_drawForFour 24 = .ok (.invokevirtual 102, 3) := by decide +kernel
theorem dX3_drawForFour_27 : decode cX3_drawForFour 27 = .ok (.iload_n 1, 1) := by decide +kernel
theorem dX3_drawForFour_28 : decode cX3_drawForFour 28 = .ok (.ireturn, 1) := by decide +kernel
def f_X3_drawForFour_0 (a0 : Nat) (M : zM) : Option (Int32 × zM) :=
  (gI 9 6 M a0).bind fun v1 =>
  if mK M a0 = 9 then
  (f_X3_kindAt a0 ((((99 : Int32)) - v1)) M).bind fun r2 =>
  (gI 9 6 r2.2 a0).bind fun v4 =>
  (pI 9 6 r2.2 a0 ((v4 + ((1 : Int32))))).bind fun M5 =>
  if mK M5 a0 = 9 then
  (f_X3_receive a0 r2.1 M5).bind fun r6 =>
  some (r2.1, r6.2)
  else none
  else none
set_option maxRecDepth 20000 in
set_option maxHeartbeats 4000000 in
theorem s_X3_drawForFour_0 {L : zL} {X : zX} {M0 : zM} {N : Nat × Nat} {Q : State → Prop} {r : Int32 × zM} (hq : vQ L X M0 N Q (some (.int r.1)) r.2) {a0 : Nat} {M : zM} (h : f_X3_drawForFour_0 a0 M = some r) : V L X yX3_drawForFour cX3_drawForFour 2 (some FieldType.int) 3 M0 N Q M 0 [(0, .ref (zad L (a0)))] [] := by
  unfold f_X3_drawForFour_0 at h
  refine V_aload_n dX3_drawForFour_0 rfl 0 rfl ?_
  refine V_bipush (v := 99) dX3_drawForFour_1 (by decide) ?_
  refine V_aload_n dX3_drawForFour_3 rfl 0 rfl ?_
  replace h := ob h
  obtain ⟨v1, e_v1, h⟩ := h
  refine V_getI zf_9_6 zl_X3_39 e_v1 dX3_drawForFour_4 ?_
  refine V_pc (pc' := 7) rfl ?_
  refine V_isub dX3_drawForFour_7 ?_
  replace h := ox h
  obtain ⟨c3, h⟩ := h
  replace h := ob h
  obtain ⟨r2, e_r2, h⟩ := h
  refine V_callV_I (As := [.int ((((99 : Int32)) - v1))]) (rest := []) (c_X3_kindAt e_r2) zc_X3_kindAt rfl (by decide) rfl (by decide) (Or.inl c3) zm_X3_88 (Nat.le_of_ble_eq_true rfl) rfl dX3_drawForFour_8 ?_
  refine V_pc (pc' := 11) rfl ?_
  refine V_istore_n (ls' := [(1, .int (r2.1)), (0, .ref (zad L (a0)))]) dX3_drawForFour_11 rfl (by decide) rfl ?_
  refine V_aload_n dX3_drawForFour_12 rfl 1 rfl ?_
  refine V_dup dX3_drawForFour_13 rfl ?_
  replace h := ob h
  obtain ⟨v4, e_v4, h⟩ := h
  refine V_getI zf_9_6 zl_X3_39 e_v4 dX3_drawForFour_14 ?_
  refine V_pc (pc' := 17) rfl ?_
  refine V_iconst (v := 1) dX3_drawForFour_17 (by decide) ?_
  refine V_iadd dX3_drawForFour_18 ?_
  replace h := ob h
  obtain ⟨M5, e_M5, h⟩ := h
  refine V_putI zf_9_6 zl_X3_39 (Or.inl rfl) rfl e_M5 dX3_drawForFour_19 ?_
  refine V_pc (pc' := 22) rfl ?_
  refine V_aload_n dX3_drawForFour_22 rfl 1 rfl ?_
  refine V_iload_n dX3_drawForFour_23 rfl 0 rfl ?_
  replace h := ox h
  obtain ⟨c7, h⟩ := h
  replace h := ob h
  obtain ⟨r6, e_r6, h⟩ := h
  refine V_callV_V (As := [.int (r2.1)]) (rest := []) (c_X3_receive e_r6) zc_X3_receive rfl (by decide) rfl (by decide) (Or.inl c7) zm_X3_102 (Nat.le_of_ble_eq_true rfl) rfl dX3_drawForFour_24 ?_
  refine V_pc (pc' := 27) rfl ?_
  refine V_iload_n dX3_drawForFour_27 rfl 0 rfl ?_
  obtain rfl := Option.some.inj h
  exact V_iret rfl hq dX3_drawForFour_28
def f_X3_drawForFour (a0 : Nat) (M : zM) : Option (Int32 × zM) := f_X3_drawForFour_0 a0 M
theorem c_X3_drawForFour {L : zL} {l : Launch} {a0 : Nat} {M : zM} {r : Int32 × zM} (h : f_X3_drawForFour a0 M = some r) : CP L l yX3_drawForFour cX3_drawForFour 2 (some FieldType.int) 3 M [.ref (zad L (a0))] (some (.int r.1)) r.2 :=
  CP.of ⟨by decide +kernel, by decide +kernel⟩ (Nat.le_of_ble_eq_true rfl) fun X Q hq => s_X3_drawForFour_0 hq h
