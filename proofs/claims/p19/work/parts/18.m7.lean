/-! ===== METHODS, by program ===== -/
/-! WindsparlourModel.areSets([II)Z -/
theorem dX7_areSets_0 : decode cX7_areSets 0 = .ok (.iconst 0, 1) := by decide +kernel
theorem dX7_areSets_1 : decode cX7_areSets 1 = .ok (.istore_n 2, 1) := by decide +kernel
theorem dX7_areSets_2 : decode cX7_areSets 2 = .ok (.iload_n 2, 1) := by decide +kernel
theorem dX7_areSets_3 : decode cX7_areSets 3 = .ok (.bipush 25, 2) := by decide +kernel
theorem dX7_areSets_5 : decode cX7_areSets 5 = .ok (.if_icmp .ge 15, 3) := by decide +kernel
theorem dX7_areSets_8 : decode cX7_areSets 8 = .ok (.aload_n 0, 1) := by decide +kernel
theorem dX7_areSets_9 : decode cX7_areSets 9 = .ok (.iload_n 2, 1) := by decide +kernel
theorem dX7_areSets_10 : decode cX7_areSets 10 = .ok (.iaload, 1) := by decide +kernel
theorem dX7_areSets_11 : decode cX7_areSets 11 = .ok (.ifCond .ne 9, 3) := by decide +kernel
theorem dX7_areSets_14 : decode cX7_areSets 14 = .ok (.iinc 2 1, 3) := by decide +kernel
theorem dX7_areSets_17 : decode cX7_areSets 17 = .ok (.goto (-15), 3) := by decide +kernel
theorem dX7_areSets_20 : decode cX7_areSets 20 = .ok (.iload_n 2, 1) := by decide +kernel
theorem dX7_areSets_21 : decode cX7_areSets 21 = .ok (.bipush 25, 2) := by decide +kernel
theorem dX7_areSets_23 : decode cX7_areSets 23 = .ok (.if_icmp .ne 13, 3) := by decide +kernel
theorem dX7_areSets_26 : decode cX7_areSets 26 = .ok (.iload_n 1, 1) := by decide +kernel
theorem dX7_areSets_27 : decode cX7_areSets 27 = .ok (.ifCond .ne 7, 3) := by decide +kernel
theorem dX7_areSets_30 : decode cX7_areSets 30 = .ok (.iconst 1, 1) := by decide +kernel
theorem dX7_areSets_31 : decode cX7_areSets 31 = .ok (.goto 4, 3) := by decide +kernel
theorem dX7_areSets_34 : decode cX7_areSets 34 = .ok (.iconst 0, 1) := by decide +kernel
theorem dX7_areSets_35 : decode cX7_areSets 35 = .ok (.ireturn, 1) := by decide +kernel
theorem dX7_areSets_36 : decode cX7_areSets 36 = .ok (.iload_n 1, 1) := by decide +kernel
theorem dX7_areSets_37 : decode cX7_areSets 37 = .ok (.ifCond .ne 5, 3) := by decide +kernel
theorem dX7_areSets_40 : decode cX7_areSets 40 = .ok (.iconst 0, 1) := by decide +kernel
theorem dX7_areSets_41 : decode cX7_areSets 41 = .ok (.ireturn, 1) := by decide +kernel
theorem dX7_areSets_42 : decode cX7_areSets 42 = .ok (.iconst 0, 1) := by decide +kernel
theorem dX7_areSets_43 : decode cX7_areSets 43 = .ok (.istore_n 3, 1) := by decide +kernel
theorem dX7_areSets_44 : decode cX7_areSets 44 = .ok (.aload_n 0, 1) := by decide +kernel
theorem dX7_areSets_45 : decode cX7_areSets 45 = .ok (.iload_n 2, 1) := by decide +kernel
theorem dX7_areSets_46 : decode cX7_areSets 46 = .ok (.iaload, 1) := by decide +kernel
theorem dX7_areSets_47 : decode cX7_areSets 47 = .ok (.iconst 3, 1) := by decide +kernel
theorem dX7_areSets_48 : decode cX7_areSets 48 = .ok (.if_icmp .lt 25, 3) := by decide +kernel
theorem dX7_areSets_51 : decode cX7_areSets 51 = .ok (.aload_n 0, 1) := by decide +kernel
theorem dX7_areSets_52 : decode cX7_areSets 52 = .ok (.iload_n 2, 1) := by decide +kernel
theorem dX7_areSets_53 : decode cX7_areSets 53 = .ok (.dup2, 1) := by decide +kernel
theorem dX7_areSets_54 : decode cX7_areSets 54 = .ok (.iaload, 1) := by decide +kernel
theorem dX7_areSets_55 : decode cX7_areSets 55 = .ok (.iconst 3, 1) := by decide +kernel
theorem dX7_areSets_56 : decode cX7_areSets 56 = .ok (.isub, 1) := by decide +kernel
theorem dX7_areSets_57 : decode cX7_areSets 57 = .ok (.iastore, 1) := by decide +kernel
theorem dX7_areSets_58 : decode cX7_areSets 58 = .ok (.aload_n 0, 1) := by decide +kernel
theorem dX7_areSets_59 : decode cX7_areSets 59 = .ok (.iload_n 1, 1) := by decide +kernel
theorem dX7_areSets_60 : decode cX7_areSets 60 = .ok (.iconst 1, 1) := by decide +kernel
theorem dX7_areSets_61 : decode cX7_areSets 61 = .ok (.isub, 1) := by decide +kernel
theorem dX7_areSets_62 : decode cX7_areSets 62 = .ok (.invokestatic 25, 3) := by decide +kernel
theorem dX7_areSets_65 : decode cX7_areSets 65 = .ok (.istore_n 3, 1) := by decide +kernel
theorem dX7_areSets_66 : decode cX7_areSets 66 = .ok (.aload_n 0, 1) := by decide +kernel
theorem dX7_areSets_67 : decode cX7_areSets 67 = .ok (.iload_n 2, 1) := by decide +kernel
theorem dX7_areSets_68 : decode cX7_areSets 68 = .ok (.dup2, 1) := by decide +kernel
theorem dX7_areSets_69 : decode cX7_areSets 69 = .ok (.iaload, 1) := by decide +kernel
theorem dX7_areSets_70 : decode cX7_areSets 70 = .ok (.iconst 3, 1) := by decide +kernel
theorem dX7_areSets_71 : decode cX7_areSets 71 = .ok (.iadd, 1) := by decide +kernel
theorem dX7_areSets_72 : decode cX7_areSets 72 = .ok (.iastore, 1) := by decide +kernel
theorem dX7_areSets_73 : decode cX7_areSets 73 = .ok (.iload_n 3, 1) := by decide +kernel
theorem dX7_areSets_74 : decode cX7_areSets 74 = .ok (.ifCond .ne 27, 3) := by decide +kernel
theorem dX7_areSets_77 : decode cX7_areSets 77 = .ok (.iload_n 2, 1) := by decide +kernel
theorem dX7_areSets_78 : decode cX7_areSets 78 = .ok (.iconst 3, 1) := by decide +kernel
theorem dX7_areSets_79 : decode cX7_areSets 79 = .ok (.invokestatic 17, 3) := by decide +kernel
theorem dX7_areSets_82 : decode cX7_areSets 82 = .ok (.ifCond .eq 19, 3) := by decide +kernel
theorem dX7_areSets_85 : decode cX7_areSets 85 = .ok (.aload_n 0, 1) := by decide +kernel
theorem dX7_areSets_86 : decode cX7_areSets 86 = .ok (.iload_n 2, 1) := by decide +kernel
theorem dX7_areSets_87 : decode cX7_areSets 87 = .ok (.iconst 1, 1) := by decide +kernel
theorem dX7_areSets_88 : decode cX7_areSets 88 = .ok (.iadd, 1) := by decide +kernel
theorem dX7_areSets_89 : decode cX7_areSets 89 = .ok (.iaload, 1) := by decide +kernel
theorem dX7_areSets_90 : decode cX7_areSets 90 = .ok (.ifCond .eq 11, 3) := by decide +kernel
theorem dX7_areSets_93 : decode cX7_areSets 93 = .ok (.aload_n 0, 1) := by decide +kernel
theorem dX7_areSets_94 : decode cX7_areSets 94 = .ok (.iload_n 2, 1) := by decide +kernel
theorem dX7_areSets_95 : decode cX7_areSets 95 = .ok (.iconst 2, 1) := by decide +kernel
theorem dX7_areSets_96 : decode cX7_areSets 96 = .ok (.iadd, 1) := by decide +kernel
theorem dX7_areSets_97 : decode cX7_areSets 97 = .ok (.iaload, 1) := by decide +kernel
theorem dX7_areSets_98 : decode cX7_areSets 98 = .ok (.ifCond .ne 5, 3) := by decide +kernel
theorem dX7_areSets_101 : decode cX7_areSets 101 = .ok (.iload_n 3, 1) := by decide +kernel
theorem dX7_areSets_102 : decode cX7_areSets 102 = .ok (.ireturn, 1) := by decide +kernel
theorem dX7_areSets_103 : decode cX7_areSets 103 = .ok (.iconst 0, 1) := by decide +kernel
theorem dX7_areSets_104 : decode cX7_areSets 104 = .ok (.istore 4, 2) := by decide +kernel
theorem dX7_areSets_106 : decode cX7_areSets 106 = .ok (.iload 4, 2) := by decide +kernel
theorem dX7_areSets_108 : decode cX7_areSets 108 = .ok (.iconst 3, 1) := by decide +kernel
theorem dX7_areSets_109 : decode cX7_areSets 109 = .ok (.if_icmp .ge 19, 3) := by decide +kernel
theorem dX7_areSets_112 : decode cX7_areSets 112 = .ok (.aload_n 0, 1) := by decide +kernel
theorem dX7_areSets_113 : decode cX7_areSets 113 = .ok (.iload_n 2, 1) := by decide +kernel
theorem dX7_areSets_114 : decode cX7_areSets 114 = .ok (.iload 4, 2) := by decide +kernel
theorem dX7_areSets_116 : decode cX7_areSets 116 = .ok (.iadd, 1) := by decide +kernel
theorem dX7_areSets_117 : decode cX7_areSets 117 = .ok (.dup2, 1) := by decide +kernel
theorem dX7_areSets_118 : decode cX7_areSets 118 = .ok (.iaload, 1) := by decide +kernel
theorem dX7_areSets_119 : decode cX7_areSets 119 = .ok (.iconst 1, 1) := by decide +kernel
theorem dX7_areSets_120 : decode cX7_areSets 120 = .ok (.isub, 1) := by decide +kernel
theorem dX7_areSets_121 : decode cX7_areSets 121 = .ok (.iastore, 1) := by decide +kernel
theorem dX7_areSets_122 : decode cX7_areSets 122 = .ok (.iinc 4 1, 3) := by decide +kernel
theorem dX7_areSets_125 : decode cX7_areSets 125 = .ok (.goto (-19), 3) := by decide +kernel
theorem dX7_areSets_128 : decode cX7_areSets 128 = .ok (.aload_n 0, 1) := by decide +kernel
theorem dX7_areSets_129 : decode cX7_areSets 129 = .ok (.iload_n 1, 1) := by decide +kernel
theorem dX7_areSets_130 : decode cX7_areSets 130 = .ok (.iconst 1, 1) := by decide +kernel
theorem dX7_areSets_131 : decode cX7_areSets 131 = .ok (.isub, 1) := by decide +kernel
theorem dX7_areSets_132 : decode cX7_areSets 132 = .ok (.invokestatic 25, 3) := by decide +kernel
theorem dX7_areSets_135 : decode cX7_areSets 135 = .ok (.istore_n 3, 1) := by decide +kernel
theorem dX7_areSets_136 : decode cX7_areSets 136 = .ok (.iconst 0, 1) := by decide +kernel
theorem dX7_areSets_137 : decode cX7_areSets 137 = .ok (.istore 4, 2) := by decide +kernel
theorem dX7_areSets_139 : decode cX7_areSets 139 = .ok (.iload 4, 2) := by decide +kernel
theorem dX7_areSets_141 : decode cX7_areSets 141 = .ok (.iconst 3, 1) := by decide +kernel
theorem dX7_areSets_142 : decode cX7_areSets 142 = .ok (.if_icmp .ge 19, 3) := by decide +kernel
theorem dX7_areSets_145 : decode cX7_areSets 145 = .ok (.aload_n 0, 1) := by decide +kernel
theorem dX7_areSets_146 : decode cX7_areSets 146 = .ok (.iload_n 2, 1) := by decide +kernel
theorem dX7_areSets_147 : decode cX7_areSets 147 = .ok (.iload 4, 2) := by decide +kernel
theorem dX7_areSets_149 : decode cX7_areSets 149 = .ok (.iadd, 1) := by decide +kernel
theorem dX7_areSets_150 : decode cX7_areSets 150 = .ok (.dup2, 1) := by decide +kernel
theorem dX7_areSets_151 : decode cX7_areSets 151 = .ok (.iaload, 1) := by decide +kernel
theorem dX7_areSets_152 : decode cX7_areSets 152 = .ok (.iconst 1, 1) := by decide +kernel
theorem dX7_areSets_153 : decode cX7_areSets 153 = .ok (.iadd, 1) := by decide +kernel
theorem dX7_areSets_154 : decode cX7_areSets 154 = .ok (.iastore, 1) := by decide +kernel
theorem dX7_areSets_155 : decode cX7_areSets 155 = .ok (.iinc 4 1, 3) := by decide +kernel
theorem dX7_areSets_158 : decode cX7_areSets 158 = .ok (.goto (-19), 3) := by decide +kernel
theorem dX7_areSets_161 : decode cX7_areSets 161 = .ok (.iload_n 3, 1) := by decide +kernel
theorem dX7_areSets_162 : decode cX7_areSets 162 = .ok (.ireturn, 1) := by decide +kernel
def f_X7_areSets_139 (RC_X7_areSets : Nat → Int32 → zM → Option (Int32 × zM)) (n : Nat) (a0 : Nat) (i2 : Int32) (i3 : Int32) (i4 : Int32) (M : zM) : Option (Int32 × zM) := match n with
  | 0 => none
  | n + 1 =>
    if ((3 : Int32)) ≤ i4 then
    if i3 = 0 ∨ i3 = 1 then some (i3, M) else none
    else
    (lA 0 M a0 ((i2 + i4))).bind fun v2 =>
    (tA M a0 ((i2 + i4)) ((v2 + ((1 : Int32))))).bind fun M3 =>
    f_X7_areSets_139 RC_X7_areSets n a0 i2 i3 ((i4 + (1 : Int32))) M3
set_option maxRecDepth 20000 in
set_option maxHeartbeats 4000000 in
theorem s_X7_areSets_139 {L : zL} {X : zX} {M0 : zM} {N : Nat × Nat} {Q : State → Prop} {r : Int32 × zM} {dd : Nat} {RC_X7_areSets : Nat → Int32 → zM → Option (Int32 × zM)} {d_X7_areSets : Nat} (hRC_X7_areSets : ∀ (l : Launch) (a0 : Nat) (i1 : Int32) (M : zM) (r : Int32 × zM), RC_X7_areSets a0 i1 M = some r → CP L l yX7_areSets cX7_areSets 5 (some FieldType.boolean) d_X7_areSets M [.ref (zad L (a0)), .int (i1)] (some (.int r.1)) r.2) (hd : d_X7_areSets + 1 ≤ dd ∧ 2 ≤ dd) (hq : vQ L X M0 N Q (some (.int r.1)) r.2) {n : Nat} {a0 : Nat} {i2 : Int32} {i3 : Int32} {i4 : Int32} {M : zM} : f_X7_areSets_139 RC_X7_areSets n a0 i2 i3 i4 M = some r → V L X yX7_areSets cX7_areSets 5 (some FieldType.boolean) dd M0 N Q M 139 [(0, .ref (zad L (a0))), (2, .int (i2)), (3, .int (i3)), (4, .int (i4))] [] := by
  induction n generalizing a0 i2 i3 i4 M with
  | zero =>
    intro h
    rw [f_X7_areSets_139] at h
    cases h
  | succ n ih0 =>
    intro h
    have ih : ∀ (a0 : Nat) (i2 : Int32) (i3 : Int32) (i4 : Int32) (M : zM), f_X7_areSets_139 RC_X7_areSets n a0 i2 i3 i4 M = some r → V L X yX7_areSets cX7_areSets 5 (some FieldType.boolean) dd M0 N Q M 139 [(0, .ref (zad L (a0))), (2, .int (i2)), (3, .int (i3)), (4, .int (i4))] [] := fun a0 i2 i3 i4 M h => ih0 h
    rw [f_X7_areSets_139] at h
    refine V_iload dX7_areSets_139 3 rfl ?_
    refine V_iconst (v := 3) dX7_areSets_141 (by decide) ?_
    refine V_icmp_ge (tgt := 161) dX7_areSets_142 (by decide) (fun c4 => ?_) (fun c4 => ?_)
    · replace h := (oi h).1 c4
      refine V_iload_n dX7_areSets_161 rfl 2 rfl ?_
      replace h := ox h
      obtain ⟨c1, h⟩ := h
      obtain rfl := Option.some.inj h
      exact V_zret (ty := .boolean) rfl (by rcases c1 with e | e <;> rw [e] <;> rfl) hq dX7_areSets_162
    · replace h := (oi h).2 c4
      refine V_aload_n dX7_areSets_145 rfl 0 rfl ?_
      refine V_iload_n dX7_areSets_146 rfl 1 rfl ?_
      refine V_iload dX7_areSets_147 3 rfl ?_
      refine V_iadd dX7_areSets_149 ?_
      refine V_dup2 dX7_areSets_150 rfl rfl ?_
      replace h := ob h
      obtain ⟨v2, e_v2, h⟩ := h
      refine V_iald e_v2 dX7_areSets_151 ?_
      refine V_pc (pc' := 152) rfl ?_
      refine V_iconst (v := 1) dX7_areSets_152 (by decide) ?_
      refine V_iadd dX7_areSets_153 ?_
      replace h := ob h
      obtain ⟨M3, e_M3, h⟩ := h
      refine V_iast e_M3 dX7_areSets_154 ?_
      refine V_iinc (v := i4 + (1 : Int32)) (ls' := [(4, .int ((i4 + (1 : Int32)))), (0, .ref (zad L (a0))), (2, .int (i2)), (3, .int (i3))]) dX7_areSets_155 3 rfl (by rfl) (by decide) rfl ?_
      refine V_goto (tgt := 139) dX7_areSets_158 (by decide) ?_
      refine V_sub [1, 2, 3, 0] rfl ?_
      exact ih _ _ _ _ _ h
def f_X7_areSets_106 (RC_X7_areSets : Nat → Int32 → zM → Option (Int32 × zM)) (n : Nat) (a0 : Nat) (i1 : Int32) (i2 : Int32) (i4 : Int32) (M : zM) : Option (Int32 × zM) := match n with
  | 0 => none
  | n + 1 =>
    if ((3 : Int32)) ≤ i4 then
    (RC_X7_areSets a0 ((i1 - ((1 : Int32)))) M).bind fun r1 =>
    f_X7_areSets_139 RC_X7_areSets zN a0 i2 r1.1 ((0 : Int32)) r1.2
    else
    (lA 0 M a0 ((i2 + i4))).bind fun v2 =>
    (tA M a0 ((i2 + i4)) ((v2 - ((1 : Int32))))).bind fun M3 =>
    f_X7_areSets_106 RC_X7_areSets n a0 i1 i2 ((i4 + (1 : Int32))) M3
set_option maxRecDepth 20000 in
set_option maxHeartbeats 4000000 in
theorem s_X7_areSets_106 {L : zL} {X : zX} {M0 : zM} {N : Nat × Nat} {Q : State → Prop} {r : Int32 × zM} {dd : Nat} {RC_X7_areSets : Nat → Int32 → zM → Option (Int32 × zM)} {d_X7_areSets : Nat} (hRC_X7_areSets : ∀ (l : Launch) (a0 : Nat) (i1 : Int32) (M : zM) (r : Int32 × zM), RC_X7_areSets a0 i1 M = some r → CP L l yX7_areSets cX7_areSets 5 (some FieldType.boolean) d_X7_areSets M [.ref (zad L (a0)), .int (i1)] (some (.int r.1)) r.2) (hd : d_X7_areSets + 1 ≤ dd ∧ 2 ≤ dd) (hq : vQ L X M0 N Q (some (.int r.1)) r.2) {n : Nat} {a0 : Nat} {i1 : Int32} {i2 : Int32} {i4 : Int32} {M : zM} : f_X7_areSets_106 RC_X7_areSets n a0 i1 i2 i4 M = some r → V L X yX7_areSets cX7_areSets 5 (some FieldType.boolean) dd M0 N Q M 106 [(0, .ref (zad L (a0))), (1, .int (i1)), (2, .int (i2)), (4, .int (i4))] [] := by
  induction n generalizing a0 i1 i2 i4 M with
  | zero =>
    intro h
    rw [f_X7_areSets_106] at h
    cases h
  | succ n ih0 =>
    intro h
    have ih : ∀ (a0 : Nat) (i1 : Int32) (i2 : Int32) (i4 : Int32) (M : zM), f_X7_areSets_106 RC_X7_areSets n a0 i1 i2 i4 M = some r → V L X yX7_areSets cX7_areSets 5 (some FieldType.boolean) dd M0 N Q M 106 [(0, .ref (zad L (a0))), (1, .int (i1)), (2, .int (i2)), (4, .int (i4))] [] := fun a0 i1 i2 i4 M h => ih0 h
    rw [f_X7_areSets_106] at h
    refine V_iload dX7_areSets_106 3 rfl ?_
    refine V_iconst (v := 3) dX7_areSets_108 (by decide) ?_
    refine V_icmp_ge (tgt := 128) dX7_areSets_109 (by decide) (fun c4 => ?_) (fun c4 => ?_)
    · replace h := (oi h).1 c4
      refine V_aload_n dX7_areSets_128 rfl 0 rfl ?_
      refine V_iload_n dX7_areSets_129 rfl 1 rfl ?_
      refine V_iconst (v := 1) dX7_areSets_130 (by decide) ?_
      refine V_isub dX7_areSets_131 ?_
      replace h := ob h
      obtain ⟨r1, e_r1, h⟩ := h
      refine V_callS_I (As := [.ref (zad L (a0)), .int ((i1 - ((1 : Int32))))]) (rest := []) (hRC_X7_areSets X.2.1 _ _ _ _ e_r1) zc_X7_areSets rfl (by omega) zm_X7_25 (Nat.le_of_ble_eq_true rfl) rfl dX7_areSets_132 ?_
      refine V_pc (pc' := 135) rfl ?_
      refine V_istore_n (ls' := [(3, .int (r1.1)), (0, .ref (zad L (a0))), (1, .int (i1)), (2, .int (i2)), (4, .int (i4))]) dX7_areSets_135 rfl (by decide) rfl ?_
      refine V_iconst (v := 0) dX7_areSets_136 (by decide) ?_
      refine V_istore (ls' := [(4, .int ((0 : Int32))), (3, .int (r1.1)), (0, .ref (zad L (a0))), (1, .int (i1)), (2, .int (i2))]) dX7_areSets_137 (by decide) rfl ?_
      refine V_sub [2, 4, 1, 0] rfl ?_
      exact s_X7_areSets_139 hRC_X7_areSets hd hq h
    · replace h := (oi h).2 c4
      refine V_aload_n dX7_areSets_112 rfl 0 rfl ?_
      refine V_iload_n dX7_areSets_113 rfl 2 rfl ?_
      refine V_iload dX7_areSets_114 3 rfl ?_
      refine V_iadd dX7_areSets_116 ?_
      refine V_dup2 dX7_areSets_117 rfl rfl ?_
      replace h := ob h
      obtain ⟨v2, e_v2, h⟩ := h
      refine V_iald e_v2 dX7_areSets_118 ?_
      refine V_pc (pc' := 119) rfl ?_
      refine V_iconst (v := 1) dX7_areSets_119 (by decide) ?_
      refine V_isub dX7_areSets_120 ?_
      replace h := ob h
      obtain ⟨M3, e_M3, h⟩ := h
      refine V_iast e_M3 dX7_areSets_121 ?_
      refine V_iinc (v := i4 + (1 : Int32)) (ls' := [(4, .int ((i4 + (1 : Int32)))), (0, .ref (zad L (a0))), (1, .int (i1)), (2, .int (i2))]) dX7_areSets_122 3 rfl (by rfl) (by decide) rfl ?_
      refine V_goto (tgt := 106) dX7_areSets_125 (by decide) ?_
      refine V_sub [1, 2, 3, 0] rfl ?_
      exact ih _ _ _ _ _ h
def f_X7_areSets_73 (RC_X7_areSets : Nat → Int32 → zM → Option (Int32 × zM)) (a0 : Nat) (i1 : Int32) (i2 : Int32) (i3 : Int32) (M : zM) : Option (Int32 × zM) :=
  if i3 = 0 then
  (f_X7_isRun i2 ((3 : Int32)) M).bind fun r2 =>
  if r2.1 = 0 then
  if i3 = 0 ∨ i3 = 1 then some (i3, r2.2) else none
  else
  (lA 0 r2.2 a0 ((i2 + ((1 : Int32))))).bind fun v4 =>
  if v4 = 0 then
  if i3 = 0 ∨ i3 = 1 then some (i3, r2.2) else none
  else
  (lA 0 r2.2 a0 ((i2 + ((2 : Int32))))).bind fun v6 =>
  if v6 = 0 then
  if i3 = 0 ∨ i3 = 1 then some (i3, r2.2) else none
  else
  f_X7_areSets_106 RC_X7_areSets zN a0 i1 i2 ((0 : Int32)) r2.2
  else
  if i3 = 0 ∨ i3 = 1 then some (i3, M) else none
set_option maxRecDepth 20000 in
set_option maxHeartbeats 4000000 in
theorem s_X7_areSets_73 {L : zL} {X : zX} {M0 : zM} {N : Nat × Nat} {Q : State → Prop} {r : Int32 × zM} {dd : Nat} {RC_X7_areSets : Nat → Int32 → zM → Option (Int32 × zM)} {d_X7_areSets : Nat} (hRC_X7_areSets : ∀ (l : Launch) (a0 : Nat) (i1 : Int32) (M : zM) (r : Int32 × zM), RC_X7_areSets a0 i1 M = some r → CP L l yX7_areSets cX7_areSets 5 (some FieldType.boolean) d_X7_areSets M [.ref (zad L (a0)), .int (i1)] (some (.int r.1)) r.2) (hd : d_X7_areSets + 1 ≤ dd ∧ 2 ≤ dd) (hq : vQ L X M0 N Q (some (.int r.1)) r.2) {a0 : Nat} {i1 : Int32} {i2 : Int32} {i3 : Int32} {M : zM} (h : f_X7_areSets_73 RC_X7_areSets a0 i1 i2 i3 M = some r) : V L X yX7_areSets cX7_areSets 5 (some FieldType.boolean) dd M0 N Q M 73 [(0, .ref (zad L (a0))), (1, .int (i1)), (2, .int (i2)), (3, .int (i3))] [] := by
  unfold f_X7_areSets_73 at h
  refine V_iload_n dX7_areSets_73 rfl 3 rfl ?_
  refine V_if_ne (tgt := 101) dX7_areSets_74 (by decide) (fun c11 => ?_) (fun c11 => ?_)
  · replace h := (oi h).2 c11
    refine V_iload_n dX7_areSets_101 rfl 3 rfl ?_
    replace h := ox h
    obtain ⟨c1, h⟩ := h
    obtain rfl := Option.some.inj h
    exact V_zret (ty := .boolean) rfl (by rcases c1 with e | e <;> rw [e] <;> rfl) hq dX7_areSets_102
  · replace h := (oi h).1 c11
    refine V_iload_n dX7_areSets_77 rfl 2 rfl ?_
    refine V_iconst (v := 3) dX7_areSets_78 (by decide) ?_
    replace h := ob h
    obtain ⟨r2, e_r2, h⟩ := h
    refine V_callS_I (As := [.int (i2), .int ((3 : Int32))]) (rest := []) (c_X7_isRun e_r2) zc_X7_isRun rfl (by omega) zm_X7_17 (Nat.le_of_ble_eq_true rfl) rfl dX7_areSets_79 ?_
    refine V_pc (pc' := 82) rfl ?_
    refine V_if_eq (tgt := 101) dX7_areSets_82 (by decide) (fun c10 => ?_) (fun c10 => ?_)
    · replace h := (oi h).1 c10
      refine V_iload_n dX7_areSets_101 rfl 3 rfl ?_
      replace h := ox h
      obtain ⟨c3, h⟩ := h
      obtain rfl := Option.some.inj h
      exact V_zret (ty := .boolean) rfl (by rcases c3 with e | e <;> rw [e] <;> rfl) hq dX7_areSets_102
    · replace h := (oi h).2 c10
      refine V_aload_n dX7_areSets_85 rfl 0 rfl ?_
      refine V_iload_n dX7_areSets_86 rfl 2 rfl ?_
      refine V_iconst (v := 1) dX7_areSets_87 (by decide) ?_
      refine V_iadd dX7_areSets_88 ?_
      replace h := ob h
      obtain ⟨v4, e_v4, h⟩ := h
      refine V_iald e_v4 dX7_areSets_89 ?_
      refine V_pc (pc' := 90) rfl ?_
      refine V_if_eq (tgt := 101) dX7_areSets_90 (by decide) (fun c9 => ?_) (fun c9 => ?_)
      · replace h := (oi h).1 c9
        refine V_iload_n dX7_areSets_101 rfl 3 rfl ?_
        replace h := ox h
        obtain ⟨c5, h⟩ := h
        obtain rfl := Option.some.inj h
        exact V_zret (ty := .boolean) rfl (by rcases c5 with e | e <;> rw [e] <;> rfl) hq dX7_areSets_102
      · replace h := (oi h).2 c9
        refine V_aload_n dX7_areSets_93 rfl 0 rfl ?_
        refine V_iload_n dX7_areSets_94 rfl 2 rfl ?_
        refine V_iconst (v := 2) dX7_areSets_95 (by decide) ?_
        refine V_iadd dX7_areSets_96 ?_
        replace h := ob h
        obtain ⟨v6, e_v6, h⟩ := h
        refine V_iald e_v6 dX7_areSets_97 ?_
        refine V_pc (pc' := 98) rfl ?_
        refine V_if_ne (tgt := 103) dX7_areSets_98 (by decide) (fun c8 => ?_) (fun c8 => ?_)
        · replace h := (oi h).2 c8
          refine V_iconst (v := 0) dX7_areSets_103 (by decide) ?_
          refine V_istore (ls' := [(4, .int ((0 : Int32))), (0, .ref (zad L (a0))), (1, .int (i1)), (2, .int (i2)), (3, .int (i3))]) dX7_areSets_104 (by decide) rfl ?_
          refine V_sub [1, 2, 3, 0] rfl ?_
          exact s_X7_areSets_106 hRC_X7_areSets hd hq h
        · replace h := (oi h).1 c8
          refine V_iload_n dX7_areSets_101 rfl 3 rfl ?_
          replace h := ox h
          obtain ⟨c7, h⟩ := h
          obtain rfl := Option.some.inj h
          exact V_zret (ty := .boolean) rfl (by rcases c7 with e | e <;> rw [e] <;> rfl) hq dX7_areSets_102
def f_X7_areSets_20 (RC_X7_areSets : Nat → Int32 → zM → Option (Int32 × zM)) (a0 : Nat) (i1 : Int32) (i2 : Int32) (M : zM) : Option (Int32 × zM) :=
  if i2 = ((25 : Int32)) then
  if i1 = 0 then
  some ((1 : Int32), M)
  else
  some ((0 : Int32), M)
  else
  if i1 = 0 then
  some ((0 : Int32), M)
  else
  (lA 0 M a0 i2).bind fun v1 =>
  if v1 < ((3 : Int32)) then
  f_X7_areSets_73 RC_X7_areSets a0 i1 i2 ((0 : Int32)) M
  else
  (lA 0 M a0 i2).bind fun v2 =>
  (tA M a0 i2 ((v2 - ((3 : Int32))))).bind fun M3 =>
  (RC_X7_areSets a0 ((i1 - ((1 : Int32)))) M3).bind fun r4 =>
  (lA 0 r4.2 a0 i2).bind fun v5 =>
  (tA r4.2 a0 i2 ((v5 + ((3 : Int32))))).bind fun M6 =>
  f_X7_areSets_73 RC_X7_areSets a0 i1 i2 r4.1 M6
set_option maxRecDepth 20000 in
set_option maxHeartbeats 4000000 in
theorem s_X7_areSets_20 {L : zL} {X : zX} {M0 : zM} {N : Nat × Nat} {Q : State → Prop} {r : Int32 × zM} {dd : Nat} {RC_X7_areSets : Nat → Int32 → zM → Option (Int32 × zM)} {d_X7_areSets : Nat} (hRC_X7_areSets : ∀ (l : Launch) (a0 : Nat) (i1 : Int32) (M : zM) (r : Int32 × zM), RC_X7_areSets a0 i1 M = some r → CP L l yX7_areSets cX7_areSets 5 (some FieldType.boolean) d_X7_areSets M [.ref (zad L (a0)), .int (i1)] (some (.int r.1)) r.2) (hd : d_X7_areSets + 1 ≤ dd ∧ 2 ≤ dd) (hq : vQ L X M0 N Q (some (.int r.1)) r.2) {a0 : Nat} {i1 : Int32} {i2 : Int32} {M : zM} (h : f_X7_areSets_20 RC_X7_areSets a0 i1 i2 M = some r) : V L X yX7_areSets cX7_areSets 5 (some FieldType.boolean) dd M0 N Q M 20 [(0, .ref (zad L (a0))), (1, .int (i1)), (2, .int (i2))] [] := by
  unfold f_X7_areSets_20 at h
  refine V_iload_n dX7_areSets_20 rfl 2 rfl ?_
  refine V_bipush (v := 25) dX7_areSets_21 (by decide) ?_
  refine V_icmp_ne (tgt := 36) dX7_areSets_23 (by decide) (fun c10 => ?_) (fun c10 => ?_)
  · replace h := (oi h).2 c10
    refine V_iload_n dX7_areSets_36 rfl 1 rfl ?_
    refine V_if_ne (tgt := 42) dX7_areSets_37 (by decide) (fun c8 => ?_) (fun c8 => ?_)
    · replace h := (oi h).2 c8
      refine V_iconst (v := 0) dX7_areSets_42 (by decide) ?_
      refine V_istore_n (ls' := [(3, .int ((0 : Int32))), (0, .ref (zad L (a0))), (1, .int (i1)), (2, .int (i2))]) dX7_areSets_43 rfl (by decide) rfl ?_
      refine V_aload_n dX7_areSets_44 rfl 1 rfl ?_
      refine V_iload_n dX7_areSets_45 rfl 3 rfl ?_
      replace h := ob h
      obtain ⟨v1, e_v1, h⟩ := h
      refine V_iald e_v1 dX7_areSets_46 ?_
      refine V_pc (pc' := 47) rfl ?_
      refine V_iconst (v := 3) dX7_areSets_47 (by decide) ?_
      refine V_icmp_lt (tgt := 73) dX7_areSets_48 (by decide) (fun c7 => ?_) (fun c7 => ?_)
      · replace h := (oi h).1 c7
        refine V_sub [1, 2, 3, 0] rfl ?_
        exact s_X7_areSets_73 hRC_X7_areSets hd hq h
      · replace h := (oi h).2 c7
        refine V_aload_n dX7_areSets_51 rfl 1 rfl ?_
        refine V_iload_n dX7_areSets_52 rfl 3 rfl ?_
        refine V_dup2 dX7_areSets_53 rfl rfl ?_
        replace h := ob h
        obtain ⟨v2, e_v2, h⟩ := h
        refine V_iald e_v2 dX7_areSets_54 ?_
        refine V_pc (pc' := 55) rfl ?_
        refine V_iconst (v := 3) dX7_areSets_55 (by decide) ?_
        refine V_isub dX7_areSets_56 ?_
        replace h := ob h
        obtain ⟨M3, e_M3, h⟩ := h
        refine V_iast e_M3 dX7_areSets_57 ?_
        refine V_aload_n dX7_areSets_58 rfl 1 rfl ?_
        refine V_iload_n dX7_areSets_59 rfl 2 rfl ?_
        refine V_iconst (v := 1) dX7_areSets_60 (by decide) ?_
        refine V_isub dX7_areSets_61 ?_
        replace h := ob h
        obtain ⟨r4, e_r4, h⟩ := h
        refine V_callS_I (As := [.ref (zad L (a0)), .int ((i1 - ((1 : Int32))))]) (rest := []) (hRC_X7_areSets X.2.1 _ _ _ _ e_r4) zc_X7_areSets rfl (by omega) zm_X7_25 (Nat.le_of_ble_eq_true rfl) rfl dX7_areSets_62 ?_
        refine V_pc (pc' := 65) rfl ?_
        refine V_istore_n (ls' := [(3, .int (r4.1)), (0, .ref (zad L (a0))), (1, .int (i1)), (2, .int (i2))]) dX7_areSets_65 rfl (by decide) rfl ?_
        refine V_aload_n dX7_areSets_66 rfl 1 rfl ?_
        refine V_iload_n dX7_areSets_67 rfl 3 rfl ?_
        refine V_dup2 dX7_areSets_68 rfl rfl ?_
        replace h := ob h
        obtain ⟨v5, e_v5, h⟩ := h
        refine V_iald e_v5 dX7_areSets_69 ?_
        refine V_pc (pc' := 70) rfl ?_
        refine V_iconst (v := 3) dX7_areSets_70 (by decide) ?_
        refine V_iadd dX7_areSets_71 ?_
        replace h := ob h
        obtain ⟨M6, e_M6, h⟩ := h
        refine V_iast e_M6 dX7_areSets_72 ?_
        refine V_sub [1, 2, 3, 0] rfl ?_
        exact s_X7_areSets_73 hRC_X7_areSets hd hq h
    · replace h := (oi h).1 c8
      refine V_iconst (v := 0) dX7_areSets_40 (by decide) ?_
      obtain rfl := Option.some.inj h
      exact V_zret (ty := .boolean) rfl rfl hq dX7_areSets_41
  · replace h := (oi h).1 c10
    refine V_iload_n dX7_areSets_26 rfl 1 rfl ?_
    refine V_if_ne (tgt := 34) dX7_areSets_27 (by decide) (fun c9 => ?_) (fun c9 => ?_)
    · replace h := (oi h).2 c9
      refine V_iconst (v := 0) dX7_areSets_34 (by decide) ?_
      obtain rfl := Option.some.inj h
      exact V_zret (ty := .boolean) rfl rfl hq dX7_areSets_35
    · replace h := (oi h).1 c9
      refine V_iconst (v := 1) dX7_areSets_30 (by decide) ?_
      refine V_goto (tgt := 35) dX7_areSets_31 (by decide) ?_
      obtain rfl := Option.some.inj h
      exact V_zret (ty := .boolean) rfl rfl hq dX7_areSets_35
def f_X7_areSets_2 (RC_X7_areSets : Nat → Int32 → zM → Option (Int32 × zM)) (n : Nat) (a0 : Nat) (i1 : Int32) (i2 : Int32) (M : zM) : Option (Int32 × zM) := match n with
  | 0 => none
  | n + 1 =>
    if ((25 : Int32)) ≤ i2 then
    f_X7_areSets_20 RC_X7_areSets a0 i1 i2 M
    else
    (lA 0 M a0 i2).bind fun v1 =>
    if v1 = 0 then
    f_X7_areSets_2 RC_X7_areSets n a0 i1 ((i2 + (1 : Int32))) M
    else
    f_X7_areSets_20 RC_X7_areSets a0 i1 i2 M
set_option maxRecDepth 20000 in
set_option maxHeartbeats 4000000 in
theorem s_X7_areSets_2 {L : zL} {X : zX} {M0 : zM} {N : Nat × Nat} {Q : State → Prop} {r : Int32 × zM} {dd : Nat} {RC_X7_areSets : Nat → Int32 → zM → Option (Int32 × zM)} {d_X7_areSets : Nat} (hRC_X7_areSets : ∀ (l : Launch) (a0 : Nat) (i1 : Int32) (M : zM) (r : Int32 × zM), RC_X7_areSets a0 i1 M = some r → CP L l yX7_areSets cX7_areSets 5 (some FieldType.boolean) d_X7_areSets M [.ref (zad L (a0)), .int (i1)] (some (.int r.1)) r.2) (hd : d_X7_areSets + 1 ≤ dd ∧ 2 ≤ dd) (hq : vQ L X M0 N Q (some (.int r.1)) r.2) {n : Nat} {a0 : Nat} {i1 : Int32} {i2 : Int32} {M : zM} : f_X7_areSets_2 RC_X7_areSets n a0 i1 i2 M = some r → V L X yX7_areSets cX7_areSets 5 (some FieldType.boolean) dd M0 N Q M 2 [(0, .ref (zad L (a0))), (1, .int (i1)), (2, .int (i2))] [] := by
  induction n generalizing a0 i1 i2 M with
  | zero =>
    intro h
    rw [f_X7_areSets_2] at h
    cases h
  | succ n ih0 =>
    intro h
    have ih : ∀ (a0 : Nat) (i1 : Int32) (i2 : Int32) (M : zM), f_X7_areSets_2 RC_X7_areSets n a0 i1 i2 M = some r → V L X yX7_areSets cX7_areSets 5 (some FieldType.boolean) dd M0 N Q M 2 [(0, .ref (zad L (a0))), (1, .int (i1)), (2, .int (i2))] [] := fun a0 i1 i2 M h => ih0 h
    rw [f_X7_areSets_2] at h
    refine V_iload_n dX7_areSets_2 rfl 2 rfl ?_
    refine V_bipush (v := 25) dX7_areSets_3 (by decide) ?_
    refine V_icmp_ge (tgt := 20) dX7_areSets_5 (by decide) (fun c3 => ?_) (fun c3 => ?_)
    · replace h := (oi h).1 c3
      exact s_X7_areSets_20 hRC_X7_areSets hd hq h
    · replace h := (oi h).2 c3
      refine V_aload_n dX7_areSets_8 rfl 0 rfl ?_
      refine V_iload_n dX7_areSets_9 rfl 2 rfl ?_
      replace h := ob h
      obtain ⟨v1, e_v1, h⟩ := h
      refine V_iald e_v1 dX7_areSets_10 ?_
      refine V_pc (pc' := 11) rfl ?_
      refine V_if_ne (tgt := 20) dX7_areSets_11 (by decide) (fun c2 => ?_) (fun c2 => ?_)
      · replace h := (oi h).2 c2
        exact s_X7_areSets_20 hRC_X7_areSets hd hq h
      · replace h := (oi h).1 c2
        refine V_iinc (v := i2 + (1 : Int32)) (ls' := [(2, .int ((i2 + (1 : Int32)))), (0, .ref (zad L (a0))), (1, .int (i1))]) dX7_areSets_14 2 rfl (by rfl) (by decide) rfl ?_
        refine V_goto (tgt := 2) dX7_areSets_17 (by decide) ?_
        refine V_sub [1, 2, 0] rfl ?_
        exact ih _ _ _ _ h
def f_X7_areSets_0 (RC_X7_areSets : Nat → Int32 → zM → Option (Int32 × zM)) (a0 : Nat) (i1 : Int32) (M : zM) : Option (Int32 × zM) :=
  f_X7_areSets_2 RC_X7_areSets zN a0 i1 ((0 : Int32)) M
set_option maxRecDepth 20000 in
set_option maxHeartbeats 4000000 in
theorem s_X7_areSets_0 {L : zL} {X : zX} {M0 : zM} {N : Nat × Nat} {Q : State → Prop} {r : Int32 × zM} {dd : Nat} {RC_X7_areSets : Nat → Int32 → zM → Option (Int32 × zM)} {d_X7_areSets : Nat} (hRC_X7_areSets : ∀ (l : Launch) (a0 : Nat) (i1 : Int32) (M : zM) (r : Int32 × zM), RC_X7_areSets a0 i1 M = some r → CP L l yX7_areSets cX7_areSets 5 (some FieldType.boolean) d_X7_areSets M [.ref (zad L (a0)), .int (i1)] (some (.int r.1)) r.2) (hd : d_X7_areSets + 1 ≤ dd ∧ 2 ≤ dd) (hq : vQ L X M0 N Q (some (.int r.1)) r.2) {a0 : Nat} {i1 : Int32} {M : zM} (h : f_X7_areSets_0 RC_X7_areSets a0 i1 M = some r) : V L X yX7_areSets cX7_areSets 5 (some FieldType.boolean) dd M0 N Q M 0 [(0, .ref (zad L (a0))), (1, .int (i1))] [] := by
  unfold f_X7_areSets_0 at h
  refine V_iconst (v := 0) dX7_areSets_0 (by decide) ?_
  refine V_istore_n (ls' := [(2, .int ((0 : Int32))), (0, .ref (zad L (a0))), (1, .int (i1))]) dX7_areSets_1 rfl (by decide) rfl ?_
  refine V_sub [1, 2, 0] rfl ?_
  exact s_X7_areSets_2 hRC_X7_areSets hd hq h
def f_X7_areSets (n : Nat) (a0 : Nat) (i1 : Int32) (M : zM) : Option (Int32 × zM) := match n with
  | 0 => none
  | n + 1 => f_X7_areSets_0 (f_X7_areSets n) a0 i1 M
theorem cr_X7_areSets {L : zL} {l : Launch} {n : Nat} {a0 : Nat} {i1 : Int32} {M : zM} {r : Int32 × zM} : f_X7_areSets n a0 i1 M = some r → CP L l yX7_areSets cX7_areSets 5 (some FieldType.boolean) (n + 2) M [.ref (zad L (a0)), .int (i1)] (some (.int r.1)) r.2 := by
  induction n generalizing l a0 i1 M r with
  | zero =>
    intro h
    rw [f_X7_areSets] at h
    cases h
  | succ n ih =>
    intro h
    rw [f_X7_areSets] at h
    exact CP.of ⟨by decide +kernel, by decide +kernel⟩ (Nat.le_of_ble_eq_true rfl) fun X Q hq => s_X7_areSets_0 (d_X7_areSets := n + 2) (fun l a0 i1 M r e => ih e) ⟨by omega, by omega⟩ hq h
theorem c_X7_areSets {L : zL} {l : Launch} {a0 : Nat} {i1 : Int32} {M : zM} {r : Int32 × zM} (h : f_X7_areSets zR a0 i1 M = some r) : CP L l yX7_areSets cX7_areSets 5 (some FieldType.boolean) 66 M [.ref (zad L (a0)), .int (i1)] (some (.int r.1)) r.2 := by
  have q := cr_X7_areSets (L := L) (l := l) (n := zR) h
  have e : zR + 2 = 66 := by decide
  rw [e] at q
  exact q
/-! WindsparlourModel.isComplete([II)Z -/
theorem dX7_isComplete_0 : decode cX7_isComplete 0 = .ok (.iconst 0, 1) := by decide +kernel
theorem dX7_isComplete_1 : decode cX7_isComplete 1 = .ok (.istore_n 2, 1) := by decide +kernel
theorem dX7_isComplete_2 : decode cX7_isComplete 2 = .ok (.iload_n 2, 1) := by decide +kernel
theorem dX7_isComplete_3 : decode cX7_isComplete 3 = .ok (.bipush 25, 2) := by decide +kernel
theorem dX7_isComplete_5 : decode cX7_isComplete 5 = .ok (.if_icmp .ge 47, 3) := by decide +kernel
theorem dX7_isComplete_8 : decode cX7_isComplete 8 = .ok (.aload_n 0, 1) := by decide +kernel
theorem dX7_isComplete_9 : decode cX7_isComplete 9 = .ok (.iload_n 2, 1) := by decide +kernel
theorem dX7_isComplete_10 : decode cX7_isComplete 10 = .ok (.iaload, 1) := by decide +kernel
theorem dX7_isComplete_11 : decode cX7_isComplete 11 = .ok (.iconst 2, 1) := by decide +kernel
theorem dX7_isComplete_12 : decode cX7_isComplete 12 = .ok (.if_icmp .ge 6, 3) := by decide +kernel
theorem dX7_isComplete_15 : decode cX7_isComplete 15 = .ok (.goto 31, 3) := by decide +kernel
theorem dX7_isComplete_18 : decode cX7_isComplete 18 = .ok (.aload_n 0, 1) := by decide +kernel
theorem dX7_isComplete_19 : decode cX7_isComplete 19 = .ok (.iload_n 2, 1) := by decide +kernel
theorem dX7_isComplete_20 : decode cX7_isComplete 20 = .ok (.dup2, 1) := by decide +kernel
theorem dX7_isComplete_21 : decode cX7_isComplete 21 = .ok (.iaload, 1) := by decide +kernel
theorem dX7_isComplete_22 : decode cX7_isComplete 22 = .ok (.iconst 2, 1) := by decide +kernel
theorem dX7_isComplete_23 : decode cX7_isComplete 23 = .ok (.isub, 1) := by decide +kernel
theorem dX7_isComplete_24 : decode cX7_isComplete 24 = .ok (.iastore, 1) := by decide +kernel
theorem dX7_isComplete_25 : decode cX7_isComplete 25 = .ok (.aload_n 0, 1) := by decide +kernel
theorem dX7_isComplete_26 : decode cX7_isComplete 26 = .ok (.iconst 3, 1) := by decide +kernel
theorem dX7_isComplete_27 : decode cX7_isComplete 27 = .ok (.iload_n 1, 1) := by decide +kernel
theorem dX7_isComplete_28 : decode cX7_isComplete 28 = .ok (.isub, 1) := by decide +kernel
theorem dX7_isComplete_29 : decode cX7_isComplete 29 = .ok (.invokestatic 25, 3) := by decide +kernel
theorem dX7_isComplete_32 : decode cX7_isComplete 32 = .ok (.istore_n 3, 1) := by decide +kernel
theorem dX7_isComplete_33 : decode cX7_isComplete 33 = .ok (.aload_n 0, 1) := by decide +kernel
theorem dX7_isComplete_34 : decode cX7_isComplete 34 = .ok (.iload_n 2, 1) := by decide +kernel
theorem dX7_isComplete_35 : decode cX7_isComplete 35 = .ok (.dup2, 1) := by decide +kernel
theorem dX7_isComplete_36 : decode cX7_isComplete 36 = .ok (.iaload, 1) := by decide +kernel
theorem dX7_isComplete_37 : decode cX7_isComplete 37 = .ok (.iconst 2, 1) := by decide +kernel
theorem dX7_isComplete_38 : decode cX7_isComplete 38 = .ok (.iadd, 1) := by decide +kernel
theorem dX7_isComplete_39 : decode cX7_isComplete 39 = .ok (.iastore, 1) := by decide +kernel
theorem dX7_isComplete_40 : decode cX7_isComplete 40 = .ok (.iload_n 3, 1) := by decide +kernel
theorem dX7_isComplete_41 : decode cX7_isComplete 41 = .ok (.ifCond .eq 5, 3) := by decide +kernel
theorem dX7_isComplete_44 : decode cX7_isComplete 44 = .ok (.iconst 1, 1) := by decide +kernel
theorem dX7_isComplete_45 : decode cX7_isComplete 45 = .ok (.ireturn, 1) := by decide +kernel
theorem dX7_isComplete_46 : decode cX7_isComplete 46 = .ok (.iinc 2 1, 3) := by decide +kernel
theorem dX7_isComplete_49 : decode cX7_isComplete 49 = .ok (.goto (-47), 3) := by decide +kernel
theorem dX7_isComplete_52 : decode cX7_isComplete 52 = .ok (.iconst 0, 1) := by decide +kernel
theorem dX7_isComplete_53 : decode cX7_isComplete 53 = .ok (.ireturn, 1) := by decide +kernel
def f_X7_isComplete_2 (n : Nat) (a0 : Nat) (i1 : Int32) (i2 : Int32) (M : zM) : Option (Int32 × zM) := match n with
  | 0 => none
  | n + 1 =>
    if ((25 : Int32)) ≤ i2 then
    some ((0 : Int32), M)
    else
    (lA 0 M a0 i2).bind fun v1 =>
    if ((2 : Int32)) ≤ v1 then
    (lA 0 M a0 i2).bind fun v2 =>
    (tA M a0 i2 ((v2 - ((2 : Int32))))).bind fun M3 =>
    (f_X7_areSets zR a0 ((((3 : Int32)) - i1)) M3).bind fun r4 =>
    (lA 0 r4.2 a0 i2).bind fun v5 =>
    (tA r4.2 a0 i2 ((v5 + ((2 : Int32))))).bind fun M6 =>
    if r4.1 = 0 then
    f_X7_isComplete_2 n a0 i1 ((i2 + (1 : Int32))) M6
    else
    some ((1 : Int32), M6)
    else
    f_X7_isComplete_2 n a0 i1 ((i2 + (1 : Int32))) M
set_option maxRecDepth 20000 in
set_option maxHeartbeats 4000000 in
theorem s_X7_isComplete_2 {L : zL} {X : zX} {M0 : zM} {N : Nat × Nat} {Q : State → Prop} {r : Int32 × zM} (hq : vQ L X M0 N Q (some (.int r.1)) r.2) {n : Nat} {a0 : Nat} {i1 : Int32} {i2 : Int32} {M : zM} : f_X7_isComplete_2 n a0 i1 i2 M = some r → V L X yX7_isComplete cX7_isComplete 4 (some FieldType.boolean) 67 M0 N Q M 2 [(0, .ref (zad L (a0))), (1, .int (i1)), (2, .int (i2))] [] := by
  induction n generalizing a0 i1 i2 M with
  | zero =>
    intro h
    rw [f_X7_isComplete_2] at h
    cases h
  | succ n ih0 =>
    intro h
    have ih : ∀ (a0 : Nat) (i1 : Int32) (i2 : Int32) (M : zM), f_X7_isComplete_2 n a0 i1 i2 M = some r → V L X yX7_isComplete cX7_isComplete 4 (some FieldType.boolean) 67 M0 N Q M 2 [(0, .ref (zad L (a0))), (1, .int (i1)), (2, .int (i2))] [] := fun a0 i1 i2 M h => ih0 h
    rw [f_X7_isComplete_2] at h
    refine V_iload_n dX7_isComplete_2 rfl 2 rfl ?_
    refine V_bipush (v := 25) dX7_isComplete_3 (by decide) ?_
    refine V_icmp_ge (tgt := 52) dX7_isComplete_5 (by decide) (fun c9 => ?_) (fun c9 => ?_)
    · replace h := (oi h).1 c9
      refine V_iconst (v := 0) dX7_isComplete_52 (by decide) ?_
      obtain rfl := Option.some.inj h
      exact V_zret (ty := .boolean) rfl rfl hq dX7_isComplete_53
    · replace h := (oi h).2 c9
      refine V_aload_n dX7_isComplete_8 rfl 0 rfl ?_
      refine V_iload_n dX7_isComplete_9 rfl 2 rfl ?_
      replace h := ob h
      obtain ⟨v1, e_v1, h⟩ := h
      refine V_iald e_v1 dX7_isComplete_10 ?_
      refine V_pc (pc' := 11) rfl ?_
      refine V_iconst (v := 2) dX7_isComplete_11 (by decide) ?_
      refine V_icmp_ge (tgt := 18) dX7_isComplete_12 (by decide) (fun c8 => ?_) (fun c8 => ?_)
      · replace h := (oi h).1 c8
        refine V_aload_n dX7_isComplete_18 rfl 0 rfl ?_
        refine V_iload_n dX7_isComplete_19 rfl 2 rfl ?_
        refine V_dup2 dX7_isComplete_20 rfl rfl ?_
        replace h := ob h
        obtain ⟨v2, e_v2, h⟩ := h
        refine V_iald e_v2 dX7_isComplete_21 ?_
        refine V_pc (pc' := 22) rfl ?_
        refine V_iconst (v := 2) dX7_isComplete_22 (by decide) ?_
        refine V_isub dX7_isComplete_23 ?_
        replace h := ob h
        obtain ⟨M3, e_M3, h⟩ := h
        refine V_iast e_M3 dX7_isComplete_24 ?_
        refine V_aload_n dX7_isComplete_25 rfl 0 rfl ?_
        refine V_iconst (v := 3) dX7_isComplete_26 (by decide) ?_
        refine V_iload_n dX7_isComplete_27 rfl 1 rfl ?_
        refine V_isub dX7_isComplete_28 ?_
        replace h := ob h
        obtain ⟨r4, e_r4, h⟩ := h
        refine V_callS_I (As := [.ref (zad L (a0)), .int ((((3 : Int32)) - i1))]) (rest := []) (c_X7_areSets e_r4) zc_X7_areSets rfl (by decide) zm_X7_25 (Nat.le_of_ble_eq_true rfl) rfl dX7_isComplete_29 ?_
        refine V_pc (pc' := 32) rfl ?_
        refine V_istore_n (ls' := [(3, .int (r4.1)), (0, .ref (zad L (a0))), (1, .int (i1)), (2, .int (i2))]) dX7_isComplete_32 rfl (by decide) rfl ?_
        refine V_aload_n dX7_isComplete_33 rfl 1 rfl ?_
        refine V_iload_n dX7_isComplete_34 rfl 3 rfl ?_
        refine V_dup2 dX7_isComplete_35 rfl rfl ?_
        replace h := ob h
        obtain ⟨v5, e_v5, h⟩ := h
        refine V_iald e_v5 dX7_isComplete_36 ?_
        refine V_pc (pc' := 37) rfl ?_
        refine V_iconst (v := 2) dX7_isComplete_37 (by decide) ?_
        refine V_iadd dX7_isComplete_38 ?_
        replace h := ob h
        obtain ⟨M6, e_M6, h⟩ := h
        refine V_iast e_M6 dX7_isComplete_39 ?_
        refine V_iload_n dX7_isComplete_40 rfl 0 rfl ?_
        refine V_if_eq (tgt := 46) dX7_isComplete_41 (by decide) (fun c7 => ?_) (fun c7 => ?_)
        · replace h := (oi h).1 c7
          refine V_iinc (v := i2 + (1 : Int32)) (ls' := [(2, .int ((i2 + (1 : Int32)))), (3, .int (r4.1)), (0, .ref (zad L (a0))), (1, .int (i1))]) dX7_isComplete_46 3 rfl (by rfl) (by decide) rfl ?_
          refine V_goto (tgt := 2) dX7_isComplete_49 (by decide) ?_
          refine V_sub [2, 3, 0] rfl ?_
          exact ih _ _ _ _ h
        · replace h := (oi h).2 c7
          refine V_iconst (v := 1) dX7_isComplete_44 (by decide) ?_
          obtain rfl := Option.some.inj h
          exact V_zret (ty := .boolean) rfl rfl hq dX7_isComplete_45
      · replace h := (oi h).2 c8
        refine V_goto (tgt := 46) dX7_isComplete_15 (by decide) ?_
        refine V_iinc (v := i2 + (1 : Int32)) (ls' := [(2, .int ((i2 + (1 : Int32)))), (0, .ref (zad L (a0))), (1, .int (i1))]) dX7_isComplete_46 2 rfl (by rfl) (by decide) rfl ?_
        refine V_goto (tgt := 2) dX7_isComplete_49 (by decide) ?_
        refine V_sub [1, 2, 0] rfl ?_
        exact ih _ _ _ _ h
def f_X7_isComplete_0 (a0 : Nat) (i1 : Int32) (M : zM) : Option (Int32 × zM) :=
  f_X7_isComplete_2 zN a0 i1 ((0 : Int32)) M
set_option maxRecDepth 20000 in
set_option maxHeartbeats 4000000 in
theorem s_X7_isComplete_0 {L : zL} {X : zX} {M0 : zM} {N : Nat × Nat} {Q : State → Prop} {r : Int32 × zM} (hq : vQ L X M0 N Q (some (.int r.1)) r.2) {a0 : Nat} {i1 : Int32} {M : zM} (h : f_X7_isComplete_0 a0 i1 M = some r) : V L X yX7_isComplete cX7_isComplete 4 (some FieldType.boolean) 67 M0 N Q M 0 [(0, .ref (zad L (a0))), (1, .int (i1))] [] := by
  unfold f_X7_isComplete_0 at h
  refine V_iconst (v := 0) dX7_isComplete_0 (by decide) ?_
  refine V_istore_n (ls' := [(2, .int ((0 : Int32))), (0, .ref (zad L (a0))), (1, .int (i1))]) dX7_isComplete_1 rfl (by decide) rfl ?_
  refine V_sub [1, 2, 0] rfl ?_
  exact s_X7_isComplete_2 hq h
def f_X7_isComplete (a0 : Nat) (i1 : Int32) (M : zM) : Option (Int32 × zM) := f_X7_isComplete_0 a0 i1 M
theorem c_X7_isComplete {L : zL} {l : Launch} {a0 : Nat} {i1 : Int32} {M : zM} {r : Int32 × zM} (h : f_X7_isComplete a0 i1 M = some r) : CP L l yX7_isComplete cX7_isComplete 4 (some FieldType.boolean) 67 M [.ref (zad L (a0)), .int (i1)] (some (.int r.1)) r.2 :=
  CP.of ⟨by decide +kernel, by decide +kernel⟩ (Nat.le_of_ble_eq_true rfl) fun X Q hq => s_X7_isComplete_0 hq h
/-! WindsparlourModel$Player.waits()J -/
theorem dX6_waits_0 : decode cX6_waits 0 = .ok (.lconst 0, 1) := by decide +kernel
theorem dX6_waits_1 : decode cX6_waits 1 = .ok (.lstore_n 1, 1) := by decide +kernel
theorem dX6_waits_2 : decode cX6_waits 2 = .ok (.iconst 0, 1) := by decide +kernel
theorem dX6_waits_3 : decode cX6_waits 3 = .ok (.istore_n 3, 1) := by decide +kernel
theorem dX6_waits_4 : decode cX6_waits 4 = .ok (.iload_n 3, 1) := by decide +kernel
theorem dX6_waits_5 : decode cX6_waits 5 = .ok (.bipush 25, 2) := by decide +kernel
theorem dX6_waits_7 : decode cX6_waits 7 = .ok (.if_icmp .ge 75, 3) := by decide +kernel
theorem dX6_waits_10 : decode cX6_waits 10 = .ok (.aload_n 0, 1) := by decide +kernel
theorem dX6_waits_11 : decode cX6_waits 11 = .ok (.invokevirtual 40, 3) := by decide +kernel
theorem dX6_waits_14 : decode cX6_waits 14 = .ok (.iconst 3, 1) := by decide +kernel
theorem dX6_waits_15 : decode cX6_waits 15 = .ok (.aload_n 0, 1) := by decide +kernel
theorem dX6_waits_16 : decode cX6_waits 16 = .ok (.getfield 22, 3) := by decide +kernel
theorem dX6_waits_19 : decode cX6_waits 19 = .ok (.invokevirtual 44, 3) := by decide +kernel
theorem dX6_waits_22 : decode cX6_waits 22 = .ok (.imul, 1) := by decide +kernel
theorem dX6_waits_23 : decode cX6_waits 23 = .ok (.iadd, 1) := by decide +kernel
theorem dX6_waits_24 : decode cX6_waits 24 = .ok (.bipush 10, 2) := by decide +kernel
theorem dX6_waits_26 : decode cX6_waits 26 = .ok (.if_icmp .ne 56, 3) := by decide +kernel
theorem dX6_waits_29 : decode cX6_waits 29 = .ok (.aload_n 0, 1) := by decide +kernel
theorem dX6_waits_30 : decode cX6_waits 30 = .ok (.getfield 15, 3) := by decide +kernel
theorem dX6_waits_33 : decode cX6_waits 33 = .ok (.iload_n 3, 1) := by decide +kernel
theorem dX6_waits_34 : decode cX6_waits 34 = .ok (.dup2, 1) := by decide +kernel
theorem dX6_waits_35 : decode cX6_waits 35 = .ok (.iaload, 1) := by decide +kernel
theorem dX6_waits_36 : decode cX6_waits 36 = .ok (.iconst 1, 1) := by decide +kernel
theorem dX6_waits_37 : decode cX6_waits 37 = .ok (.iadd, 1) := by decide +kernel
theorem dX6_waits_38 : decode cX6_waits 38 = .ok (.iastore, 1) := by decide +kernel
theorem dX6_waits_39 : decode cX6_waits 39 = .ok (.lload_n 1, 1) := by decide +kernel
theorem dX6_waits_40 : decode cX6_waits 40 = .ok (.aload_n 0, 1) := by decide +kernel
theorem dX6_waits_41 : decode cX6_waits 41 = .ok (.getfield 15, 3) := by decide +kernel
theorem dX6_waits_44 : decode cX6_waits 44 = .ok (.aload_n 0, 1) := by decide +kernel
theorem dX6_waits_45 : decode cX6_waits 45 = .ok (.getfield 22, 3) := by decide +kernel
theorem dX6_waits_48 : decode cX6_waits 48 = .ok (.invokevirtual 44, 3) := by decide +kernel
theorem dX6_waits_51 : decode cX6_waits 51 = .ok (.invokestatic 72, 3) := by decide +kernel
theorem dX6_waits_54 : decode cX6_waits 54 = .ok (.ifCond .eq 9, 3) := by decide +kernel
theorem dX6_waits_57 : decode cX6_waits 57 = .ok (.lconst 1, 1) := by decide +kernel
theorem dX6_waits_58 : decode cX6_waits 58 = .ok (.iload_n 3, 1) := by decide +kernel
theorem dX6_waits_59 : decode cX6_waits 59 = .ok (.lshl, 1) := by decide +kernel
theorem dX6_waits_60 : decode cX6_waits 60 = .ok (.goto 4, 3) := by decide +kernel
theorem dX6_waits_63 : decode cX6_waits 63 = .ok (.lconst 0, 1) := by decide +kernel
theorem dX6_waits_64 : decode cX6_waits 64 = .ok (.lor, 1) := by decide +kernel
theorem dX6_waits_65 : decode cX6_waits 65 = .ok (.lstore_n 1, 1) := by decide +kernel
theorem dX6_waits_66 : decode cX6_waits 66 = .ok (.aload_n 0, 1) := by decide +kernel
theorem dX6_waits_67 : decode cX6_waits 67 = .ok (.getfield 15, 3) := by decide +kernel
theorem dX6_waits_70 : decode cX6_waits 70 = .ok (.iload_n 3, 1) := by decide +kernel
theorem dX6_waits_71 : decode cX6_waits 71 = .ok (.dup2, 1) := by decide +kernel
theorem dX6_waits_72 : decode cX6_waits 72 = .ok (.iaload, 1) := by decide +kernel
theorem dX6_waits_73 : decode cX6_waits 73 = .ok (.iconst 1, 1) := by decide +kernel
theorem dX6_waits_74 : decode cX6_waits 74 = .ok (.isub, 1) := by decide +kernel
theorem dX6_waits_75 : decode cX6_waits 75 = .ok (.iastore, 1) := by decide +kernel
theorem dX6_waits_76 : decode cX6_waits 76 = .ok (.iinc 3 1, 3) := by decide +kernel
theorem dX6_waits_79 : decode cX6_waits 79 = .ok (.goto (-75), 3) := by decide +kernel
theorem dX6_waits_82 : decode cX6_waits 82 = .ok (.lload_n 1, 1) := by decide +kernel
theorem dX6_waits_83 : decode cX6_waits 83 = .ok (.lreturn, 1) := by decide +kernel
def f_X6_waits_64 (K4 : Nat → Int64 → Int32 → zM → Option (Int64 × zM)) (a0 : Nat) (i3 : Int32) (j_0 : Int64) (j_1 : Int64) (M : zM) : Option (Int64 × zM) :=
  (gR 12 2 M a0).bind fun v1 =>
  (lA 0 M v1 i3).bind fun v2 =>
  (tA M v1 i3 ((v2 - ((1 : Int32))))).bind fun M3 =>
  K4 a0 ((j_1 ||| j_0)) ((i3 + (1 : Int32))) M3
set_option maxRecDepth 20000 in
set_option maxHeartbeats 4000000 in
theorem s_X6_waits_64 {L : zL} {X : zX} {M0 : zM} {N : Nat × Nat} {Q : State → Prop} {r : Int64 × zM} {K4 : Nat → Int64 → Int32 → zM → Option (Int64 × zM)} (hK4 : ∀ (a0 : Nat) (j1 : Int64) (i3 : Int32) (M : zM), K4 a0 j1 i3 M = some r → V L X yX6_waits cX6_waits 4 (some FieldType.long) 68 M0 N Q M 4 [(0, .ref (zad L (a0))), (1, .long (j1)), (3, .int (i3))] []) (hq : vQ L X M0 N Q (some (.long r.1)) r.2) {a0 : Nat} {i3 : Int32} {j_0 : Int64} {j_1 : Int64} {M : zM} (h : f_X6_waits_64 K4 a0 i3 j_0 j_1 M = some r) : V L X yX6_waits cX6_waits 4 (some FieldType.long) 68 M0 N Q M 64 [(0, .ref (zad L (a0))), (3, .int (i3))] [.long (j_0), .long (j_1)] := by
  unfold f_X6_waits_64 at h
  refine V_lor dX6_waits_64 ?_
  refine V_lstore_n (ls' := [(1, .long ((j_1 ||| j_0))), (0, .ref (zad L (a0))), (3, .int (i3))]) dX6_waits_65 rfl (by decide) rfl ?_
  refine V_aload_n dX6_waits_66 rfl 1 rfl ?_
  replace h := ob h
  obtain ⟨v1, e_v1, h⟩ := h
  refine V_getR zf_12_2 zl_X6_15 e_v1 dX6_waits_67 ?_
  refine V_pc (pc' := 70) rfl ?_
  refine V_iload_n dX6_waits_70 rfl 2 rfl ?_
  refine V_dup2 dX6_waits_71 rfl rfl ?_
  replace h := ob h
  obtain ⟨v2, e_v2, h⟩ := h
  refine V_iald e_v2 dX6_waits_72 ?_
  refine V_pc (pc' := 73) rfl ?_
  refine V_iconst (v := 1) dX6_waits_73 (by decide) ?_
  refine V_isub dX6_waits_74 ?_
  replace h := ob h
  obtain ⟨M3, e_M3, h⟩ := h
  refine V_iast e_M3 dX6_waits_75 ?_
  refine V_iinc (v := i3 + (1 : Int32)) (ls' := [(3, .int ((i3 + (1 : Int32)))), (1, .long ((j_1 ||| j_0))), (0, .ref (zad L (a0)))]) dX6_waits_76 2 rfl (by rfl) (by decide) rfl ?_
  refine V_goto (tgt := 4) dX6_waits_79 (by decide) ?_
  refine V_sub [2, 1, 0] rfl ?_
  exact hK4 _ _ _ _ h
def f_X6_waits_4 (n : Nat) (a0 : Nat) (j1 : Int64) (i3 : Int32) (M : zM) : Option (Int64 × zM) := match n with
  | 0 => none
  | n + 1 =>
    if ((25 : Int32)) ≤ i3 then
    some (j1, M)
    else
    if mK M a0 = 12 then
    (f_X6_tiles a0 M).bind fun r1 =>
    (gR 12 3 r1.2 a0).bind fun v3 =>
    if mK r1.2 v3 = 5 then
    (f_Jx4a65c_size_8abf5 v3 r1.2).bind fun r4 =>
    if ((r1.1 + ((((3 : Int32)) * r4.1)))) = ((10 : Int32)) then
    (gR 12 2 r4.2 a0).bind fun v6 =>
    (lA 0 r4.2 v6 i3).bind fun v7 =>
    (tA r4.2 v6 i3 ((v7 + ((1 : Int32))))).bind fun M8 =>
    (gR 12 2 M8 a0).bind fun v9 =>
    (gR 12 3 M8 a0).bind fun v10 =>
    if mK M8 v10 = 5 then
    (f_Jx4a65c_size_8abf5 v10 M8).bind fun r11 =>
    (f_X7_isComplete v9 r11.1 r11.2).bind fun r13 =>
    if r13.1 = 0 then
    f_X6_waits_64 (f_X6_waits_4 n) a0 i3 ((0 : Int64)) j1 r13.2
    else
    f_X6_waits_64 (f_X6_waits_4 n) a0 i3 ((((1 : Int64)) <<< (i3.toInt64 &&& 63))) j1 r13.2
    else none
    else
    some (j1, r4.2)
    else none
    else none
set_option maxRecDepth 20000 in
set_option maxHeartbeats 4000000 in
theorem s_X6_waits_4 {L : zL} {X : zX} {M0 : zM} {N : Nat × Nat} {Q : State → Prop} {r : Int64 × zM} (hq : vQ L X M0 N Q (some (.long r.1)) r.2) {n : Nat} {a0 : Nat} {j1 : Int64} {i3 : Int32} {M : zM} : f_X6_waits_4 n a0 j1 i3 M = some r → V L X yX6_waits cX6_waits 4 (some FieldType.long) 68 M0 N Q M 4 [(0, .ref (zad L (a0))), (1, .long (j1)), (3, .int (i3))] [] := by
  induction n generalizing a0 j1 i3 M with
  | zero =>
    intro h
    rw [f_X6_waits_4] at h
    cases h
  | succ n ih0 =>
    intro h
    have ih : ∀ (a0 : Nat) (j1 : Int64) (i3 : Int32) (M : zM), f_X6_waits_4 n a0 j1 i3 M = some r → V L X yX6_waits cX6_waits 4 (some FieldType.long) 68 M0 N Q M 4 [(0, .ref (zad L (a0))), (1, .long (j1)), (3, .int (i3))] [] := fun a0 j1 i3 M h => ih0 h
    rw [f_X6_waits_4] at h
    refine V_iload_n dX6_waits_4 rfl 2 rfl ?_
    refine V_bipush (v := 25) dX6_waits_5 (by decide) ?_
    refine V_icmp_ge (tgt := 82) dX6_waits_7 (by decide) (fun c16 => ?_) (fun c16 => ?_)
    · replace h := (oi h).1 c16
      refine V_lload_n dX6_waits_82 rfl 1 rfl ?_
      obtain rfl := Option.some.inj h
      exact V_lret rfl hq dX6_waits_83
    · replace h := (oi h).2 c16
      refine V_aload_n dX6_waits_10 rfl 0 rfl ?_
      replace h := ox h
      obtain ⟨c2, h⟩ := h
      replace h := ob h
      obtain ⟨r1, e_r1, h⟩ := h
      refine V_callV_I (As := []) (rest := []) (c_X6_tiles e_r1) zc_X6_tiles rfl (by decide) rfl (by decide) (Or.inl c2) zm_X6_40 (Nat.le_of_ble_eq_true rfl) rfl dX6_waits_11 ?_
      refine V_pc (pc' := 14) rfl ?_
      refine V_iconst (v := 3) dX6_waits_14 (by decide) ?_
      refine V_aload_n dX6_waits_15 rfl 0 rfl ?_
      replace h := ob h
      obtain ⟨v3, e_v3, h⟩ := h
      refine V_getR zf_12_3 zl_X6_22 e_v3 dX6_waits_16 ?_
      refine V_pc (pc' := 19) rfl ?_
      replace h := ox h
      obtain ⟨c5, h⟩ := h
      replace h := ob h
      obtain ⟨r4, e_r4, h⟩ := h
      refine V_callV_I (As := []) (rest := [.int ((3 : Int32)), .int (r1.1)]) (c_Jx4a65c_size_8abf5 e_r4) zc_Jx4a65c_size_8abf5 rfl (by decide) rfl (by decide) (Or.inl c5) zm_X6_44 (Nat.le_of_ble_eq_true rfl) rfl dX6_waits_19 ?_
      refine V_pc (pc' := 22) rfl ?_
      refine V_imul dX6_waits_22 ?_
      refine V_iadd dX6_waits_23 ?_
      refine V_bipush (v := 10) dX6_waits_24 (by decide) ?_
      refine V_icmp_ne (tgt := 82) dX6_waits_26 (by decide) (fun c15 => ?_) (fun c15 => ?_)
      · replace h := (oi h).2 c15
        refine V_lload_n dX6_waits_82 rfl 1 rfl ?_
        obtain rfl := Option.some.inj h
        exact V_lret rfl hq dX6_waits_83
      · replace h := (oi h).1 c15
        refine V_aload_n dX6_waits_29 rfl 0 rfl ?_
        replace h := ob h
        obtain ⟨v6, e_v6, h⟩ := h
        refine V_getR zf_12_2 zl_X6_15 e_v6 dX6_waits_30 ?_
        refine V_pc (pc' := 33) rfl ?_
        refine V_iload_n dX6_waits_33 rfl 2 rfl ?_
        refine V_dup2 dX6_waits_34 rfl rfl ?_
        replace h := ob h
        obtain ⟨v7, e_v7, h⟩ := h
        refine V_iald e_v7 dX6_waits_35 ?_
        refine V_pc (pc' := 36) rfl ?_
        refine V_iconst (v := 1) dX6_waits_36 (by decide) ?_
        refine V_iadd dX6_waits_37 ?_
        replace h := ob h
        obtain ⟨M8, e_M8, h⟩ := h
        refine V_iast e_M8 dX6_waits_38 ?_
        refine V_lload_n dX6_waits_39 rfl 1 rfl ?_
        refine V_aload_n dX6_waits_40 rfl 0 rfl ?_
        replace h := ob h
        obtain ⟨v9, e_v9, h⟩ := h
        refine V_getR zf_12_2 zl_X6_15 e_v9 dX6_waits_41 ?_
        refine V_pc (pc' := 44) rfl ?_
        refine V_aload_n dX6_waits_44 rfl 0 rfl ?_
        replace h := ob h
        obtain ⟨v10, e_v10, h⟩ := h
        refine V_getR zf_12_3 zl_X6_22 e_v10 dX6_waits_45 ?_
        refine V_pc (pc' := 48) rfl ?_
        replace h := ox h
        obtain ⟨c12, h⟩ := h
        replace h := ob h
        obtain ⟨r11, e_r11, h⟩ := h
        refine V_callV_I (As := []) (rest := [.ref (zad L (v9)), .long (j1)]) (c_Jx4a65c_size_8abf5 e_r11) zc_Jx4a65c_size_8abf5 rfl (by decide) rfl (by decide) (Or.inl c12) zm_X6_44 (Nat.le_of_ble_eq_true rfl) rfl dX6_waits_48 ?_
        refine V_pc (pc' := 51) rfl ?_
        replace h := ob h
        obtain ⟨r13, e_r13, h⟩ := h
        refine V_callSN_I (As := [.ref (zad L (v9)), .int (r11.1)]) (rest := [.long (j1)]) (c_X7_isComplete e_r13) zc_X7_isComplete rfl (by decide) zm_X6_72 (Nat.le_of_ble_eq_true rfl) rfl dX6_waits_51 ?_
        refine V_pc (pc' := 54) rfl ?_
        refine V_if_eq (tgt := 63) dX6_waits_54 (by decide) (fun c14 => ?_) (fun c14 => ?_)
        · replace h := (oi h).1 c14
          refine V_lconst (v := 0) dX6_waits_63 (by decide) ?_
          refine V_sub [0, 2] rfl ?_
          exact s_X6_waits_64 ih hq h
        · replace h := (oi h).2 c14
          refine V_lconst (v := 1) dX6_waits_57 (by decide) ?_
          refine V_iload_n dX6_waits_58 rfl 2 rfl ?_
          refine V_lshl dX6_waits_59 ?_
          refine V_goto (tgt := 64) dX6_waits_60 (by decide) ?_
          refine V_sub [0, 2] rfl ?_
          exact s_X6_waits_64 ih hq h
def f_X6_waits_0 (a0 : Nat) (M : zM) : Option (Int64 × zM) :=
  f_X6_waits_4 zN a0 ((0 : Int64)) ((0 : Int32)) M
set_option maxRecDepth 20000 in
set_option maxHeartbeats 4000000 in
theorem s_X6_waits_0 {L : zL} {X : zX} {M0 : zM} {N : Nat × Nat} {Q : State → Prop} {r : Int64 × zM} (hq : vQ L X M0 N Q (some (.long r.1)) r.2) {a0 : Nat} {M : zM} (h : f_X6_waits_0 a0 M = some r) : V L X yX6_waits cX6_waits 4 (some FieldType.long) 68 M0 N Q M 0 [(0, .ref (zad L (a0)))] [] := by
  unfold f_X6_waits_0 at h
  refine V_lconst (v := 0) dX6_waits_0 (by decide) ?_
  refine V_lstore_n (ls' := [(1, .long ((0 : Int64))), (0, .ref (zad L (a0)))]) dX6_waits_1 rfl (by decide) rfl ?_
  refine V_iconst (v := 0) dX6_waits_2 (by decide) ?_
  refine V_istore_n (ls' := [(3, .int ((0 : Int32))), (1, .long ((0 : Int64))), (0, .ref (zad L (a0)))]) dX6_waits_3 rfl (by decide) rfl ?_
  refine V_sub [2, 1, 0] rfl ?_
  exact s_X6_waits_4 hq h
def f_X6_waits (a0 : Nat) (M : zM) : Option (Int64 × zM) := f_X6_waits_0 a0 M
theorem c_X6_waits {L : zL} {l : Launch} {a0 : Nat} {M : zM} {r : Int64 × zM} (h : f_X6_waits a0 M = some r) : CP L l yX6_waits cX6_waits 4 (some FieldType.long) 68 M [.ref (zad L (a0))] (some (.long r.1)) r.2 :=
  CP.of ⟨by decide +kernel, by decide +kernel⟩ (Nat.le_of_ble_eq_true rfl) fun X Q hq => s_X6_waits_0 hq h
/-! WindsparlourModel$Player.isReady()Z -/
theorem dX6_isReady_0 : decode cX6_isReady 0 = .ok (.aload_n 0, 1) := by decide +kernel
theorem dX6_isReady_1 : decode cX6_isReady 1 = .ok (.invokevirtual 76, 3) := by decide +kernel
theorem dX6_isReady_4 : decode cX6_isReady 4 = .ok (.lconst 0, 1) := by decide +kernel
theorem dX6_isReady_5 : decode cX6_isReady 5 = .ok (.lcmp, 1) := by decide +kernel
theorem dX6_isReady_6 : decode cX6_isReady 6 = .ok (.ifCond .eq 7, 3) := by decide +kernel
theorem dX6_isReady_9 : decode cX6_isReady 9 = .ok (.iconst 1, 1) := by decide +kernel
theorem dX6_isReady_10 : decode cX6_isReady 10 = .ok (.goto 4, 3) := by decide +kernel
theorem dX6_isReady_13 : decode cX6_isReady 13 = .ok (.iconst 0, 1) := by decide +kernel
theorem dX6_isReady_14 : decode cX6_isReady 14 = .ok (.ireturn, 1) := by decide +kernel
def f_X6_isReady_0 (a0 : Nat) (M : zM) : Option (Int32 × zM) :=
  if mK M a0 = 12 then
  (f_X6_waits a0 M).bind fun r1 =>
  if ((lg_cmp r1.1 ((0 : Int64)))) = 0 then
  some ((0 : Int32), r1.2)
  else
  some ((1 : Int32), r1.2)
  else none
set_option maxRecDepth 20000 in
set_option maxHeartbeats 4000000 in
theorem s_X6_isReady_0 {L : zL} {X : zX} {M0 : zM} {N : Nat × Nat} {Q : State → Prop} {r : Int32 × zM} (hq : vQ L X M0 N Q (some (.int r.1)) r.2) {a0 : Nat} {M : zM} (h : f_X6_isReady_0 a0 M = some r) : V L X yX6_isReady cX6_isReady 1 (some FieldType.boolean) 69 M0 N Q M 0 [(0, .ref (zad L (a0)))] [] := by
  unfold f_X6_isReady_0 at h
  refine V_aload_n dX6_isReady_0 rfl 0 rfl ?_
  replace h := ox h
  obtain ⟨c2, h⟩ := h
  replace h := ob h
  obtain ⟨r1, e_r1, h⟩ := h
  refine V_callV_J (As := []) (rest := []) (c_X6_waits e_r1) zc_X6_waits rfl (by decide) rfl (by decide) (Or.inl c2) zm_X6_76 (Nat.le_of_ble_eq_true rfl) rfl dX6_isReady_1 ?_
  refine V_pc (pc' := 4) rfl ?_
  refine V_lconst (v := 0) dX6_isReady_4 (by decide) ?_
  refine V_lcmp dX6_isReady_5 ?_
  refine V_if_eq (tgt := 13) dX6_isReady_6 (by decide) (fun c3 => ?_) (fun c3 => ?_)
  · replace h := (oi h).1 c3
    refine V_iconst (v := 0) dX6_isReady_13 (by decide) ?_
    obtain rfl := Option.some.inj h
    exact V_zret (ty := .boolean) rfl rfl hq dX6_isReady_14
  · replace h := (oi h).2 c3
    refine V_iconst (v := 1) dX6_isReady_9 (by decide) ?_
    refine V_goto (tgt := 14) dX6_isReady_10 (by decide) ?_
    obtain rfl := Option.some.inj h
    exact V_zret (ty := .boolean) rfl rfl hq dX6_isReady_14
def f_X6_isReady (a0 : Nat) (M : zM) : Option (Int32 × zM) := f_X6_isReady_0 a0 M
theorem c_X6_isReady {L : zL} {l : Launch} {a0 : Nat} {M : zM} {r : Int32 × zM} (h : f_X6_isReady a0 M = some r) : CP L l yX6_isReady cX6_isReady 1 (some FieldType.boolean) 69 M [.ref (zad L (a0))] (some (.int r.1)) r.2 :=
  CP.of ⟨by decide +kernel, by decide +kernel⟩ (Nat.le_of_ble_eq_true rfl) fun X Q hq => s_X6_isReady_0 hq h
/-! WindsparlourModel.isKind(I)Z -/
theorem dX7_isKind_0 : decode cX7_isKind 0 = .ok (.iload_n 0, 1) := by decide +kernel
theorem dX7_isKind_1 : decode cX7_isKind 1 = .ok (.iconst 0, 1) := by decide +kernel
theorem dX7_isKind_2 : decode cX7_isKind 2 = .ok (.bipush 24, 2) := by decide +kernel
theorem dX7_isKind_4 : decode cX7_isKind 4 = .ok (.invokestatic 3, 3) := by decide +kernel
theorem dX7_isKind_7 : decode cX7_isKind 7 = .ok (.ireturn, 1) := by decide +kernel
def f_X7_isKind_0 (i0 : Int32) (M : zM) : Option (Int32 × zM) :=
  (f_X7_isIn i0 ((0 : Int32)) ((24 : Int32)) M).bind fun r1 =>
  if r1.1 = 0 ∨ r1.1 = 1 then some (r1.1, r1.2) else none
set_option maxRecDepth 20000 in
set_option maxHeartbeats 4000000 in
theorem s_X7_isKind_0 {L : zL} {X : zX} {M0 : zM} {N : Nat × Nat} {Q : State → Prop} {r : Int32 × zM} (hq : vQ L X M0 N Q (some (.int r.1)) r.2) {i0 : Int32} {M : zM} (h : f_X7_isKind_0 i0 M = some r) : V L X yX7_isKind cX7_isKind 1 (some FieldType.boolean) 2 M0 N Q M 0 [(0, .int (i0))] [] := by
  unfold f_X7_isKind_0 at h
  refine V_iload_n dX7_isKind_0 rfl 0 rfl ?_
  refine V_iconst (v := 0) dX7_isKind_1 (by decide) ?_
  refine V_bipush (v := 24) dX7_isKind_2 (by decide) ?_
  replace h := ob h
  obtain ⟨r1, e_r1, h⟩ := h
  refine V_callS_I (As := [.int (i0), .int ((0 : Int32)), .int ((24 : Int32))]) (rest := []) (c_X7_isIn e_r1) zc_X7_isIn rfl (by decide) zm_X7_3 (Nat.le_of_ble_eq_true rfl) rfl dX7_isKind_4 ?_
  refine V_pc (pc' := 7) rfl ?_
  replace h := ox h
  obtain ⟨c2, h⟩ := h
  obtain rfl := Option.some.inj h
  exact V_zret (ty := .boolean) rfl (by rcases c2 with e | e <;> rw [e] <;> rfl) hq dX7_isKind_7
def f_X7_isKind (i0 : Int32) (M : zM) : Option (Int32 × zM) := f_X7_isKind_0 i0 M
theorem c_X7_isKind {L : zL} {l : Launch} {i0 : Int32} {M : zM} {r : Int32 × zM} (h : f_X7_isKind i0 M = some r) : CP L l yX7_isKind cX7_isKind 1 (some FieldType.boolean) 2 M [.int (i0)] (some (.int r.1)) r.2 :=
  CP.of ⟨by decide +kernel, by decide +kernel⟩ (Nat.le_of_ble_eq_true rfl) fun X Q hq => s_X7_isKind_0 hq h
/-! WindsparlourModel.isEnd(I)Z -/
theorem dX7_isEnd_0 : decode cX7_isEnd 0 = .ok (.iload_n 0, 1) := by decide +kernel
theorem dX7_isEnd_1 : decode cX7_isEnd 1 = .ok (.bipush 18, 2) := by decide +kernel
theorem dX7_isEnd_3 : decode cX7_isEnd 3 = .ok (.if_icmp .ge 19, 3) := by decide +kernel
theorem dX7_isEnd_6 : decode cX7_isEnd 6 = .ok (.iload_n 0, 1) := by decide +kernel
theorem dX7_isEnd_7 : decode cX7_isEnd 7 = .ok (.bipush 9, 2) := by decide +kernel
theorem dX7_isEnd_9 : decode cX7_isEnd 9 = .ok (.irem, 1) := by decide +kernel
theorem dX7_isEnd_10 : decode cX7_isEnd 10 = .ok (.ifCond .eq 12, 3) := by decide +kernel
theorem dX7_isEnd_13 : decode cX7_isEnd 13 = .ok (.iload_n 0, 1) := by decide +kernel
theorem dX7_isEnd_14 : decode cX7_isEnd 14 = .ok (.bipush 9, 2) := by decide +kernel
theorem dX7_isEnd_16 : decode cX7_isEnd 16 = .ok (.irem, 1) := by decide +kernel
theorem dX7_isEnd_17 : decode cX7_isEnd 17 = .ok (.bipush 8, 2) := by decide +kernel
theorem dX7_isEnd_19 : decode cX7_isEnd 19 = .ok (.if_icmp .ne 7, 3) := by decide +kernel
theorem dX7_isEnd_22 : decode cX7_isEnd 22 = .ok (.iconst 1, 1) := by decide +kernel
theorem dX7_isEnd_23 : decode cX7_isEnd 23 = .ok (.goto 4, 3) := by decide +kernel
theorem dX7_isEnd_26 : decode cX7_isEnd 26 = .ok (.iconst 0, 1) := by decide +kernel
theorem dX7_isEnd_27 : decode cX7_isEnd 27 = .ok (.ireturn, 1) := by decide +kernel
def f_X7_isEnd_0 (i0 : Int32) (M : zM) : Option (Int32 × zM) :=
  if ((18 : Int32)) ≤ i0 then
  some ((1 : Int32), M)
  else
  if ((zmd i0 ((9 : Int32)))) = 0 then
  some ((1 : Int32), M)
  else
  if ((zmd i0 ((9 : Int32)))) = ((8 : Int32)) then
  some ((1 : Int32), M)
  else
  some ((0 : Int32), M)
set_option maxRecDepth 20000 in
set_option maxHeartbeats 4000000 in
theorem s_X7_isEnd_0 {L : zL} {X : zX} {M0 : zM} {N : Nat × Nat} {Q : State → Prop} {r : Int32 × zM} (hq : vQ L X M0 N Q (some (.int r.1)) r.2) {i0 : Int32} {M : zM} (h : f_X7_isEnd_0 i0 M = some r) : V L X yX7_isEnd cX7_isEnd 1 (some FieldType.boolean) 1 M0 N Q M 0 [(0, .int (i0))] [] := by
  unfold f_X7_isEnd_0 at h
  refine V_iload_n dX7_isEnd_0 rfl 0 rfl ?_
  refine V_bipush (v := 18) dX7_isEnd_1 (by decide) ?_
  refine V_icmp_ge (tgt := 22) dX7_isEnd_3 (by decide) (fun c3 => ?_) (fun c3 => ?_)
  · replace h := (oi h).1 c3
    refine V_iconst (v := 1) dX7_isEnd_22 (by decide) ?_
    refine V_goto (tgt := 27) dX7_isEnd_23 (by decide) ?_
    obtain rfl := Option.some.inj h
    exact V_zret (ty := .boolean) rfl rfl hq dX7_isEnd_27
  · replace h := (oi h).2 c3
    refine V_iload_n dX7_isEnd_6 rfl 0 rfl ?_
    refine V_bipush (v := 9) dX7_isEnd_7 (by decide) ?_
    refine V_irem dX7_isEnd_9 (by decide) ?_
    refine V_if_eq (tgt := 22) dX7_isEnd_10 (by decide) (fun c2 => ?_) (fun c2 => ?_)
    · replace h := (oi h).1 c2
      refine V_iconst (v := 1) dX7_isEnd_22 (by decide) ?_
      refine V_goto (tgt := 27) dX7_isEnd_23 (by decide) ?_
      obtain rfl := Option.some.inj h
      exact V_zret (ty := .boolean) rfl rfl hq dX7_isEnd_27
    · replace h := (oi h).2 c2
      refine V_iload_n dX7_isEnd_13 rfl 0 rfl ?_
      refine V_bipush (v := 9) dX7_isEnd_14 (by decide) ?_
      refine V_irem dX7_isEnd_16 (by decide) ?_
      refine V_bipush (v := 8) dX7_isEnd_17 (by decide) ?_
      refine V_icmp_ne (tgt := 26) dX7_isEnd_19 (by decide) (fun c1 => ?_) (fun c1 => ?_)
      · replace h := (oi h).2 c1
        refine V_iconst (v := 0) dX7_isEnd_26 (by decide) ?_
        obtain rfl := Option.some.inj h
        exact V_zret (ty := .boolean) rfl rfl hq dX7_isEnd_27
      · replace h := (oi h).1 c1
        refine V_iconst (v := 1) dX7_isEnd_22 (by decide) ?_
        refine V_goto (tgt := 27) dX7_isEnd_23 (by decide) ?_
        obtain rfl := Option.some.inj h
        exact V_zret (ty := .boolean) rfl rfl hq dX7_isEnd_27
def f_X7_isEnd (i0 : Int32) (M : zM) : Option (Int32 × zM) := f_X7_isEnd_0 i0 M
theorem c_X7_isEnd {L : zL} {l : Launch} {i0 : Int32} {M : zM} {r : Int32 × zM} (h : f_X7_isEnd i0 M = some r) : CP L l yX7_isEnd cX7_isEnd 1 (some FieldType.boolean) 1 M [.int (i0)] (some (.int r.1)) r.2 :=
  CP.of ⟨by decide +kernel, by decide +kernel⟩ (Nat.le_of_ble_eq_true rfl) fun X Q hq => s_X7_isEnd_0 hq h
/-! WindsparlourModel.lucky(I)I -/
theorem dX7_lucky_0 : decode cX7_lucky 0 = .ok (.iload_n 0, 1) := by decide +kernel
theorem dX7_lucky_1 : decode cX7_lucky 1 = .ok (.bipush 18, 2) := by decide +kernel
theorem dX7_lucky_3 : decode cX7_lucky 3 = .ok (.if_icmp .ge 25, 3) := by decide +kernel
theorem dX7_lucky_6 : decode cX7_lucky 6 = .ok (.iload_n 0, 1) := by decide +kernel
theorem dX7_lucky_7 : decode cX7_lucky 7 = .ok (.bipush 9, 2) := by decide +kernel
theorem dX7_lucky_9 : decode cX7_lucky 9 = .ok (.irem, 1) := by decide +kernel
theorem dX7_lucky_10 : decode cX7_lucky 10 = .ok (.bipush 8, 2) := by decide +kernel
theorem dX7_lucky_12 : decode cX7_lucky 12 = .ok (.if_icmp .ne 12, 3) := by decide +kernel
theorem dX7_lucky_15 : decode cX7_lucky 15 = .ok (.iload_n 0, 1) := by decide +kernel
theorem dX7_lucky_16 : decode cX7_lucky 16 = .ok (.bipush 9, 2) := by decide +kernel
theorem dX7_lucky_18 : decode cX7_lucky 18 = .ok (.isub, 1) := by decide +kernel
theorem dX7_lucky_19 : decode cX7_lucky 19 = .ok (.iconst 1, 1) := by decide +kernel
theorem dX7_lucky_20 : decode cX7_lucky 20 = .ok (.iadd, 1) := by decide +kernel
theorem dX7_lucky_21 : decode cX7_lucky 21 = .ok (.goto 6, 3) := by decide +kernel
theorem dX7_lucky_24 : decode cX7_lucky 24 = .ok (.iload_n 0, 1) := by decide +kernel
theorem dX7_lucky_25 : decode cX7_lucky 25 = .ok (.iconst 1, 1) := by decide +kernel
theorem dX7_lucky_26 : decode cX7_lucky 26 = .ok (.iadd, 1) := by decide +kernel
theorem dX7_lucky_27 : decode cX7_lucky 27 = .ok (.ireturn, 1) := by decide +kernel
theorem dX7_lucky_28 : decode cX7_lucky 28 = .ok (.iload_n 0, 1) := by decide +kernel
theorem dX7_lucky_29 : decode cX7_lucky 29 = .ok (.bipush 21, 2) := by decide +kernel
theorem dX7_lucky_31 : decode cX7_lucky 31 = .ok (.if_icmp .ne 8, 3) := by decide +kernel
theorem dX7_lucky_34 : decode cX7_lucky 34 = .ok (.bipush 18, 2) := by decide +kernel
theorem dX7_lucky_36 : decode cX7_lucky 36 = .ok (.goto 17, 3) := by decide +kernel
theorem dX7_lucky_39 : decode cX7_lucky 39 = .ok (.iload_n 0, 1) := by decide +kernel
theorem dX7_lucky_40 : decode cX7_lucky 40 = .ok (.bipush 24, 2) := by decide +kernel
theorem dX7_lucky_42 : decode cX7_lucky 42 = .ok (.if_icmp .ne 8, 3) := by decide +kernel
theorem dX7_lucky_45 : decode cX7_lucky 45 = .ok (.bipush 22, 2) := by decide +kernel
theorem dX7_lucky_47 : decode cX7_lucky 47 = .ok (.goto 6, 3) := by decide +kernel
theorem dX7_lucky_50 : decode cX7_lucky 50 = .ok (.iload_n 0, 1) := by decide +kernel
theorem dX7_lucky_51 : decode cX7_lucky 51 = .ok (.iconst 1, 1) := by decide +kernel
theorem dX7_lucky_52 : decode cX7_lucky 52 = .ok (.iadd, 1) := by decide +kernel
theorem dX7_lucky_53 : decode cX7_lucky 53 = .ok (.ireturn, 1) := by decide +kernel
def f_X7_lucky_0 (i0 : Int32) (M : zM) : Option (Int32 × zM) :=
  if ((18 : Int32)) ≤ i0 then
  if i0 = ((21 : Int32)) then
  some ((18 : Int32), M)
  else
  if i0 = ((24 : Int32)) then
  some ((22 : Int32), M)
  else
  some ((i0 + ((1 : Int32))), M)
  else
  if ((zmd i0 ((9 : Int32)))) = ((8 : Int32)) then
  some ((((i0 - ((9 : Int32)))) + ((1 : Int32))), M)
  else
  some ((i0 + ((1 : Int32))), M)
set_option maxRecDepth 20000 in
set_option maxHeartbeats 4000000 in
theorem s_X7_lucky_0 {L : zL} {X : zX} {M0 : zM} {N : Nat × Nat} {Q : State → Prop} {r : Int32 × zM} (hq : vQ L X M0 N Q (some (.int r.1)) r.2) {i0 : Int32} {M : zM} (h : f_X7_lucky_0 i0 M = some r) : V L X yX7_lucky cX7_lucky 1 (some FieldType.int) 1 M0 N Q M 0 [(0, .int (i0))] [] := by
  unfold f_X7_lucky_0 at h
  refine V_iload_n dX7_lucky_0 rfl 0 rfl ?_
  refine V_bipush (v := 18) dX7_lucky_1 (by decide) ?_
  refine V_icmp_ge (tgt := 28) dX7_lucky_3 (by decide) (fun c4 => ?_) (fun c4 => ?_)
  · replace h := (oi h).1 c4
    refine V_iload_n dX7_lucky_28 rfl 0 rfl ?_
    refine V_bipush (v := 21) dX7_lucky_29 (by decide) ?_
    refine V_icmp_ne (tgt := 39) dX7_lucky_31 (by decide) (fun c2 => ?_) (fun c2 => ?_)
    · replace h := (oi h).2 c2
      refine V_iload_n dX7_lucky_39 rfl 0 rfl ?_
      refine V_bipush (v := 24) dX7_lucky_40 (by decide) ?_
      refine V_icmp_ne (tgt := 50) dX7_lucky_42 (by decide) (fun c1 => ?_) (fun c1 => ?_)
      · replace h := (oi h).2 c1
        refine V_iload_n dX7_lucky_50 rfl 0 rfl ?_
        refine V_iconst (v := 1) dX7_lucky_51 (by decide) ?_
        refine V_iadd dX7_lucky_52 ?_
        obtain rfl := Option.some.inj h
        exact V_iret rfl hq dX7_lucky_53
      · replace h := (oi h).1 c1
        refine V_bipush (v := 22) dX7_lucky_45 (by decide) ?_
        refine V_goto (tgt := 53) dX7_lucky_47 (by decide) ?_
        obtain rfl := Option.some.inj h
        exact V_iret rfl hq dX7_lucky_53
    · replace h := (oi h).1 c2
      refine V_bipush (v := 18) dX7_lucky_34 (by decide) ?_
      refine V_goto (tgt := 53) dX7_lucky_36 (by decide) ?_
      obtain rfl := Option.some.inj h
      exact V_iret rfl hq dX7_lucky_53
  · replace h := (oi h).2 c4
    refine V_iload_n dX7_lucky_6 rfl 0 rfl ?_
    refine V_bipush (v := 9) dX7_lucky_7 (by decide) ?_
    refine V_irem dX7_lucky_9 (by decide) ?_
    refine V_bipush (v := 8) dX7_lucky_10 (by decide) ?_
    refine V_icmp_ne (tgt := 24) dX7_lucky_12 (by decide) (fun c3 => ?_) (fun c3 => ?_)
    · replace h := (oi h).2 c3
      refine V_iload_n dX7_lucky_24 rfl 0 rfl ?_
      refine V_iconst (v := 1) dX7_lucky_25 (by decide) ?_
      refine V_iadd dX7_lucky_26 ?_
      obtain rfl := Option.some.inj h
      exact V_iret rfl hq dX7_lucky_27
    · replace h := (oi h).1 c3
      refine V_iload_n dX7_lucky_15 rfl 0 rfl ?_
      refine V_bipush (v := 9) dX7_lucky_16 (by decide) ?_
      refine V_isub dX7_lucky_18 ?_
      refine V_iconst (v := 1) dX7_lucky_19 (by decide) ?_
      refine V_iadd dX7_lucky_20 ?_
      refine V_goto (tgt := 27) dX7_lucky_21 (by decide) ?_
      obtain rfl := Option.some.inj h
      exact V_iret rfl hq dX7_lucky_27
def f_X7_lucky (i0 : Int32) (M : zM) : Option (Int32 × zM) := f_X7_lucky_0 i0 M
theorem c_X7_lucky {L : zL} {l : Launch} {i0 : Int32} {M : zM} {r : Int32 × zM} (h : f_X7_lucky i0 M = some r) : CP L l yX7_lucky cX7_lucky 1 (some FieldType.int) 1 M [.int (i0)] (some (.int r.1)) r.2 :=
  CP.of ⟨by decide +kernel, by decide +kernel⟩ (Nat.le_of_ble_eq_true rfl) fun X Q hq => s_X7_lucky_0 hq h
/-! WindsparlourModel.<init>()V -/
theorem dX7_init_0 : decode cX7_init 0 = .ok (.aload_n 0, 1) := by decide +kernel
theorem dX7_init_1 : decode cX7_init 1 = .ok (.invokespecial 29, 3) := by decide +kernel
theorem dX7_init_4 : decode cX7_init 4 = .ok (.aload_n 0, 1) := by decide +kernel
theorem dX7_init_5 : decode cX7_init 5 = .ok (.iconst 4, 1) := by decide +kernel
theorem dX7_init_6 : decode cX7_init 6 = .ok (.anewarray 35, 3) := by decide +kernel
theorem dX7_init_9 : decode cX7_init 9 = .ok (.dup, 1) := by decide +kernel
theorem dX7_init_10 : decode cX7_init 10 = .ok (.iconst 0, 1) := by decide +kernel
theorem dX7_init_11 : decode cX7_init 11 = .ok (.new 35, 3) := by decide +kernel
theorem dX7_init_14 : decode cX7_init 14 = .ok (.dup, 1) := by decide +kernel
theorem dX7_init_15 : decode cX7_init 15 = .ok (.invokespecial 37, 3) := by decide +kernel
theorem dX7_init_18 : decode cX7_init 18 = .ok (.aastore, 1) := by decide +kernel
theorem dX7_init_19 : decode cX7_init 19 = .ok (.dup, 1) := by decide +kernel
theorem dX7_init_20 : decode cX7_init 20 = .ok (.iconst 1, 1) := by decide +kernel
theorem dX7_init_21 : decode cX7_init 21 = .ok (.new 35, 3) := by decide +kernel
theorem dX7_init_24 : decode cX7_init 24 = .ok (.dup, 1) := by decide +kernel
theorem dX7_init_25 : decode cX7_init 25 = .ok (.invokespecial 37, 3) := by decide +kernel
theorem dX7_init_28 : decode cX7_init 28 = .ok (.aastore, 1) := by decide +kernel
theorem dX7_init_29 : decode cX7_init 29 = .ok (.dup, 1) := by decide +kernel
theorem dX7_init_30 : decode cX7_init 30 = .ok (.iconst 2, 1) := by decide +kernel
theorem dX7_init_31 : decode cX7_init 31 = .ok (.new 35, 3) := by decide +kernel
theorem dX7_init_34 : decode cX7_init 34 = .ok (.dup, 1) := by decide +kernel
theorem dX7_init_35 : decode cX7_init 35 = .ok (.invokespecial 37, 3) := by decide +kernel
theorem dX7_init_38 : decode cX7_init 38 = .ok (.aastore, 1) := by decide +kernel
theorem dX7_init_39 : decode cX7_init 39 = .ok (.dup, 1) := by decide +kernel
theorem dX7_init_40 : decode cX7_init 40 = .ok (.iconst 3, 1) := by decide +kernel
theorem dX7_init_41 : decode cX7_init 41 = .ok (.new 35, 3) := by decide +kernel
theorem dX7_init_44 : decode cX7_init 44 = .ok (.dup, 1) := by decide +kernel
theorem dX7_init_45 : decode cX7_init 45 = .ok (.invokespecial 37, 3) := by decide +kernel
theorem dX7_init_48 : decode cX7_init 48 = .ok (.aastore, 1) := by decide +kernel
theorem dX7_init_49 : decode cX7_init 49 = .ok (.putfield 38, 3) := by decide +kernel
theorem dX7_init_52 : decode cX7_init 52 = .ok (.aload_n 0, 1) := by decide +kernel
theorem dX7_init_53 : decode cX7_init 53 = .ok (.bipush 100, 2) := by decide +kernel
theorem dX7_init_55 : decode cX7_init 55 = .ok (.newarray .int, 2) := by decide +kernel
theorem dX7_init_57 : decode cX7_init 57 = .ok (.putfield 42, 3) := by decide +kernel
theorem dX7_init_60 : decode cX7_init 60 = .ok (.aload_n 0, 1) := by decide +kernel
theorem dX7_init_61 : decode cX7_init 61 = .ok (.iconst (-1), 1) := by decide +kernel
theorem dX7_init_62 : decode cX7_init 62 = .ok (.putfield 46, 3) := by decide +kernel
theorem dX7_init_65 : decode cX7_init 65 = .ok (.aload_n 0, 1) := by decide +kernel
theorem dX7_init_66 : decode cX7_init 66 = .ok (.iconst 3, 1) := by decide +kernel
theorem dX7_init_67 : decode cX7_init 67 = .ok (.putfield 50, 3) := by decide +kernel
theorem dX7_init_70 : decode cX7_init 70 = .ok (.aload_n 0, 1) := by decide +kernel
theorem dX7_init_71 : decode cX7_init 71 = .ok (.iconst (-1), 1) := by decide +kernel
theorem dX7_init_72 : decode cX7_init 72 = .ok (.putfield 53, 3) := by decide +kernel
theorem dX7_init_75 : decode cX7_init 75 = .ok (.aload_n 0, 1) := by decide +kernel
theorem dX7_init_76 : decode cX7_init 76 = .ok (.iconst (-1), 1) := by decide +kernel
theorem dX7_init_77 : decode cX7_init 77 = .ok (.putfield 56, 3) := by decide +kernel
theorem dX7_init_80 : decode cX7_init 80 = .ok (.aload_n 0, 1) := by decide +kernel
theorem dX7_init_81 : decode cX7_init 81 = .ok (.iconst (-1), 1) := by decide +kernel
theorem dX7_init_82 : decode cX7_init 82 = .ok (.putfield 59, 3) := by decide +kernel
theorem dX7_init_85 : decode cX7_init 85 = .ok (.aload_n 0, 1) := by decide +kernel
theorem dX7_init_86 : decode cX7_init 86 = .ok (.iconst (-1), 1) := by decide +kernel
theorem dX7_init_87 : decode cX7_init 87 = .ok (.putfield 62, 3) := by decide +kernel
theorem dX7_init_90 : decode cX7_init 90 = .ok (.return_, 1) := by decide +kernel
def f_X7_init_0 (a0 : Nat) (M : zM) : Option (Unit × zM) :=
  (aQ 2 M ((4 : Int32))).bind fun r1 =>
  (f_X6_init (mX r1.2) (nO r1.2 12 7)).bind fun r2 =>
  if mK r2.2 (mX r1.2) = 12 then
  (tQ 2 r2.2 r1.1 ((0 : Int32)) (some (mX r1.2))).bind fun M3 =>
  (f_X6_init (mX M3) (nO M3 12 7)).bind fun r4 =>
  if mK r4.2 (mX M3) = 12 then
  (tQ 2 r4.2 r1.1 ((1 : Int32)) (some (mX M3))).bind fun M5 =>
  (f_X6_init (mX M5) (nO M5 12 7)).bind fun r6 =>
  if mK r6.2 (mX M5) = 12 then
  (tQ 2 r6.2 r1.1 ((2 : Int32)) (some (mX M5))).bind fun M7 =>
  (f_X6_init (mX M7) (nO M7 12 7)).bind fun r8 =>
  if mK r8.2 (mX M7) = 12 then
  (tQ 2 r8.2 r1.1 ((3 : Int32)) (some (mX M7))).bind fun M9 =>
  (pR 13 1 M9 a0 r1.1).bind fun M10 =>
  (aA 0 M10 ((100 : Int32))).bind fun r11 =>
  (pR 13 2 r11.2 a0 r11.1).bind fun M12 =>
  (pI 13 5 M12 a0 ((-1 : Int32))).bind fun M13 =>
  (pI 13 6 M13 a0 ((3 : Int32))).bind fun M14 =>
  (pI 13 8 M14 a0 ((-1 : Int32))).bind fun M15 =>
  (pI 13 12 M15 a0 ((-1 : Int32))).bind fun M16 =>
  (pI 13 13 M16 a0 ((-1 : Int32))).bind fun M17 =>
  (pI 13 14 M17 a0 ((-1 : Int32))).bind fun M18 =>
  some ((), M18)
  else none
  else none
  else none
  else none
set_option maxRecDepth 20000 in
set_option maxHeartbeats 4000000 in
theorem s_X7_init_0 {L : zL} {X : zX} {M0 : zM} {N : Nat × Nat} {Q : State → Prop} {r : Unit × zM} (hq : vQ L X M0 N Q none r.2) {a0 : Nat} {M : zM} (h : f_X7_init_0 a0 M = some r) : V L X yX7_init cX7_init 1 (none : Option FieldType) 5 M0 N Q M 0 [(0, .ref (zad L (a0)))] [] := by
  unfold f_X7_init_0 at h
  refine V_aload_n dX7_init_0 rfl 0 rfl ?_
  refine V_objInit zo_X7_29 (by decide) (Nat.le_of_ble_eq_true rfl) dX7_init_1 ?_
  refine V_aload_n dX7_init_4 rfl 0 rfl ?_
  refine V_iconst (v := 4) dX7_init_5 (by decide) ?_
  replace h := ob h
  obtain ⟨r1, e_r1, h⟩ := h
  refine V_newq (t := 2) (by decide) zk_X7_35 e_r1 dX7_init_6 ?_
  refine V_pc (pc' := 9) rfl ?_
  refine V_dup dX7_init_9 rfl ?_
  refine V_iconst (v := 0) dX7_init_10 (by decide) ?_
  refine V_new (by decide) rfl zin12 zty12 zdf12 zn_X7_35 dX7_init_11 ?_
  refine V_dup dX7_init_14 rfl ?_
  replace h := ob h
  obtain ⟨r2, e_r2, h⟩ := h
  refine V_callIN_V (As := []) (rest := [.ref (zad L (mX r1.2)), .int ((0 : Int32)), .ref (zad L (r1.1)), .ref (zad L (r1.1)), .ref (zad L (a0))]) (c_X6_init e_r2) zc_X6_init rfl (by decide) zm_X7_37 rfl (Nat.le_of_ble_eq_true rfl) rfl dX7_init_15 ?_
  refine V_pc (pc' := 18) rfl ?_
  replace h := ox h
  obtain ⟨c22, h⟩ := h
  replace h := ob h
  obtain ⟨M3, e_M3, h⟩ := h
  refine V_aast (by decide) zgo_12_2 (Or.inl c22) e_M3 dX7_init_18 ?_
  refine V_dup dX7_init_19 rfl ?_
  refine V_iconst (v := 1) dX7_init_20 (by decide) ?_
  refine V_new (by decide) rfl zin12 zty12 zdf12 zn_X7_35 dX7_init_21 ?_
  refine V_dup dX7_init_24 rfl ?_
  replace h := ob h
  obtain ⟨r4, e_r4, h⟩ := h
  refine V_callIN_V (As := []) (rest := [.ref (zad L (mX M3)), .int ((1 : Int32)), .ref (zad L (r1.1)), .ref (zad L (r1.1)), .ref (zad L (a0))]) (c_X6_init e_r4) zc_X6_init rfl (by decide) zm_X7_37 rfl (Nat.le_of_ble_eq_true rfl) rfl dX7_init_25 ?_
  refine V_pc (pc' := 28) rfl ?_
  replace h := ox h
  obtain ⟨c21, h⟩ := h
  replace h := ob h
  obtain ⟨M5, e_M5, h⟩ := h
  refine V_aast (by decide) zgo_12_2 (Or.inl c21) e_M5 dX7_init_28 ?_
  refine V_dup dX7_init_29 rfl ?_
  refine V_iconst (v := 2) dX7_init_30 (by decide) ?_
  refine V_new (by decide) rfl zin12 zty12 zdf12 zn_X7_35 dX7_init_31 ?_
  refine V_dup dX7_init_34 rfl ?_
  replace h := ob h
  obtain ⟨r6, e_r6, h⟩ := h
  refine V_callIN_V (As := []) (rest := [.ref (zad L (mX M5)), .int ((2 : Int32)), .ref (zad L (r1.1)), .ref (zad L (r1.1)), .ref (zad L (a0))]) (c_X6_init e_r6) zc_X6_init rfl (by decide) zm_X7_37 rfl (Nat.le_of_ble_eq_true rfl) rfl dX7_init_35 ?_
  refine V_pc (pc' := 38) rfl ?_
  replace h := ox h
  obtain ⟨c20, h⟩ := h
  replace h := ob h
  obtain ⟨M7, e_M7, h⟩ := h
  refine V_aast (by decide) zgo_12_2 (Or.inl c20) e_M7 dX7_init_38 ?_
  refine V_dup dX7_init_39 rfl ?_
  refine V_iconst (v := 3) dX7_init_40 (by decide) ?_
  refine V_new (by decide) rfl zin12 zty12 zdf12 zn_X7_35 dX7_init_41 ?_
  refine V_dup dX7_init_44 rfl ?_
  replace h := ob h
  obtain ⟨r8, e_r8, h⟩ := h
  refine V_callIN_V (As := []) (rest := [.ref (zad L (mX M7)), .int ((3 : Int32)), .ref (zad L (r1.1)), .ref (zad L (r1.1)), .ref (zad L (a0))]) (c_X6_init e_r8) zc_X6_init rfl (by decide) zm_X7_37 rfl (Nat.le_of_ble_eq_true rfl) rfl dX7_init_45 ?_
  refine V_pc (pc' := 48) rfl ?_
  replace h := ox h
  obtain ⟨c19, h⟩ := h
  replace h := ob h
  obtain ⟨M9, e_M9, h⟩ := h
  refine V_aast (by decide) zgo_12_2 (Or.inl c19) e_M9 dX7_init_48 ?_
  replace h := ob h
  obtain ⟨M10, e_M10, h⟩ := h
  refine V_putR zf_13_1 zl_X7_38 (Or.inr ⟨rfl, rfl, rfl⟩) rfl e_M10 dX7_init_49 ?_
  refine V_pc (pc' := 52) rfl ?_
  refine V_aload_n dX7_init_52 rfl 0 rfl ?_
  refine V_bipush (v := 100) dX7_init_53 (by decide) ?_
  replace h := ob h
  obtain ⟨r11, e_r11, h⟩ := h
  refine V_newa (t := 0) (by decide) rfl zna_0 e_r11 dX7_init_55 ?_
  refine V_pc (pc' := 57) rfl ?_
  replace h := ob h
  obtain ⟨M12, e_M12, h⟩ := h
  refine V_putR zf_13_2 zl_X7_42 (Or.inr ⟨rfl, rfl, rfl⟩) rfl e_M12 dX7_init_57 ?_
  refine V_pc (pc' := 60) rfl ?_
  refine V_aload_n dX7_init_60 rfl 0 rfl ?_
  refine V_iconst (v := -1) dX7_init_61 (by decide) ?_
  replace h := ob h
  obtain ⟨M13, e_M13, h⟩ := h
  refine V_putI zf_13_5 zl_X7_46 (Or.inl rfl) rfl e_M13 dX7_init_62 ?_
  refine V_pc (pc' := 65) rfl ?_
  refine V_aload_n dX7_init_65 rfl 0 rfl ?_
  refine V_iconst (v := 3) dX7_init_66 (by decide) ?_
  replace h := ob h
  obtain ⟨M14, e_M14, h⟩ := h
  refine V_putI zf_13_6 zl_X7_50 (Or.inl rfl) rfl e_M14 dX7_init_67 ?_
  refine V_pc (pc' := 70) rfl ?_
  refine V_aload_n dX7_init_70 rfl 0 rfl ?_
  refine V_iconst (v := -1) dX7_init_71 (by decide) ?_
  replace h := ob h
  obtain ⟨M15, e_M15, h⟩ := h
  refine V_putI zf_13_8 zl_X7_53 (Or.inl rfl) rfl e_M15 dX7_init_72 ?_
  refine V_pc (pc' := 75) rfl ?_
  refine V_aload_n dX7_init_75 rfl 0 rfl ?_
  refine V_iconst (v := -1) dX7_init_76 (by decide) ?_
  replace h := ob h
  obtain ⟨M16, e_M16, h⟩ := h
  refine V_putI zf_13_12 zl_X7_56 (Or.inl rfl) rfl e_M16 dX7_init_77 ?_
  refine V_pc (pc' := 80) rfl ?_
  refine V_aload_n dX7_init_80 rfl 0 rfl ?_
  refine V_iconst (v := -1) dX7_init_81 (by decide) ?_
  replace h := ob h
  obtain ⟨M17, e_M17, h⟩ := h
  refine V_putI zf_13_13 zl_X7_59 (Or.inl rfl) rfl e_M17 dX7_init_82 ?_
  refine V_pc (pc' := 85) rfl ?_
  refine V_aload_n dX7_init_85 rfl 0 rfl ?_
  refine V_iconst (v := -1) dX7_init_86 (by decide) ?_
  replace h := ob h
  obtain ⟨M18, e_M18, h⟩ := h
  refine V_putI zf_13_14 zl_X7_62 (Or.inl rfl) rfl e_M18 dX7_init_87 ?_
  refine V_pc (pc' := 90) rfl ?_
  obtain rfl := Option.some.inj h
  exact V_vret rfl hq dX7_init_90
def f_X7_init (a0 : Nat) (M : zM) : Option (Unit × zM) := f_X7_init_0 a0 M
theorem c_X7_init {L : zL} {l : Launch} {a0 : Nat} {M : zM} {r : Unit × zM} (h : f_X7_init a0 M = some r) : CP L l yX7_init cX7_init 1 (none : Option FieldType) 5 M [.ref (zad L (a0))] none r.2 :=
  CP.of ⟨by decide +kernel, by decide +kernel⟩ (Nat.le_of_ble_eq_true rfl) fun X Q hq => s_X7_init_0 hq h
/-! WindsparlourModel.thrown()I -/
theorem dX7_thrown_0 : decode cX7_thrown 0 = .ok (.aload_n 0, 1) := by decide +kernel
theorem dX7_thrown_1 : decode cX7_thrown 1 = .ok (.getfield 65, 3) := by decide +kernel
theorem dX7_thrown_4 : decode cX7_thrown 4 = .ok (.ireturn, 1) := by decide +kernel
def f_X7_thrown_0 (a0 : Nat) (M : zM) : Option (Int32 × zM) :=
  (gI 13 0 M a0).bind fun v1 =>
  some (v1, M)
set_option maxRecDepth 20000 in
set_option maxHeartbeats 4000000 in
theorem s_X7_thrown_0 {L : zL} {X : zX} {M0 : zM} {N : Nat × Nat} {Q : State → Prop} {r : Int32 × zM} (hq : vQ L X M0 N Q (some (.int r.1)) r.2) {a0 : Nat} {M : zM} (h : f_X7_thrown_0 a0 M = some r) : V L X yX7_thrown cX7_thrown 1 (some FieldType.int) 1 M0 N Q M 0 [(0, .ref (zad L (a0)))] [] := by
  unfold f_X7_thrown_0 at h
  refine V_aload_n dX7_thrown_0 rfl 0 rfl ?_
  replace h := ob h
  obtain ⟨v1, e_v1, h⟩ := h
  refine V_getI zf_13_0 zl_X7_65 e_v1 dX7_thrown_1 ?_
  refine V_pc (pc' := 4) rfl ?_
  obtain rfl := Option.some.inj h
  exact V_iret rfl hq dX7_thrown_4
def f_X7_thrown (a0 : Nat) (M : zM) : Option (Int32 × zM) := f_X7_thrown_0 a0 M
theorem c_X7_thrown {L : zL} {l : Launch} {a0 : Nat} {M : zM} {r : Int32 × zM} (h : f_X7_thrown a0 M = some r) : CP L l yX7_thrown cX7_thrown 1 (some FieldType.int) 1 M [.ref (zad L (a0))] (some (.int r.1)) r.2 :=
  CP.of ⟨by decide +kernel, by decide +kernel⟩ (Nat.le_of_ble_eq_true rfl) fun X Q hq => s_X7_thrown_0 hq h
/-! WindsparlourModel.refuse(ZI)Z -/
theorem dX7_refuse_0 : decode cX7_refuse 0 = .ok (.iload_n 1, 1) := by decide +kernel
theorem dX7_refuse_1 : decode cX7_refuse 1 = .ok (.ifCond .eq 15, 3) := by decide +kernel
theorem dX7_refuse_4 : decode cX7_refuse 4 = .ok (.aload_n 0, 1) := by decide +kernel
theorem dX7_refuse_5 : decode cX7_refuse 5 = .ok (.getfield 65, 3) := by decide +kernel
theorem dX7_refuse_8 : decode cX7_refuse 8 = .ok (.ifCond .ne 8, 3) := by decide +kernel
theorem dX7_refuse_11 : decode cX7_refuse 11 = .ok (.aload_n 0, 1) := by decide +kernel
theorem dX7_refuse_12 : decode cX7_refuse 12 = .ok (.iload_n 2, 1) := by decide +kernel
theorem dX7_refuse_13 : decode cX7_refuse 13 = .ok (.putfield 65, 3) := by decide +kernel
theorem dX7_refuse_16 : decode cX7_refuse 16 = .ok (.aload_n 0, 1) := by decide +kernel
theorem dX7_refuse_17 : decode cX7_refuse 17 = .ok (.getfield 65, 3) := by decide +kernel
theorem dX7_refuse_20 : decode cX7_refuse 20 = .ok (.ifCond .le 7, 3) := by decide +kernel
theorem dX7_refuse_23 : decode cX7_refuse 23 = .ok (.iconst 1, 1) := by decide +kernel
theorem dX7_refuse_24 : decode cX7_refuse 24 = .ok (.goto 4, 3) := by decide +kernel
theorem dX7_refuse_27 : decode cX7_refuse 27 = .ok (.iconst 0, 1) := by decide +kernel
theorem dX7_refuse_28 : decode cX7_refuse 28 = .ok (.ireturn, 1) := by decide +kernel
def f_X7_refuse_16 (a0 : Nat) (M : zM) : Option (Int32 × zM) :=
  (gI 13 0 M a0).bind fun v1 =>
  if v1 ≤ 0 then
  some ((0 : Int32), M)
  else
  some ((1 : Int32), M)
set_option maxRecDepth 20000 in
set_option maxHeartbeats 4000000 in
theorem s_X7_refuse_16 {L : zL} {X : zX} {M0 : zM} {N : Nat × Nat} {Q : State → Prop} {r : Int32 × zM} (hq : vQ L X M0 N Q (some (.int r.1)) r.2) {a0 : Nat} {M : zM} (h : f_X7_refuse_16 a0 M = some r) : V L X yX7_refuse cX7_refuse 3 (some FieldType.boolean) 1 M0 N Q M 16 [(0, .ref (zad L (a0)))] [] := by
  unfold f_X7_refuse_16 at h
  refine V_aload_n dX7_refuse_16 rfl 0 rfl ?_
  replace h := ob h
  obtain ⟨v1, e_v1, h⟩ := h
  refine V_getI zf_13_0 zl_X7_65 e_v1 dX7_refuse_17 ?_
  refine V_pc (pc' := 20) rfl ?_
  refine V_if_le (tgt := 27) dX7_refuse_20 (by decide) (fun c2 => ?_) (fun c2 => ?_)
  · replace h := (oi h).1 c2
    refine V_iconst (v := 0) dX7_refuse_27 (by decide) ?_
    obtain rfl := Option.some.inj h
    exact V_zret (ty := .boolean) rfl rfl hq dX7_refuse_28
  · replace h := (oi h).2 c2
    refine V_iconst (v := 1) dX7_refuse_23 (by decide) ?_
    refine V_goto (tgt := 28) dX7_refuse_24 (by decide) ?_
    obtain rfl := Option.some.inj h
    exact V_zret (ty := .boolean) rfl rfl hq dX7_refuse_28
def f_X7_refuse_0 (a0 : Nat) (i1 : Int32) (i2 : Int32) (M : zM) : Option (Int32 × zM) :=
  if i1 = 0 then
  f_X7_refuse_16 a0 M
  else
  (gI 13 0 M a0).bind fun v1 =>
  if v1 = 0 then
  (pI 13 0 M a0 i2).bind fun M2 =>
  f_X7_refuse_16 a0 M2
  else
  f_X7_refuse_16 a0 M
set_option maxRecDepth 20000 in
set_option maxHeartbeats 4000000 in
theorem s_X7_refuse_0 {L : zL} {X : zX} {M0 : zM} {N : Nat × Nat} {Q : State → Prop} {r : Int32 × zM} (hq : vQ L X M0 N Q (some (.int r.1)) r.2) {a0 : Nat} {i1 : Int32} {i2 : Int32} {M : zM} (h : f_X7_refuse_0 a0 i1 i2 M = some r) : V L X yX7_refuse cX7_refuse 3 (some FieldType.boolean) 1 M0 N Q M 0 [(0, .ref (zad L (a0))), (1, .int (i1)), (2, .int (i2))] [] := by
  unfold f_X7_refuse_0 at h
  refine V_iload_n dX7_refuse_0 rfl 1 rfl ?_
  refine V_if_eq (tgt := 16) dX7_refuse_1 (by decide) (fun c4 => ?_) (fun c4 => ?_)
  · replace h := (oi h).1 c4
    refine V_sub [0] rfl ?_
    exact s_X7_refuse_16 hq h
  · replace h := (oi h).2 c4
    refine V_aload_n dX7_refuse_4 rfl 0 rfl ?_
    replace h := ob h
    obtain ⟨v1, e_v1, h⟩ := h
    refine V_getI zf_13_0 zl_X7_65 e_v1 dX7_refuse_5 ?_
    refine V_pc (pc' := 8) rfl ?_
    refine V_if_ne (tgt := 16) dX7_refuse_8 (by decide) (fun c3 => ?_) (fun c3 => ?_)
    · replace h := (oi h).2 c3
      refine V_sub [0] rfl ?_
      exact s_X7_refuse_16 hq h
    · replace h := (oi h).1 c3
      refine V_aload_n dX7_refuse_11 rfl 0 rfl ?_
      refine V_iload_n dX7_refuse_12 rfl 2 rfl ?_
      replace h := ob h
      obtain ⟨M2, e_M2, h⟩ := h
      refine V_putI zf_13_0 zl_X7_65 (Or.inl rfl) rfl e_M2 dX7_refuse_13 ?_
      refine V_pc (pc' := 16) rfl ?_
      refine V_sub [0] rfl ?_
      exact s_X7_refuse_16 hq h
def f_X7_refuse (a0 : Nat) (i1 : Int32) (i2 : Int32) (M : zM) : Option (Int32 × zM) := f_X7_refuse_0 a0 i1 i2 M
theorem c_X7_refuse {L : zL} {l : Launch} {a0 : Nat} {i1 : Int32} {i2 : Int32} {M : zM} {r : Int32 × zM} (h : f_X7_refuse a0 i1 i2 M = some r) : CP L l yX7_refuse cX7_refuse 3 (some FieldType.boolean) 1 M [.ref (zad L (a0)), .int (i1), .int (i2)] (some (.int r.1)) r.2 :=
  CP.of ⟨by decide +kernel, by decide +kernel⟩ (Nat.le_of_ble_eq_true rfl) fun X Q hq => s_X7_refuse_0 hq h
/-! WindsparlourModel.start(ZI)Z -/
theorem dX7_start_0 : decode cX7_start 0 = .ok (.aload_n 0, 1) := by decide +kernel
theorem dX7_start_1 : decode cX7_start 1 = .ok (.iconst 0, 1) := by decide +kernel
theorem dX7_start_2 : decode cX7_start 2 = .ok (.putfield 65, 3) := by decide +kernel
theorem dX7_start_5 : decode cX7_start 5 = .ok (.aload_n 0, 1) := by decide +kernel
theorem dX7_start_6 : decode cX7_start 6 = .ok (.iload_n 1, 1) := by decide +kernel
theorem dX7_start_7 : decode cX7_start 7 = .ok (.iload_n 2, 1) := by decide +kernel
theorem dX7_start_8 : decode cX7_start 8 = .ok (.invokevirtual 68, 3) := by decide +kernel
theorem dX7_start_11 : decode cX7_start 11 = .ok (.ireturn, 1) := by decide +kernel
def f_X7_start_0 (a0 : Nat) (i1 : Int32) (i2 : Int32) (M : zM) : Option (Int32 × zM) :=
  (pI 13 0 M a0 ((0 : Int32))).bind fun M1 =>
  if mK M1 a0 = 13 then
  (f_X7_refuse a0 i1 i2 M1).bind fun r2 =>
  if r2.1 = 0 ∨ r2.1 = 1 then some (r2.1, r2.2) else none
  else none
set_option maxRecDepth 20000 in
set_option maxHeartbeats 4000000 in
theorem s_X7_start_0 {L : zL} {X : zX} {M0 : zM} {N : Nat × Nat} {Q : State → Prop} {r : Int32 × zM} (hq : vQ L X M0 N Q (some (.int r.1)) r.2) {a0 : Nat} {i1 : Int32} {i2 : Int32} {M : zM} (h : f_X7_start_0 a0 i1 i2 M = some r) : V L X yX7_start cX7_start 3 (some FieldType.boolean) 2 M0 N Q M 0 [(0, .ref (zad L (a0))), (1, .int (i1)), (2, .int (i2))] [] := by
  unfold f_X7_start_0 at h
  refine V_aload_n dX7_start_0 rfl 0 rfl ?_
  refine V_iconst (v := 0) dX7_start_1 (by decide) ?_
  replace h := ob h
  obtain ⟨M1, e_M1, h⟩ := h
  refine V_putI zf_13_0 zl_X7_65 (Or.inl rfl) rfl e_M1 dX7_start_2 ?_
  refine V_pc (pc' := 5) rfl ?_
  refine V_aload_n dX7_start_5 rfl 0 rfl ?_
  refine V_iload_n dX7_start_6 rfl 1 rfl ?_
  refine V_iload_n dX7_start_7 rfl 2 rfl ?_
  replace h := ox h
  obtain ⟨c3, h⟩ := h
  replace h := ob h
  obtain ⟨r2, e_r2, h⟩ := h
  refine V_callV_I (As := [.int (i1), .int (i2)]) (rest := []) (c_X7_refuse e_r2) zc_X7_refuse rfl (by decide) rfl (by decide) (Or.inl c3) zm_X7_68 (Nat.le_of_ble_eq_true rfl) rfl dX7_start_8 ?_
  refine V_pc (pc' := 11) rfl ?_
  replace h := ox h
  obtain ⟨c4, h⟩ := h
  obtain rfl := Option.some.inj h
  exact V_zret (ty := .boolean) rfl (by rcases c4 with e | e <;> rw [e] <;> rfl) hq dX7_start_11
def f_X7_start (a0 : Nat) (i1 : Int32) (i2 : Int32) (M : zM) : Option (Int32 × zM) := f_X7_start_0 a0 i1 i2 M
theorem c_X7_start {L : zL} {l : Launch} {a0 : Nat} {i1 : Int32} {i2 : Int32} {M : zM} {r : Int32 × zM} (h : f_X7_start a0 i1 i2 M = some r) : CP L l yX7_start cX7_start 3 (some FieldType.boolean) 2 M [.ref (zad L (a0)), .int (i1), .int (i2)] (some (.int r.1)) r.2 :=
  CP.of ⟨by decide +kernel, by decide +kernel⟩ (Nat.le_of_ble_eq_true rfl) fun X Q hq => s_X7_start_0 hq h
/-! WindsparlourModel.isNoPlayer(I)Z -/
theorem dX7_isNoPlayer_0 : decode cX7_isNoPlayer 0 = .ok (.iload_n 0, 1) := by decide +kernel
theorem dX7_isNoPlayer_1 : decode cX7_isNoPlayer 1 = .ok (.iconst 0, 1) := by decide +kernel
theorem dX7_isNoPlayer_2 : decode cX7_isNoPlayer 2 = .ok (.iconst 3, 1) := by decide +kernel
theorem dX7_isNoPlayer_3 : decode cX7_isNoPlayer 3 = .ok (.invokestatic 3, 3) := by decide +kernel
theorem dX7_isNoPlayer_6 : decode cX7_isNoPlayer 6 = .ok (.ifCond .ne 7, 3) := by decide +kernel
theorem dX7_isNoPlayer_9 : decode cX7_isNoPlayer 9 = .ok (.iconst 1, 1) := by decide +kernel
theorem dX7_isNoPlayer_10 : decode cX7_isNoPlayer 10 = .ok (.goto 4, 3) := by decide +kernel
theorem dX7_isNoPlayer_13 : decode cX7_isNoPlayer 13 = .ok (.iconst 0, 1) := by decide +kernel
theorem dX7_isNoPlayer_14 : decode cX7_isNoPlayer 14 = .ok (.ireturn, 1) := by decide +kernel
def f_X7_isNoPlayer_0 (i0 : Int32) (M : zM) : Option (Int32 × zM) :=
  (f_X7_isIn i0 ((0 : Int32)) ((3 : Int32)) M).bind fun r1 =>
  if r1.1 = 0 then
  some ((1 : Int32), r1.2)
  else
  some ((0 : Int32), r1.2)
set_option maxRecDepth 20000 in
set_option maxHeartbeats 4000000 in
theorem s_X7_isNoPlayer_0 {L : zL} {X : zX} {M0 : zM} {N : Nat × Nat} {Q : State → Prop} {r : Int32 × zM} (hq : vQ L X M0 N Q (some (.int r.1)) r.2) {i0 : Int32} {M : zM} (h : f_X7_isNoPlayer_0 i0 M = some r) : V L X yX7_isNoPlayer cX7_isNoPlayer 1 (some FieldType.boolean) 2 M0 N Q M 0 [(0, .int (i0))] [] := by
  unfold f_X7_isNoPlayer_0 at h
  refine V_iload_n dX7_isNoPlayer_0 rfl 0 rfl ?_
  refine V_iconst (v := 0) dX7_isNoPlayer_1 (by decide) ?_
  refine V_iconst (v := 3) dX7_isNoPlayer_2 (by decide) ?_
  replace h := ob h
  obtain ⟨r1, e_r1, h⟩ := h
  refine V_callS_I (As := [.int (i0), .int ((0 : Int32)), .int ((3 : Int32))]) (rest := []) (c_X7_isIn e_r1) zc_X7_isIn rfl (by decide) zm_X7_3 (Nat.le_of_ble_eq_true rfl) rfl dX7_isNoPlayer_3 ?_
  refine V_pc (pc' := 6) rfl ?_
  refine V_if_ne (tgt := 13) dX7_isNoPlayer_6 (by decide) (fun c2 => ?_) (fun c2 => ?_)
  · replace h := (oi h).2 c2
    refine V_iconst (v := 0) dX7_isNoPlayer_13 (by decide) ?_
    obtain rfl := Option.some.inj h
    exact V_zret (ty := .boolean) rfl rfl hq dX7_isNoPlayer_14
  · replace h := (oi h).1 c2
    refine V_iconst (v := 1) dX7_isNoPlayer_9 (by decide) ?_
    refine V_goto (tgt := 14) dX7_isNoPlayer_10 (by decide) ?_
    obtain rfl := Option.some.inj h
    exact V_zret (ty := .boolean) rfl rfl hq dX7_isNoPlayer_14
def f_X7_isNoPlayer (i0 : Int32) (M : zM) : Option (Int32 × zM) := f_X7_isNoPlayer_0 i0 M
theorem c_X7_isNoPlayer {L : zL} {l : Launch} {i0 : Int32} {M : zM} {r : Int32 × zM} (h : f_X7_isNoPlayer i0 M = some r) : CP L l yX7_isNoPlayer cX7_isNoPlayer 1 (some FieldType.boolean) 2 M [.int (i0)] (some (.int r.1)) r.2 :=
  CP.of ⟨by decide +kernel, by decide +kernel⟩ (Nat.le_of_ble_eq_true rfl) fun X Q hq => s_X7_isNoPlayer_0 hq h
/-! WindsparlourModel.left()I -/
theorem dX7_left_0 : decode cX7_left 0 = .ok (.aload_n 0, 1) := by decide +kernel
theorem dX7_left_1 : decode cX7_left 1 = .ok (.getfield 53, 3) := by decide +kernel
theorem dX7_left_4 : decode cX7_left 4 = .ok (.iconst (-1), 1) := by decide +kernel
theorem dX7_left_5 : decode cX7_left 5 = .ok (.if_icmp .ne 7, 3) := by decide +kernel
theorem dX7_left_8 : decode cX7_left 8 = .ok (.iconst 0, 1) := by decide +kernel
theorem dX7_left_9 : decode cX7_left 9 = .ok (.goto 14, 3) := by decide +kernel
theorem dX7_left_12 : decode cX7_left 12 = .ok (.aload_n 0, 1) := by decide +kernel
theorem dX7_left_13 : decode cX7_left 13 = .ok (.getfield 72, 3) := by decide +kernel
theorem dX7_left_16 : decode cX7_left 16 = .ok (.aload_n 0, 1) := by decide +kernel
theorem dX7_left_17 : decode cX7_left 17 = .ok (.getfield 75, 3) := by decide +kernel
theorem dX7_left_20 : decode cX7_left 20 = .ok (.isub, 1) := by decide +kernel
theorem dX7_left_21 : decode cX7_left 21 = .ok (.iconst 1, 1) := by decide +kernel
theorem dX7_left_22 : decode cX7_left 22 = .ok (.iadd, 1) := by decide +kernel
theorem dX7_left_23 : decode cX7_left 23 = .ok (.ireturn, 1) := by decide +kernel
def f_X7_left_0 (a0 : Nat) (M : zM) : Option (Int32 × zM) :=
  (gI 13 8 M a0).bind fun v1 =>
  if v1 = ((-1 : Int32)) then
  some ((0 : Int32), M)
  else
  (gI 13 4 M a0).bind fun v2 =>
  (gI 13 3 M a0).bind fun v3 =>
  some ((((v2 - v3)) + ((1 : Int32))), M)
set_option maxRecDepth 20000 in
set_option maxHeartbeats 4000000 in
theorem s_X7_left_0 {L : zL} {X : zX} {M0 : zM} {N : Nat × Nat} {Q : State → Prop} {r : Int32 × zM} (hq : vQ L X M0 N Q (some (.int r.1)) r.2) {a0 : Nat} {M : zM} (h : f_X7_left_0 a0 M = some r) : V L X yX7_left cX7_left 1 (some FieldType.int) 1 M0 N Q M 0 [(0, .ref (zad L (a0)))] [] := by
  unfold f_X7_left_0 at h
  refine V_aload_n dX7_left_0 rfl 0 rfl ?_
  replace h := ob h
  obtain ⟨v1, e_v1, h⟩ := h
  refine V_getI zf_13_8 zl_X7_53 e_v1 dX7_left_1 ?_
  refine V_pc (pc' := 4) rfl ?_
  refine V_iconst (v := -1) dX7_left_4 (by decide) ?_
  refine V_icmp_ne (tgt := 12) dX7_left_5 (by decide) (fun c4 => ?_) (fun c4 => ?_)
  · replace h := (oi h).2 c4
    refine V_aload_n dX7_left_12 rfl 0 rfl ?_
    replace h := ob h
    obtain ⟨v2, e_v2, h⟩ := h
    refine V_getI zf_13_4 zl_X7_72 e_v2 dX7_left_13 ?_
    refine V_pc (pc' := 16) rfl ?_
    refine V_aload_n dX7_left_16 rfl 0 rfl ?_
    replace h := ob h
    obtain ⟨v3, e_v3, h⟩ := h
    refine V_getI zf_13_3 zl_X7_75 e_v3 dX7_left_17 ?_
    refine V_pc (pc' := 20) rfl ?_
    refine V_isub dX7_left_20 ?_
    refine V_iconst (v := 1) dX7_left_21 (by decide) ?_
    refine V_iadd dX7_left_22 ?_
    obtain rfl := Option.some.inj h
    exact V_iret rfl hq dX7_left_23
  · replace h := (oi h).1 c4
    refine V_iconst (v := 0) dX7_left_8 (by decide) ?_
    refine V_goto (tgt := 23) dX7_left_9 (by decide) ?_
    obtain rfl := Option.some.inj h
    exact V_iret rfl hq dX7_left_23
def f_X7_left (a0 : Nat) (M : zM) : Option (Int32 × zM) := f_X7_left_0 a0 M
theorem c_X7_left {L : zL} {l : Launch} {a0 : Nat} {M : zM} {r : Int32 × zM} (h : f_X7_left a0 M = some r) : CP L l yX7_left cX7_left 1 (some FieldType.int) 1 M [.ref (zad L (a0))] (some (.int r.1)) r.2 :=
  CP.of ⟨by decide +kernel, by decide +kernel⟩ (Nat.le_of_ble_eq_true rfl) fun X Q hq => s_X7_left_0 hq h
/-! WindsparlourModel.canDraw()Z -/
theorem dX7_canDraw_0 : decode cX7_canDraw 0 = .ok (.aload_n 0, 1) := by decide +kernel
theorem dX7_canDraw_1 : decode cX7_canDraw 1 = .ok (.invokevirtual 78, 3) := by decide +kernel
theorem dX7_canDraw_4 : decode cX7_canDraw 4 = .ok (.bipush 24, 2) := by decide +kernel
theorem dX7_canDraw_6 : decode cX7_canDraw 6 = .ok (.if_icmp .le 7, 3) := by decide +kernel
theorem dX7_canDraw_9 : decode cX7_canDraw 9 = .ok (.iconst 1, 1) := by decide +kernel
theorem dX7_canDraw_10 : decode cX7_canDraw 10 = .ok (.goto 4, 3) := by decide +kernel
theorem dX7_canDraw_13 : decode cX7_canDraw 13 = .ok (.iconst 0, 1) := by decide +kernel
theorem dX7_canDraw_14 : decode cX7_canDraw 14 = .ok (.ireturn, 1) := by decide +kernel
def f_X7_canDraw_0 (a0 : Nat) (M : zM) : Option (Int32 × zM) :=
  if mK M a0 = 13 then
  (f_X7_left a0 M).bind fun r1 =>
  if r1.1 ≤ ((24 : Int32)) then
  some ((0 : Int32), r1.2)
  else
  some ((1 : Int32), r1.2)
  else none
set_option maxRecDepth 20000 in
set_option maxHeartbeats 4000000 in
theorem s_X7_canDraw_0 {L : zL} {X : zX} {M0 : zM} {N : Nat × Nat} {Q : State → Prop} {r : Int32 × zM} (hq : vQ L X M0 N Q (some (.int r.1)) r.2) {a0 : Nat} {M : zM} (h : f_X7_canDraw_0 a0 M = some r) : V L X yX7_canDraw cX7_canDraw 1 (some FieldType.boolean) 2 M0 N Q M 0 [(0, .ref (zad L (a0)))] [] := by
  unfold f_X7_canDraw_0 at h
  refine V_aload_n dX7_canDraw_0 rfl 0 rfl ?_
  replace h := ox h
  obtain ⟨c2, h⟩ := h
  replace h := ob h
  obtain ⟨r1, e_r1, h⟩ := h
  refine V_callV_I (As := []) (rest := []) (c_X7_left e_r1) zc_X7_left rfl (by decide) rfl (by decide) (Or.inl c2) zm_X7_78 (Nat.le_of_ble_eq_true rfl) rfl dX7_canDraw_1 ?_
  refine V_pc (pc' := 4) rfl ?_
  refine V_bipush (v := 24) dX7_canDraw_4 (by decide) ?_
  refine V_icmp_le (tgt := 13) dX7_canDraw_6 (by decide) (fun c3 => ?_) (fun c3 => ?_)
  · replace h := (oi h).1 c3
    refine V_iconst (v := 0) dX7_canDraw_13 (by decide) ?_
    obtain rfl := Option.some.inj h
    exact V_zret (ty := .boolean) rfl rfl hq dX7_canDraw_14
  · replace h := (oi h).2 c3
    refine V_iconst (v := 1) dX7_canDraw_9 (by decide) ?_
    refine V_goto (tgt := 14) dX7_canDraw_10 (by decide) ?_
    obtain rfl := Option.some.inj h
    exact V_zret (ty := .boolean) rfl rfl hq dX7_canDraw_14
def f_X7_canDraw (a0 : Nat) (M : zM) : Option (Int32 × zM) := f_X7_canDraw_0 a0 M
theorem c_X7_canDraw {L : zL} {l : Launch} {a0 : Nat} {M : zM} {r : Int32 × zM} (h : f_X7_canDraw a0 M = some r) : CP L l yX7_canDraw cX7_canDraw 1 (some FieldType.boolean) 2 M [.ref (zad L (a0))] (some (.int r.1)) r.2 :=
  CP.of ⟨by decide +kernel, by decide +kernel⟩ (Nat.le_of_ble_eq_true rfl) fun X Q hq => s_X7_canDraw_0 hq h
/-! WindsparlourModel.its()LWindsparlourModel$Player; -/
theorem dX7_its_0 : decode cX7_its 0 = .ok (.aload_n 0, 1) := by decide +kernel
theorem dX7_its_1 : decode cX7_its 1 = .ok (.getfield 38, 3) := by decide +kernel
theorem dX7_its_4 : decode cX7_its 4 = .ok (.aload_n 0, 1) := by decide +kernel
theorem dX7_its_5 : decode cX7_its 5 = .ok (.getfield 82, 3) := by decide +kernel
theorem dX7_its_8 : decode cX7_its 8 = .ok (.aaload, 1) := by decide +kernel
theorem dX7_its_9 : decode cX7_its 9 = .ok (.areturn, 1) := by decide +kernel
def f_X7_its_0 (a0 : Nat) (M : zM) : Option (Nat × zM) :=
  (gR 13 1 M a0).bind fun v1 =>
  (gI 13 7 M a0).bind fun v2 =>
  (lQ 2 M v1 v2).bind fun v3 =>
  some (v3, M)
set_option maxRecDepth 20000 in
set_option maxHeartbeats 4000000 in
theorem s_X7_its_0 {L : zL} {X : zX} {M0 : zM} {N : Nat × Nat} {Q : State → Prop} {r : Nat × zM} (hq : vQ L X M0 N Q (some (.ref (zad L r.1))) r.2) {a0 : Nat} {M : zM} (h : f_X7_its_0 a0 M = some r) : V L X yX7_its cX7_its 1 (Option.some (FieldType.object "WindsparlourModel$Player")) 1 M0 N Q M 0 [(0, .ref (zad L (a0)))] [] := by
  unfold f_X7_its_0 at h
  refine V_aload_n dX7_its_0 rfl 0 rfl ?_
  replace h := ob h
  obtain ⟨v1, e_v1, h⟩ := h
  refine V_getR zf_13_1 zl_X7_38 e_v1 dX7_its_1 ?_
  refine V_pc (pc' := 4) rfl ?_
  refine V_aload_n dX7_its_4 rfl 0 rfl ?_
  replace h := ob h
  obtain ⟨v2, e_v2, h⟩ := h
  refine V_getI zf_13_7 zl_X7_82 e_v2 dX7_its_5 ?_
  refine V_pc (pc' := 8) rfl ?_
  replace h := ob h
  obtain ⟨v3, e_v3, h⟩ := h
  refine V_aald (by decide) e_v3 dX7_its_8 ?_
  refine V_pc (pc' := 9) rfl ?_
  obtain rfl := Option.some.inj h
  exact V_aret rfl (by first | exact Or.inl ⟨_, rfl⟩ | exact Or.inr ⟨_, rfl⟩) hq dX7_its_9
def f_X7_its (a0 : Nat) (M : zM) : Option (Nat × zM) := f_X7_its_0 a0 M
theorem c_X7_its {L : zL} {l : Launch} {a0 : Nat} {M : zM} {r : Nat × zM} (h : f_X7_its a0 M = some r) : CP L l yX7_its cX7_its 1 (Option.some (FieldType.object "WindsparlourModel$Player")) 1 M [.ref (zad L (a0))] (some (.ref (zad L r.1))) r.2 :=
  CP.of ⟨by decide +kernel, by decide +kernel⟩ (Nat.le_of_ble_eq_true rfl) fun X Q hq => s_X7_its_0 hq h
/-! WindsparlourModel.lay(II)I -/
theorem dX7_lay_0 : decode cX7_lay 0 = .ok (.aload_n 0, 1) := by decide +kernel
theorem dX7_lay_1 : decode cX7_lay 1 = .ok (.iload_n 1, 1) := by decide +kernel
theorem dX7_lay_2 : decode cX7_lay 2 = .ok (.iconst 1, 1) := by decide +kernel
theorem dX7_lay_3 : decode cX7_lay 3 = .ok (.bipush 99, 2) := by decide +kernel
theorem dX7_lay_5 : decode cX7_lay 5 = .ok (.invokestatic 3, 3) := by decide +kernel
theorem dX7_lay_8 : decode cX7_lay 8 = .ok (.ifCond .eq 25, 3) := by decide +kernel
theorem dX7_lay_11 : decode cX7_lay 11 = .ok (.iload_n 1, 1) := by decide +kernel
theorem dX7_lay_12 : decode cX7_lay 12 = .ok (.iconst 2, 1) := by decide +kernel
theorem dX7_lay_13 : decode cX7_lay 13 = .ok (.irem, 1) := by decide +kernel
theorem dX7_lay_14 : decode cX7_lay 14 = .ok (.ifCond .eq 19, 3) := by decide +kernel
theorem dX7_lay_17 : decode cX7_lay 17 = .ok (.iload_n 1, 1) := by decide +kernel
theorem dX7_lay_18 : decode cX7_lay 18 = .ok (.iconst 5, 1) := by decide +kernel
theorem dX7_lay_19 : decode cX7_lay 19 = .ok (.irem, 1) := by decide +kernel
theorem dX7_lay_20 : decode cX7_lay 20 = .ok (.ifCond .eq 13, 3) := by decide +kernel
theorem dX7_lay_23 : decode cX7_lay 23 = .ok (.iload_n 2, 1) := by decide +kernel
theorem dX7_lay_24 : decode cX7_lay 24 = .ok (.iconst 0, 1) := by decide +kernel
theorem dX7_lay_25 : decode cX7_lay 25 = .ok (.bipush 99, 2) := by decide +kernel
theorem dX7_lay_27 : decode cX7_lay 27 = .ok (.invokestatic 3, 3) := by decide +kernel
theorem dX7_lay_30 : decode cX7_lay 30 = .ok (.ifCond .ne 7, 3) := by decide +kernel
theorem dX7_lay_33 : decode cX7_lay 33 = .ok (.iconst 1, 1) := by decide +kernel
theorem dX7_lay_34 : decode cX7_lay 34 = .ok (.goto 4, 3) := by decide +kernel
theorem dX7_lay_37 : decode cX7_lay 37 = .ok (.iconst 0, 1) := by decide +kernel
theorem dX7_lay_38 : decode cX7_lay 38 = .ok (.iconst 1, 1) := by decide +kernel
theorem dX7_lay_39 : decode cX7_lay 39 = .ok (.invokevirtual 85, 3) := by decide +kernel
theorem dX7_lay_42 : decode cX7_lay 42 = .ok (.ifCond .ne 24, 3) := by decide +kernel
theorem dX7_lay_45 : decode cX7_lay 45 = .ok (.aload_n 0, 1) := by decide +kernel
theorem dX7_lay_46 : decode cX7_lay 46 = .ok (.aload_n 0, 1) := by decide +kernel
theorem dX7_lay_47 : decode cX7_lay 47 = .ok (.getfield 50, 3) := by decide +kernel
theorem dX7_lay_50 : decode cX7_lay 50 = .ok (.iconst 3, 1) := by decide +kernel
theorem dX7_lay_51 : decode cX7_lay 51 = .ok (.if_icmp .eq 7, 3) := by decide +kernel
theorem dX7_lay_54 : decode cX7_lay 54 = .ok (.iconst 1, 1) := by decide +kernel
theorem dX7_lay_55 : decode cX7_lay 55 = .ok (.goto 4, 3) := by decide +kernel
theorem dX7_lay_58 : decode cX7_lay 58 = .ok (.iconst 0, 1) := by decide +kernel
theorem dX7_lay_59 : decode cX7_lay 59 = .ok (.iconst 2, 1) := by decide +kernel
theorem dX7_lay_60 : decode cX7_lay 60 = .ok (.invokevirtual 68, 3) := by decide +kernel
theorem dX7_lay_63 : decode cX7_lay 63 = .ok (.ifCond .eq 5, 3) := by decide +kernel
theorem dX7_lay_66 : decode cX7_lay 66 = .ok (.iconst 0, 1) := by decide +kernel
theorem dX7_lay_67 : decode cX7_lay 67 = .ok (.ireturn, 1) := by decide +kernel
theorem dX7_lay_68 : decode cX7_lay 68 = .ok (.iconst 0, 1) := by decide +kernel
theorem dX7_lay_69 : decode cX7_lay 69 = .ok (.istore_n 3, 1) := by decide +kernel
theorem dX7_lay_70 : decode cX7_lay 70 = .ok (.iload_n 3, 1) := by decide +kernel
theorem dX7_lay_71 : decode cX7_lay 71 = .ok (.bipush 100, 2) := by decide +kernel
theorem dX7_lay_73 : decode cX7_lay 73 = .ok (.if_icmp .ge 25, 3) := by decide +kernel
theorem dX7_lay_76 : decode cX7_lay 76 = .ok (.aload_n 0, 1) := by decide +kernel
theorem dX7_lay_77 : decode cX7_lay 77 = .ok (.getfield 42, 3) := by decide +kernel
theorem dX7_lay_80 : decode cX7_lay 80 = .ok (.iload_n 3, 1) := by decide +kernel
theorem dX7_lay_81 : decode cX7_lay 81 = .ok (.iload_n 1, 1) := by decide +kernel
theorem dX7_lay_82 : decode cX7_lay 82 = .ok (.iload_n 3, 1) := by decide +kernel
theorem dX7_lay_83 : decode cX7_lay 83 = .ok (.imul, 1) := by decide +kernel
theorem dX7_lay_84 : decode cX7_lay 84 = .ok (.iload_n 2, 1) := by decide +kernel
theorem dX7_lay_85 : decode cX7_lay 85 = .ok (.iadd, 1) := by decide +kernel
theorem dX7_lay_86 : decode cX7_lay 86 = .ok (.bipush 100, 2) := by decide +kernel
theorem dX7_lay_88 : decode cX7_lay 88 = .ok (.irem, 1) := by decide +kernel
theorem dX7_lay_89 : decode cX7_lay 89 = .ok (.iconst 4, 1) := by decide +kernel
theorem dX7_lay_90 : decode cX7_lay 90 = .ok (.idiv, 1) := by decide +kernel
theorem dX7_lay_91 : decode cX7_lay 91 = .ok (.iastore, 1) := by decide +kernel
theorem dX7_lay_92 : decode cX7_lay 92 = .ok (.iinc 3 1, 3) := by decide +kernel
theorem dX7_lay_95 : decode cX7_lay 95 = .ok (.goto (-25), 3) := by decide +kernel
theorem dX7_lay_98 : decode cX7_lay 98 = .ok (.aload_n 0, 1) := by decide +kernel
theorem dX7_lay_99 : decode cX7_lay 99 = .ok (.aload_n 0, 1) := by decide +kernel
theorem dX7_lay_100 : decode cX7_lay 100 = .ok (.getfield 88, 3) := by decide +kernel
theorem dX7_lay_103 : decode cX7_lay 103 = .ok (.iconst 4, 1) := by decide +kernel
theorem dX7_lay_104 : decode cX7_lay 104 = .ok (.irem, 1) := by decide +kernel
theorem dX7_lay_105 : decode cX7_lay 105 = .ok (.putfield 53, 3) := by decide +kernel
theorem dX7_lay_108 : decode cX7_lay 108 = .ok (.aload_n 0, 1) := by decide +kernel
theorem dX7_lay_109 : decode cX7_lay 109 = .ok (.dup, 1) := by decide +kernel
theorem dX7_lay_110 : decode cX7_lay 110 = .ok (.getfield 88, 3) := by decide +kernel
theorem dX7_lay_113 : decode cX7_lay 113 = .ok (.iconst 1, 1) := by decide +kernel
theorem dX7_lay_114 : decode cX7_lay 114 = .ok (.iadd, 1) := by decide +kernel
theorem dX7_lay_115 : decode cX7_lay 115 = .ok (.putfield 88, 3) := by decide +kernel
theorem dX7_lay_118 : decode cX7_lay 118 = .ok (.iconst 0, 1) := by decide +kernel
theorem dX7_lay_119 : decode cX7_lay 119 = .ok (.istore_n 3, 1) := by decide +kernel
theorem dX7_lay_120 : decode cX7_lay 120 = .ok (.iload_n 3, 1) := by decide +kernel
theorem dX7_lay_121 : decode cX7_lay 121 = .ok (.iconst 4, 1) := by decide +kernel
theorem dX7_lay_122 : decode cX7_lay 122 = .ok (.if_icmp .ge 60, 3) := by decide +kernel
theorem dX7_lay_125 : decode cX7_lay 125 = .ok (.aload_n 0, 1) := by decide +kernel
theorem dX7_lay_126 : decode cX7_lay 126 = .ok (.getfield 38, 3) := by decide +kernel
theorem dX7_lay_129 : decode cX7_lay 129 = .ok (.iload_n 3, 1) := by decide +kernel
theorem dX7_lay_130 : decode cX7_lay 130 = .ok (.aaload, 1) := by decide +kernel
theorem dX7_lay_131 : decode cX7_lay 131 = .ok (.invokevirtual 91, 3) := by decide +kernel
theorem dX7_lay_134 : decode cX7_lay 134 = .ok (.iconst 0, 1) := by decide +kernel
theorem dX7_lay_135 : decode cX7_lay 135 = .ok (.istore 4, 2) := by decide +kernel
theorem dX7_lay_137 : decode cX7_lay 137 = .ok (.iload 4, 2) := by decide +kernel
theorem dX7_lay_139 : decode cX7_lay 139 = .ok (.bipush 10, 2) := by decide +kernel
theorem dX7_lay_141 : decode cX7_lay 141 = .ok (.if_icmp .ge 35, 3) := by decide +kernel
theorem dX7_lay_144 : decode cX7_lay 144 = .ok (.aload_n 0, 1) := by decide +kernel
theorem dX7_lay_145 : decode cX7_lay 145 = .ok (.getfield 38, 3) := by decide +kernel
theorem dX7_lay_148 : decode cX7_lay 148 = .ok (.iload_n 3, 1) := by decide +kernel
theorem dX7_lay_149 : decode cX7_lay 149 = .ok (.aaload, 1) := by decide +kernel
theorem dX7_lay_150 : decode cX7_lay 150 = .ok (.getfield 94, 3) := by decide +kernel
theorem dX7_lay_153 : decode cX7_lay 153 = .ok (.aload_n 0, 1) := by decide +kernel
theorem dX7_lay_154 : decode cX7_lay 154 = .ok (.getfield 42, 3) := by decide +kernel
theorem dX7_lay_157 : decode cX7_lay 157 = .ok (.bipush 10, 2) := by decide +kernel
theorem dX7_lay_159 : decode cX7_lay 159 = .ok (.iload_n 3, 1) := by decide +kernel
theorem dX7_lay_160 : decode cX7_lay 160 = .ok (.imul, 1) := by decide +kernel
theorem dX7_lay_161 : decode cX7_lay 161 = .ok (.iload 4, 2) := by decide +kernel
theorem dX7_lay_163 : decode cX7_lay 163 = .ok (.iadd, 1) := by decide +kernel
theorem dX7_lay_164 : decode cX7_lay 164 = .ok (.iaload, 1) := by decide +kernel
theorem dX7_lay_165 : decode cX7_lay 165 = .ok (.dup2, 1) := by decide +kernel
theorem dX7_lay_166 : decode cX7_lay 166 = .ok (.iaload, 1) := by decide +kernel
theorem dX7_lay_167 : decode cX7_lay 167 = .ok (.iconst 1, 1) := by decide +kernel
theorem dX7_lay_168 : decode cX7_lay 168 = .ok (.iadd, 1) := by decide +kernel
theorem dX7_lay_169 : decode cX7_lay 169 = .ok (.iastore, 1) := by decide +kernel
theorem dX7_lay_170 : decode cX7_lay 170 = .ok (.iinc 4 1, 3) := by decide +kernel
theorem dX7_lay_173 : decode cX7_lay 173 = .ok (.goto (-36), 3) := by decide +kernel
theorem dX7_lay_176 : decode cX7_lay 176 = .ok (.iinc 3 1, 3) := by decide +kernel
theorem dX7_lay_179 : decode cX7_lay 179 = .ok (.goto (-59), 3) := by decide +kernel
theorem dX7_lay_182 : decode cX7_lay 182 = .ok (.aload_n 0, 1) := by decide +kernel
theorem dX7_lay_183 : decode cX7_lay 183 = .ok (.bipush 40, 2) := by decide +kernel
theorem dX7_lay_185 : decode cX7_lay 185 = .ok (.putfield 75, 3) := by decide +kernel
theorem dX7_lay_188 : decode cX7_lay 188 = .ok (.aload_n 0, 1) := by decide +kernel
theorem dX7_lay_189 : decode cX7_lay 189 = .ok (.bipush 99, 2) := by decide +kernel
theorem dX7_lay_191 : decode cX7_lay 191 = .ok (.putfield 72, 3) := by decide +kernel
theorem dX7_lay_194 : decode cX7_lay 194 = .ok (.aload_n 0, 1) := by decide +kernel
theorem dX7_lay_195 : decode cX7_lay 195 = .ok (.aload_n 0, 1) := by decide +kernel
theorem dX7_lay_196 : decode cX7_lay 196 = .ok (.getfield 42, 3) := by decide +kernel
theorem dX7_lay_199 : decode cX7_lay 199 = .ok (.bipush 95, 2) := by decide +kernel
theorem dX7_lay_201 : decode cX7_lay 201 = .ok (.iaload, 1) := by decide +kernel
theorem dX7_lay_202 : decode cX7_lay 202 = .ok (.invokestatic 97, 3) := by decide +kernel
theorem dX7_lay_205 : decode cX7_lay 205 = .ok (.putfield 46, 3) := by decide +kernel
theorem dX7_lay_208 : decode cX7_lay 208 = .ok (.aload_n 0, 1) := by decide +kernel
theorem dX7_lay_209 : decode cX7_lay 209 = .ok (.iconst 0, 1) := by decide +kernel
theorem dX7_lay_210 : decode cX7_lay 210 = .ok (.putfield 101, 3) := by decide +kernel
theorem dX7_lay_213 : decode cX7_lay 213 = .ok (.aload_n 0, 1) := by decide +kernel
theorem dX7_lay_214 : decode cX7_lay 214 = .ok (.iconst 0, 1) := by decide +kernel
theorem dX7_lay_215 : decode cX7_lay 215 = .ok (.putfield 50, 3) := by decide +kernel
theorem dX7_lay_218 : decode cX7_lay 218 = .ok (.aload_n 0, 1) := by decide +kernel
theorem dX7_lay_219 : decode cX7_lay 219 = .ok (.aload_n 0, 1) := by decide +kernel
theorem dX7_lay_220 : decode cX7_lay 220 = .ok (.getfield 53, 3) := by decide +kernel
theorem dX7_lay_223 : decode cX7_lay 223 = .ok (.putfield 82, 3) := by decide +kernel
theorem dX7_lay_226 : decode cX7_lay 226 = .ok (.aload_n 0, 1) := by decide +kernel
theorem dX7_lay_227 : decode cX7_lay 227 = .ok (.getfield 53, 3) := by decide +kernel
theorem dX7_lay_230 : decode cX7_lay 230 = .ok (.ireturn, 1) := by decide +kernel
def f_X7_lay_137 (K120 : Nat → Int32 → zM → Option (Int32 × zM)) (n : Nat) (a0 : Nat) (i3 : Int32) (i4 : Int32) (M : zM) : Option (Int32 × zM) := match n with
  | 0 => none
  | n + 1 =>
    if ((10 : Int32)) ≤ i4 then
    K120 a0 ((i3 + (1 : Int32))) M
    else
    (gR 13 1 M a0).bind fun v1 =>
    (lQ 2 M v1 i3).bind fun v2 =>
    (gR 12 2 M v2).bind fun v3 =>
    (gR 13 2 M a0).bind fun v4 =>
    (lA 0 M v4 ((((((10 : Int32)) * i3)) + i4))).bind fun v5 =>
    (lA 0 M v3 v5).bind fun v6 =>
    (tA M v3 v5 ((v6 + ((1 : Int32))))).bind fun M7 =>
    f_X7_lay_137 K120 n a0 i3 ((i4 + (1 : Int32))) M7
set_option maxRecDepth 20000 in
set_option maxHeartbeats 4000000 in
theorem s_X7_lay_137 {L : zL} {X : zX} {M0 : zM} {N : Nat × Nat} {Q : State → Prop} {r : Int32 × zM} {K120 : Nat → Int32 → zM → Option (Int32 × zM)} (hK120 : ∀ (a0 : Nat) (i3 : Int32) (M : zM), K120 a0 i3 M = some r → V L X yX7_lay cX7_lay 5 (some FieldType.int) 3 M0 N Q M 120 [(0, .ref (zad L (a0))), (3, .int (i3))] []) (hq : vQ L X M0 N Q (some (.int r.1)) r.2) {n : Nat} {a0 : Nat} {i3 : Int32} {i4 : Int32} {M : zM} : f_X7_lay_137 K120 n a0 i3 i4 M = some r → V L X yX7_lay cX7_lay 5 (some FieldType.int) 3 M0 N Q M 137 [(0, .ref (zad L (a0))), (3, .int (i3)), (4, .int (i4))] [] := by
  induction n generalizing a0 i3 i4 M with
  | zero =>
    intro h
    rw [f_X7_lay_137] at h
    cases h
  | succ n ih0 =>
    intro h
    have ih : ∀ (a0 : Nat) (i3 : Int32) (i4 : Int32) (M : zM), f_X7_lay_137 K120 n a0 i3 i4 M = some r → V L X yX7_lay cX7_lay 5 (some FieldType.int) 3 M0 N Q M 137 [(0, .ref (zad L (a0))), (3, .int (i3)), (4, .int (i4))] [] := fun a0 i3 i4 M h => ih0 h
    rw [f_X7_lay_137] at h
    refine V_iload dX7_lay_137 2 rfl ?_
    refine V_bipush (v := 10) dX7_lay_139 (by decide) ?_
    refine V_icmp_ge (tgt := 176) dX7_lay_141 (by decide) (fun c8 => ?_) (fun c8 => ?_)
    · replace h := (oi h).1 c8
      refine V_iinc (v := i3 + (1 : Int32)) (ls' := [(3, .int ((i3 + (1 : Int32)))), (0, .ref (zad L (a0))), (4, .int (i4))]) dX7_lay_176 1 rfl (by rfl) (by decide) rfl ?_
      refine V_goto (tgt := 120) dX7_lay_179 (by decide) ?_
      refine V_sub [1, 0] rfl ?_
      exact hK120 _ _ _ h
    · replace h := (oi h).2 c8
      refine V_aload_n dX7_lay_144 rfl 0 rfl ?_
      replace h := ob h
      obtain ⟨v1, e_v1, h⟩ := h
      refine V_getR zf_13_1 zl_X7_38 e_v1 dX7_lay_145 ?_
      refine V_pc (pc' := 148) rfl ?_
      refine V_iload_n dX7_lay_148 rfl 1 rfl ?_
      replace h := ob h
      obtain ⟨v2, e_v2, h⟩ := h
      refine V_aald (by decide) e_v2 dX7_lay_149 ?_
      refine V_pc (pc' := 150) rfl ?_
      replace h := ob h
      obtain ⟨v3, e_v3, h⟩ := h
      refine V_getR zf_12_2 zl_X7_94 e_v3 dX7_lay_150 ?_
      refine V_pc (pc' := 153) rfl ?_
      refine V_aload_n dX7_lay_153 rfl 0 rfl ?_
      replace h := ob h
      obtain ⟨v4, e_v4, h⟩ := h
      refine V_getR zf_13_2 zl_X7_42 e_v4 dX7_lay_154 ?_
      refine V_pc (pc' := 157) rfl ?_
      refine V_bipush (v := 10) dX7_lay_157 (by decide) ?_
      refine V_iload_n dX7_lay_159 rfl 1 rfl ?_
      refine V_imul dX7_lay_160 ?_
      refine V_iload dX7_lay_161 2 rfl ?_
      refine V_iadd dX7_lay_163 ?_
      replace h := ob h
      obtain ⟨v5, e_v5, h⟩ := h
      refine V_iald e_v5 dX7_lay_164 ?_
      refine V_pc (pc' := 165) rfl ?_
      refine V_dup2 dX7_lay_165 rfl rfl ?_
      replace h := ob h
      obtain ⟨v6, e_v6, h⟩ := h
      refine V_iald e_v6 dX7_lay_166 ?_
      refine V_pc (pc' := 167) rfl ?_
      refine V_iconst (v := 1) dX7_lay_167 (by decide) ?_
      refine V_iadd dX7_lay_168 ?_
      replace h := ob h
      obtain ⟨M7, e_M7, h⟩ := h
      refine V_iast e_M7 dX7_lay_169 ?_
      refine V_iinc (v := i4 + (1 : Int32)) (ls' := [(4, .int ((i4 + (1 : Int32)))), (0, .ref (zad L (a0))), (3, .int (i3))]) dX7_lay_170 2 rfl (by rfl) (by decide) rfl ?_
      refine V_goto (tgt := 137) dX7_lay_173 (by decide) ?_
      refine V_sub [1, 2, 0] rfl ?_
      exact ih _ _ _ _ h
def f_X7_lay_120 (n : Nat) (a0 : Nat) (i3 : Int32) (M : zM) : Option (Int32 × zM) := match n with
  | 0 => none
  | n + 1 =>
    if ((4 : Int32)) ≤ i3 then
    (pI 13 3 M a0 ((40 : Int32))).bind fun M1 =>
    (pI 13 4 M1 a0 ((99 : Int32))).bind fun M2 =>
    (gR 13 2 M2 a0).bind fun v3 =>
    (lA 0 M2 v3 ((95 : Int32))).bind fun v4 =>
    (f_X7_lucky v4 M2).bind fun r5 =>
    (pI 13 5 r5.2 a0 r5.1).bind fun M6 =>
    (pI 13 10 M6 a0 ((0 : Int32))).bind fun M7 =>
    (pI 13 6 M7 a0 ((0 : Int32))).bind fun M8 =>
    (gI 13 8 M8 a0).bind fun v9 =>
    (pI 13 7 M8 a0 v9).bind fun M10 =>
    (gI 13 8 M10 a0).bind fun v11 =>
    some (v11, M10)
    else
    (gR 13 1 M a0).bind fun v12 =>
    (lQ 2 M v12 i3).bind fun v13 =>
    if mK M v13 = 12 then
    (f_X6_begin v13 M).bind fun r14 =>
    f_X7_lay_137 (f_X7_lay_120 n) zN a0 i3 ((0 : Int32)) r14.2
    else none
set_option maxRecDepth 20000 in
set_option maxHeartbeats 4000000 in
theorem s_X7_lay_120 {L : zL} {X : zX} {M0 : zM} {N : Nat × Nat} {Q : State → Prop} {r : Int32 × zM} (hq : vQ L X M0 N Q (some (.int r.1)) r.2) {n : Nat} {a0 : Nat} {i3 : Int32} {M : zM} : f_X7_lay_120 n a0 i3 M = some r → V L X yX7_lay cX7_lay 5 (some FieldType.int) 3 M0 N Q M 120 [(0, .ref (zad L (a0))), (3, .int (i3))] [] := by
  induction n generalizing a0 i3 M with
  | zero =>
    intro h
    rw [f_X7_lay_120] at h
    cases h
  | succ n ih0 =>
    intro h
    have ih : ∀ (a0 : Nat) (i3 : Int32) (M : zM), f_X7_lay_120 n a0 i3 M = some r → V L X yX7_lay cX7_lay 5 (some FieldType.int) 3 M0 N Q M 120 [(0, .ref (zad L (a0))), (3, .int (i3))] [] := fun a0 i3 M h => ih0 h
    rw [f_X7_lay_120] at h
    refine V_iload_n dX7_lay_120 rfl 1 rfl ?_
    refine V_iconst (v := 4) dX7_lay_121 (by decide) ?_
    refine V_icmp_ge (tgt := 182) dX7_lay_122 (by decide) (fun c16 => ?_) (fun c16 => ?_)
    · replace h := (oi h).1 c16
      refine V_aload_n dX7_lay_182 rfl 0 rfl ?_
      refine V_bipush (v := 40) dX7_lay_183 (by decide) ?_
      replace h := ob h
      obtain ⟨M1, e_M1, h⟩ := h
      refine V_putI zf_13_3 zl_X7_75 (Or.inl rfl) rfl e_M1 dX7_lay_185 ?_
      refine V_pc (pc' := 188) rfl ?_
      refine V_aload_n dX7_lay_188 rfl 0 rfl ?_
      refine V_bipush (v := 99) dX7_lay_189 (by decide) ?_
      replace h := ob h
      obtain ⟨M2, e_M2, h⟩ := h
      refine V_putI zf_13_4 zl_X7_72 (Or.inl rfl) rfl e_M2 dX7_lay_191 ?_
      refine V_pc (pc' := 194) rfl ?_
      refine V_aload_n dX7_lay_194 rfl 0 rfl ?_
      refine V_aload_n dX7_lay_195 rfl 0 rfl ?_
      replace h := ob h
      obtain ⟨v3, e_v3, h⟩ := h
      refine V_getR zf_13_2 zl_X7_42 e_v3 dX7_lay_196 ?_
      refine V_pc (pc' := 199) rfl ?_
      refine V_bipush (v := 95) dX7_lay_199 (by decide) ?_
      replace h := ob h
      obtain ⟨v4, e_v4, h⟩ := h
      refine V_iald e_v4 dX7_lay_201 ?_
      refine V_pc (pc' := 202) rfl ?_
      replace h := ob h
      obtain ⟨r5, e_r5, h⟩ := h
      refine V_callS_I (As := [.int (v4)]) (rest := [.ref (zad L (a0))]) (c_X7_lucky e_r5) zc_X7_lucky rfl (by decide) zm_X7_97 (Nat.le_of_ble_eq_true rfl) rfl dX7_lay_202 ?_
      refine V_pc (pc' := 205) rfl ?_
      replace h := ob h
      obtain ⟨M6, e_M6, h⟩ := h
      refine V_putI zf_13_5 zl_X7_46 (Or.inl rfl) rfl e_M6 dX7_lay_205 ?_
      refine V_pc (pc' := 208) rfl ?_
      refine V_aload_n dX7_lay_208 rfl 0 rfl ?_
      refine V_iconst (v := 0) dX7_lay_209 (by decide) ?_
      replace h := ob h
      obtain ⟨M7, e_M7, h⟩ := h
      refine V_putI zf_13_10 zl_X7_101 (Or.inl rfl) rfl e_M7 dX7_lay_210 ?_
      refine V_pc (pc' := 213) rfl ?_
      refine V_aload_n dX7_lay_213 rfl 0 rfl ?_
      refine V_iconst (v := 0) dX7_lay_214 (by decide) ?_
      replace h := ob h
      obtain ⟨M8, e_M8, h⟩ := h
      refine V_putI zf_13_6 zl_X7_50 (Or.inl rfl) rfl e_M8 dX7_lay_215 ?_
      refine V_pc (pc' := 218) rfl ?_
      refine V_aload_n dX7_lay_218 rfl 0 rfl ?_
      refine V_aload_n dX7_lay_219 rfl 0 rfl ?_
      replace h := ob h
      obtain ⟨v9, e_v9, h⟩ := h
      refine V_getI zf_13_8 zl_X7_53 e_v9 dX7_lay_220 ?_
      refine V_pc (pc' := 223) rfl ?_
      replace h := ob h
      obtain ⟨M10, e_M10, h⟩ := h
      refine V_putI zf_13_7 zl_X7_82 (Or.inl rfl) rfl e_M10 dX7_lay_223 ?_
      refine V_pc (pc' := 226) rfl ?_
      refine V_aload_n dX7_lay_226 rfl 0 rfl ?_
      replace h := ob h
      obtain ⟨v11, e_v11, h⟩ := h
      refine V_getI zf_13_8 zl_X7_53 e_v11 dX7_lay_227 ?_
      refine V_pc (pc' := 230) rfl ?_
      obtain rfl := Option.some.inj h
      exact V_iret rfl hq dX7_lay_230
    · replace h := (oi h).2 c16
      refine V_aload_n dX7_lay_125 rfl 0 rfl ?_
      replace h := ob h
      obtain ⟨v12, e_v12, h⟩ := h
      refine V_getR zf_13_1 zl_X7_38 e_v12 dX7_lay_126 ?_
      refine V_pc (pc' := 129) rfl ?_
      refine V_iload_n dX7_lay_129 rfl 1 rfl ?_
      replace h := ob h
      obtain ⟨v13, e_v13, h⟩ := h
      refine V_aald (by decide) e_v13 dX7_lay_130 ?_
      refine V_pc (pc' := 131) rfl ?_
      replace h := ox h
      obtain ⟨c15, h⟩ := h
      replace h := ob h
      obtain ⟨r14, e_r14, h⟩ := h
      refine V_callV_V (As := []) (rest := []) (c_X6_begin e_r14) zc_X6_begin rfl (by decide) rfl (by decide) (Or.inl c15) zm_X7_91 (Nat.le_of_ble_eq_true rfl) rfl dX7_lay_131 ?_
      refine V_pc (pc' := 134) rfl ?_
      refine V_iconst (v := 0) dX7_lay_134 (by decide) ?_
      refine V_istore (ls' := [(4, .int ((0 : Int32))), (0, .ref (zad L (a0))), (3, .int (i3))]) dX7_lay_135 (by decide) rfl ?_
      refine V_sub [1, 2, 0] rfl ?_
      exact s_X7_lay_137 ih hq h
def f_X7_lay_70 (n : Nat) (a0 : Nat) (i1 : Int32) (i2 : Int32) (i3 : Int32) (M : zM) : Option (Int32 × zM) := match n with
  | 0 => none
  | n + 1 =>
    if ((100 : Int32)) ≤ i3 then
    (gI 13 9 M a0).bind fun v1 =>
    (pI 13 8 M a0 ((zmd v1 ((4 : Int32))))).bind fun M2 =>
    (gI 13 9 M2 a0).bind fun v3 =>
    (pI 13 9 M2 a0 ((v3 + ((1 : Int32))))).bind fun M4 =>
    f_X7_lay_120 zN a0 ((0 : Int32)) M4
    else
    (gR 13 2 M a0).bind fun v5 =>
    (tA M v5 i3 ((((zmd ((((i1 * i3)) + i2)) ((100 : Int32)))) / ((4 : Int32))))).bind fun M6 =>
    f_X7_lay_70 n a0 i1 i2 ((i3 + (1 : Int32))) M6
set_option maxRecDepth 20000 in
set_option maxHeartbeats 4000000 in
theorem s_X7_lay_70 {L : zL} {X : zX} {M0 : zM} {N : Nat × Nat} {Q : State → Prop} {r : Int32 × zM} (hq : vQ L X M0 N Q (some (.int r.1)) r.2) {n : Nat} {a0 : Nat} {i1 : Int32} {i2 : Int32} {i3 : Int32} {M : zM} : f_X7_lay_70 n a0 i1 i2 i3 M = some r → V L X yX7_lay cX7_lay 5 (some FieldType.int) 3 M0 N Q M 70 [(0, .ref (zad L (a0))), (1, .int (i1)), (2, .int (i2)), (3, .int (i3))] [] := by
  induction n generalizing a0 i1 i2 i3 M with
  | zero =>
    intro h
    rw [f_X7_lay_70] at h
    cases h
  | succ n ih0 =>
    intro h
    have ih : ∀ (a0 : Nat) (i1 : Int32) (i2 : Int32) (i3 : Int32) (M : zM), f_X7_lay_70 n a0 i1 i2 i3 M = some r → V L X yX7_lay cX7_lay 5 (some FieldType.int) 3 M0 N Q M 70 [(0, .ref (zad L (a0))), (1, .int (i1)), (2, .int (i2)), (3, .int (i3))] [] := fun a0 i1 i2 i3 M h => ih0 h
    rw [f_X7_lay_70] at h
    refine V_iload_n dX7_lay_70 rfl 3 rfl ?_
    refine V_bipush (v := 100) dX7_lay_71 (by decide) ?_
    refine V_icmp_ge (tgt := 98) dX7_lay_73 (by decide) (fun c7 => ?_) (fun c7 => ?_)
    · replace h := (oi h).1 c7
      refine V_aload_n dX7_lay_98 rfl 0 rfl ?_
      refine V_aload_n dX7_lay_99 rfl 0 rfl ?_
      replace h := ob h
      obtain ⟨v1, e_v1, h⟩ := h
      refine V_getI zf_13_9 zl_X7_88 e_v1 dX7_lay_100 ?_
      refine V_pc (pc' := 103) rfl ?_
      refine V_iconst (v := 4) dX7_lay_103 (by decide) ?_
      refine V_irem dX7_lay_104 (by decide) ?_
      replace h := ob h
      obtain ⟨M2, e_M2, h⟩ := h
      refine V_putI zf_13_8 zl_X7_53 (Or.inl rfl) rfl e_M2 dX7_lay_105 ?_
      refine V_pc (pc' := 108) rfl ?_
      refine V_aload_n dX7_lay_108 rfl 0 rfl ?_
      refine V_dup dX7_lay_109 rfl ?_
      replace h := ob h
      obtain ⟨v3, e_v3, h⟩ := h
      refine V_getI zf_13_9 zl_X7_88 e_v3 dX7_lay_110 ?_
      refine V_pc (pc' := 113) rfl ?_
      refine V_iconst (v := 1) dX7_lay_113 (by decide) ?_
      refine V_iadd dX7_lay_114 ?_
      replace h := ob h
      obtain ⟨M4, e_M4, h⟩ := h
      refine V_putI zf_13_9 zl_X7_88 (Or.inl rfl) rfl e_M4 dX7_lay_115 ?_
      refine V_pc (pc' := 118) rfl ?_
      refine V_iconst (v := 0) dX7_lay_118 (by decide) ?_
      refine V_istore_n (ls' := [(3, .int ((0 : Int32))), (0, .ref (zad L (a0))), (1, .int (i1)), (2, .int (i2))]) dX7_lay_119 rfl (by decide) rfl ?_
      refine V_sub [1, 0] rfl ?_
      exact s_X7_lay_120 hq h
    · replace h := (oi h).2 c7
      refine V_aload_n dX7_lay_76 rfl 0 rfl ?_
      replace h := ob h
      obtain ⟨v5, e_v5, h⟩ := h
      refine V_getR zf_13_2 zl_X7_42 e_v5 dX7_lay_77 ?_
      refine V_pc (pc' := 80) rfl ?_
      refine V_iload_n dX7_lay_80 rfl 3 rfl ?_
      refine V_iload_n dX7_lay_81 rfl 1 rfl ?_
      refine V_iload_n dX7_lay_82 rfl 3 rfl ?_
      refine V_imul dX7_lay_83 ?_
      refine V_iload_n dX7_lay_84 rfl 2 rfl ?_
      refine V_iadd dX7_lay_85 ?_
      refine V_bipush (v := 100) dX7_lay_86 (by decide) ?_
      refine V_irem dX7_lay_88 (by decide) ?_
      refine V_iconst (v := 4) dX7_lay_89 (by decide) ?_
      refine V_idiv dX7_lay_90 (by decide) ?_
      replace h := ob h
      obtain ⟨M6, e_M6, h⟩ := h
      refine V_iast e_M6 dX7_lay_91 ?_
      refine V_iinc (v := i3 + (1 : Int32)) (ls' := [(3, .int ((i3 + (1 : Int32)))), (0, .ref (zad L (a0))), (1, .int (i1)), (2, .int (i2))]) dX7_lay_92 3 rfl (by rfl) (by decide) rfl ?_
      refine V_goto (tgt := 70) dX7_lay_95 (by decide) ?_
      refine V_sub [1, 2, 3, 0] rfl ?_
      exact ih _ _ _ _ _ h
def f_X7_lay_59 (a0 : Nat) (i1 : Int32) (i2 : Int32) (i_0 : Int32) (a_1 : Nat) (M : zM) : Option (Int32 × zM) :=
  if mK M a_1 = 13 then
  (f_X7_refuse a_1 i_0 ((2 : Int32)) M).bind fun r1 =>
  if r1.1 = 0 then
  f_X7_lay_70 zN a0 i1 i2 ((0 : Int32)) r1.2
  else
  some ((0 : Int32), r1.2)
  else none
set_option maxRecDepth 20000 in
set_option maxHeartbeats 4000000 in
theorem s_X7_lay_59 {L : zL} {X : zX} {M0 : zM} {N : Nat × Nat} {Q : State → Prop} {r : Int32 × zM} (hq : vQ L X M0 N Q (some (.int r.1)) r.2) {a0 : Nat} {i1 : Int32} {i2 : Int32} {i_0 : Int32} {a_1 : Nat} {M : zM} (h : f_X7_lay_59 a0 i1 i2 i_0 a_1 M = some r) : V L X yX7_lay cX7_lay 5 (some FieldType.int) 3 M0 N Q M 59 [(0, .ref (zad L (a0))), (1, .int (i1)), (2, .int (i2))] [.int (i_0), .ref (zad L (a_1))] := by
  unfold f_X7_lay_59 at h
  refine V_iconst (v := 2) dX7_lay_59 (by decide) ?_
  replace h := ox h
  obtain ⟨c2, h⟩ := h
  replace h := ob h
  obtain ⟨r1, e_r1, h⟩ := h
  refine V_callV_I (As := [.int (i_0), .int ((2 : Int32))]) (rest := []) (c_X7_refuse e_r1) zc_X7_refuse rfl (by decide) rfl (by decide) (Or.inl c2) zm_X7_68 (Nat.le_of_ble_eq_true rfl) rfl dX7_lay_60 ?_
  refine V_pc (pc' := 63) rfl ?_
  refine V_if_eq (tgt := 68) dX7_lay_63 (by decide) (fun c3 => ?_) (fun c3 => ?_)
  · replace h := (oi h).1 c3
    refine V_iconst (v := 0) dX7_lay_68 (by decide) ?_
    refine V_istore_n (ls' := [(3, .int ((0 : Int32))), (0, .ref (zad L (a0))), (1, .int (i1)), (2, .int (i2))]) dX7_lay_69 rfl (by decide) rfl ?_
    refine V_sub [1, 2, 3, 0] rfl ?_
    exact s_X7_lay_70 hq h
  · replace h := (oi h).2 c3
    refine V_iconst (v := 0) dX7_lay_66 (by decide) ?_
    obtain rfl := Option.some.inj h
    exact V_iret rfl hq dX7_lay_67
def f_X7_lay_38 (a0 : Nat) (i1 : Int32) (i2 : Int32) (i_0 : Int32) (a_1 : Nat) (M : zM) : Option (Int32 × zM) :=
  if mK M a_1 = 13 then
  (f_X7_start a_1 i_0 ((1 : Int32)) M).bind fun r1 =>
  if r1.1 = 0 then
  (gI 13 6 r1.2 a0).bind fun v3 =>
  if v3 = ((3 : Int32)) then
  f_X7_lay_59 a0 i1 i2 ((0 : Int32)) a0 r1.2
  else
  f_X7_lay_59 a0 i1 i2 ((1 : Int32)) a0 r1.2
  else
  some ((0 : Int32), r1.2)
  else none
set_option maxRecDepth 20000 in
set_option maxHeartbeats 4000000 in
theorem s_X7_lay_38 {L : zL} {X : zX} {M0 : zM} {N : Nat × Nat} {Q : State → Prop} {r : Int32 × zM} (hq : vQ L X M0 N Q (some (.int r.1)) r.2) {a0 : Nat} {i1 : Int32} {i2 : Int32} {i_0 : Int32} {a_1 : Nat} {M : zM} (h : f_X7_lay_38 a0 i1 i2 i_0 a_1 M = some r) : V L X yX7_lay cX7_lay 5 (some FieldType.int) 3 M0 N Q M 38 [(0, .ref (zad L (a0))), (1, .int (i1)), (2, .int (i2))] [.int (i_0), .ref (zad L (a_1))] := by
  unfold f_X7_lay_38 at h
  refine V_iconst (v := 1) dX7_lay_38 (by decide) ?_
  replace h := ox h
  obtain ⟨c2, h⟩ := h
  replace h := ob h
  obtain ⟨r1, e_r1, h⟩ := h
  refine V_callV_I (As := [.int (i_0), .int ((1 : Int32))]) (rest := []) (c_X7_start e_r1) zc_X7_start rfl (by decide) rfl (by decide) (Or.inl c2) zm_X7_85 (Nat.le_of_ble_eq_true rfl) rfl dX7_lay_39 ?_
  refine V_pc (pc' := 42) rfl ?_
  refine V_if_ne (tgt := 66) dX7_lay_42 (by decide) (fun c5 => ?_) (fun c5 => ?_)
  · replace h := (oi h).2 c5
    refine V_iconst (v := 0) dX7_lay_66 (by decide) ?_
    obtain rfl := Option.some.inj h
    exact V_iret rfl hq dX7_lay_67
  · replace h := (oi h).1 c5
    refine V_aload_n dX7_lay_45 rfl 0 rfl ?_
    refine V_aload_n dX7_lay_46 rfl 0 rfl ?_
    replace h := ob h
    obtain ⟨v3, e_v3, h⟩ := h
    refine V_getI zf_13_6 zl_X7_50 e_v3 dX7_lay_47 ?_
    refine V_pc (pc' := 50) rfl ?_
    refine V_iconst (v := 3) dX7_lay_50 (by decide) ?_
    refine V_icmp_eq (tgt := 58) dX7_lay_51 (by decide) (fun c4 => ?_) (fun c4 => ?_)
    · replace h := (oi h).1 c4
      refine V_iconst (v := 0) dX7_lay_58 (by decide) ?_
      exact s_X7_lay_59 hq h
    · replace h := (oi h).2 c4
      refine V_iconst (v := 1) dX7_lay_54 (by decide) ?_
      refine V_goto (tgt := 59) dX7_lay_55 (by decide) ?_
      exact s_X7_lay_59 hq h
def f_X7_lay_33 (a0 : Nat) (i1 : Int32) (i2 : Int32) (a_0 : Nat) (M : zM) : Option (Int32 × zM) :=
  f_X7_lay_38 a0 i1 i2 ((1 : Int32)) a_0 M
set_option maxRecDepth 20000 in
set_option maxHeartbeats 4000000 in
theorem s_X7_lay_33 {L : zL} {X : zX} {M0 : zM} {N : Nat × Nat} {Q : State → Prop} {r : Int32 × zM} (hq : vQ L X M0 N Q (some (.int r.1)) r.2) {a0 : Nat} {i1 : Int32} {i2 : Int32} {a_0 : Nat} {M : zM} (h : f_X7_lay_33 a0 i1 i2 a_0 M = some r) : V L X yX7_lay cX7_lay 5 (some FieldType.int) 3 M0 N Q M 33 [(0, .ref (zad L (a0))), (1, .int (i1)), (2, .int (i2))] [.ref (zad L (a_0))] := by
  unfold f_X7_lay_33 at h
  refine V_iconst (v := 1) dX7_lay_33 (by decide) ?_
  refine V_goto (tgt := 38) dX7_lay_34 (by decide) ?_
  exact s_X7_lay_38 hq h
def f_X7_lay_0 (a0 : Nat) (i1 : Int32) (i2 : Int32) (M : zM) : Option (Int32 × zM) :=
  (f_X7_isIn i1 ((1 : Int32)) ((99 : Int32)) M).bind fun r1 =>
  if r1.1 = 0 then
  f_X7_lay_33 a0 i1 i2 a0 r1.2
  else
  if ((zmd i1 ((2 : Int32)))) = 0 then
  f_X7_lay_33 a0 i1 i2 a0 r1.2
  else
  if ((zmd i1 ((5 : Int32)))) = 0 then
  f_X7_lay_33 a0 i1 i2 a0 r1.2
  else
  (f_X7_isIn i2 ((0 : Int32)) ((99 : Int32)) r1.2).bind fun r2 =>
  if r2.1 = 0 then
  f_X7_lay_33 a0 i1 i2 a0 r2.2
  else
  f_X7_lay_38 a0 i1 i2 ((0 : Int32)) a0 r2.2
set_option maxRecDepth 20000 in
set_option maxHeartbeats 4000000 in
theorem s_X7_lay_0 {L : zL} {X : zX} {M0 : zM} {N : Nat × Nat} {Q : State → Prop} {r : Int32 × zM} (hq : vQ L X M0 N Q (some (.int r.1)) r.2) {a0 : Nat} {i1 : Int32} {i2 : Int32} {M : zM} (h : f_X7_lay_0 a0 i1 i2 M = some r) : V L X yX7_lay cX7_lay 5 (some FieldType.int) 3 M0 N Q M 0 [(0, .ref (zad L (a0))), (1, .int (i1)), (2, .int (i2))] [] := by
  unfold f_X7_lay_0 at h
  refine V_aload_n dX7_lay_0 rfl 0 rfl ?_
  refine V_iload_n dX7_lay_1 rfl 1 rfl ?_
  refine V_iconst (v := 1) dX7_lay_2 (by decide) ?_
  refine V_bipush (v := 99) dX7_lay_3 (by decide) ?_
  replace h := ob h
  obtain ⟨r1, e_r1, h⟩ := h
  refine V_callS_I (As := [.int (i1), .int ((1 : Int32)), .int ((99 : Int32))]) (rest := [.ref (zad L (a0))]) (c_X7_isIn e_r1) zc_X7_isIn rfl (by decide) zm_X7_3 (Nat.le_of_ble_eq_true rfl) rfl dX7_lay_5 ?_
  refine V_pc (pc' := 8) rfl ?_
  refine V_if_eq (tgt := 33) dX7_lay_8 (by decide) (fun c6 => ?_) (fun c6 => ?_)
  · replace h := (oi h).1 c6
    exact s_X7_lay_33 hq h
  · replace h := (oi h).2 c6
    refine V_iload_n dX7_lay_11 rfl 1 rfl ?_
    refine V_iconst (v := 2) dX7_lay_12 (by decide) ?_
    refine V_irem dX7_lay_13 (by decide) ?_
    refine V_if_eq (tgt := 33) dX7_lay_14 (by decide) (fun c5 => ?_) (fun c5 => ?_)
    · replace h := (oi h).1 c5
      exact s_X7_lay_33 hq h
    · replace h := (oi h).2 c5
      refine V_iload_n dX7_lay_17 rfl 1 rfl ?_
      refine V_iconst (v := 5) dX7_lay_18 (by decide) ?_
      refine V_irem dX7_lay_19 (by decide) ?_
      refine V_if_eq (tgt := 33) dX7_lay_20 (by decide) (fun c4 => ?_) (fun c4 => ?_)
      · replace h := (oi h).1 c4
        exact s_X7_lay_33 hq h
      · replace h := (oi h).2 c4
        refine V_iload_n dX7_lay_23 rfl 2 rfl ?_
        refine V_iconst (v := 0) dX7_lay_24 (by decide) ?_
        refine V_bipush (v := 99) dX7_lay_25 (by decide) ?_
        replace h := ob h
        obtain ⟨r2, e_r2, h⟩ := h
        refine V_callS_I (As := [.int (i2), .int ((0 : Int32)), .int ((99 : Int32))]) (rest := [.ref (zad L (a0))]) (c_X7_isIn e_r2) zc_X7_isIn rfl (by decide) zm_X7_3 (Nat.le_of_ble_eq_true rfl) rfl dX7_lay_27 ?_
        refine V_pc (pc' := 30) rfl ?_
        refine V_if_ne (tgt := 37) dX7_lay_30 (by decide) (fun c3 => ?_) (fun c3 => ?_)
        · replace h := (oi h).2 c3
          refine V_iconst (v := 0) dX7_lay_37 (by decide) ?_
          exact s_X7_lay_38 hq h
        · replace h := (oi h).1 c3
          exact s_X7_lay_33 hq h
def f_X7_lay (a0 : Nat) (i1 : Int32) (i2 : Int32) (M : zM) : Option (Int32 × zM) := f_X7_lay_0 a0 i1 i2 M
theorem c_X7_lay {L : zL} {l : Launch} {a0 : Nat} {i1 : Int32} {i2 : Int32} {M : zM} {r : Int32 × zM} (h : f_X7_lay a0 i1 i2 M = some r) : CP L l yX7_lay cX7_lay 5 (some FieldType.int) 3 M [.ref (zad L (a0)), .int (i1), .int (i2)] (some (.int r.1)) r.2 :=
  CP.of ⟨by decide +kernel, by decide +kernel⟩ (Nat.le_of_ble_eq_true rfl) fun X Q hq => s_X7_lay_0 hq h
/-! WindsparlourModel.take(I)I -/
theorem dX7_take_0 : decode cX7_take 0 = .ok (.aload_n 0, 1) := by decide +kernel
theorem dX7_take_1 : decode cX7_take 1 = .ok (.invokevirtual 104, 3) := by decide +kernel
theorem dX7_take_4 : decode cX7_take 4 = .ok (.getfield 94, 3) := by decide +kernel
theorem dX7_take_7 : decode cX7_take 7 = .ok (.iload_n 1, 1) := by decide +kernel
theorem dX7_take_8 : decode cX7_take 8 = .ok (.dup2, 1) := by decide +kernel
theorem dX7_take_9 : decode cX7_take 9 = .ok (.iaload, 1) := by decide +kernel
theorem dX7_take_10 : decode cX7_take 10 = .ok (.iconst 1, 1) := by decide +kernel
theorem dX7_take_11 : decode cX7_take 11 = .ok (.iadd, 1) := by decide +kernel
theorem dX7_take_12 : decode cX7_take 12 = .ok (.iastore, 1) := by decide +kernel
theorem dX7_take_13 : decode cX7_take 13 = .ok (.aload_n 0, 1) := by decide +kernel
theorem dX7_take_14 : decode cX7_take 14 = .ok (.iload_n 1, 1) := by decide +kernel
theorem dX7_take_15 : decode cX7_take 15 = .ok (.putfield 59, 3) := by decide +kernel
theorem dX7_take_18 : decode cX7_take 18 = .ok (.aload_n 0, 1) := by decide +kernel
theorem dX7_take_19 : decode cX7_take 19 = .ok (.iconst 1, 1) := by decide +kernel
theorem dX7_take_20 : decode cX7_take 20 = .ok (.putfield 50, 3) := by decide +kernel
theorem dX7_take_23 : decode cX7_take 23 = .ok (.iload_n 1, 1) := by decide +kernel
theorem dX7_take_24 : decode cX7_take 24 = .ok (.ireturn, 1) := by decide +kernel
def f_X7_take_0 (a0 : Nat) (i1 : Int32) (M : zM) : Option (Int32 × zM) :=
  if mK M a0 = 13 then
  (f_X7_its a0 M).bind fun r1 =>
  (gR 12 2 r1.2 r1.1).bind fun v3 =>
  (lA 0 r1.2 v3 i1).bind fun v4 =>
  (tA r1.2 v3 i1 ((v4 + ((1 : Int32))))).bind fun M5 =>
  (pI 13 13 M5 a0 i1).bind fun M6 =>
  (pI 13 6 M6 a0 ((1 : Int32))).bind fun M7 =>
  some (i1, M7)
  else none
set_option maxRecDepth 20000 in
set_option maxHeartbeats 4000000 in
theorem s_X7_take_0 {L : zL} {X : zX} {M0 : zM} {N : Nat × Nat} {Q : State → Prop} {r : Int32 × zM} (hq : vQ L X M0 N Q (some (.int r.1)) r.2) {a0 : Nat} {i1 : Int32} {M : zM} (h : f_X7_take_0 a0 i1 M = some r) : V L X yX7_take cX7_take 2 (some FieldType.int) 2 M0 N Q M 0 [(0, .ref (zad L (a0))), (1, .int (i1))] [] := by
  unfold f_X7_take_0 at h
  refine V_aload_n dX7_take_0 rfl 0 rfl ?_
  replace h := ox h
  obtain ⟨c2, h⟩ := h
  replace h := ob h
  obtain ⟨r1, e_r1, h⟩ := h
  refine V_callV_A (As := []) (rest := []) (c_X7_its e_r1) zc_X7_its rfl (by decide) rfl (by decide) (Or.inl c2) zm_X7_104 (Nat.le_of_ble_eq_true rfl) rfl dX7_take_1 ?_
  refine V_pc (pc' := 4) rfl ?_
  replace h := ob h
  obtain ⟨v3, e_v3, h⟩ := h
  refine V_getR zf_12_2 zl_X7_94 e_v3 dX7_take_4 ?_
  refine V_pc (pc' := 7) rfl ?_
  refine V_iload_n dX7_take_7 rfl 1 rfl ?_
  refine V_dup2 dX7_take_8 rfl rfl ?_
  replace h := ob h
  obtain ⟨v4, e_v4, h⟩ := h
  refine V_iald e_v4 dX7_take_9 ?_
  refine V_pc (pc' := 10) rfl ?_
  refine V_iconst (v := 1) dX7_take_10 (by decide) ?_
  refine V_iadd dX7_take_11 ?_
  replace h := ob h
  obtain ⟨M5, e_M5, h⟩ := h
  refine V_iast e_M5 dX7_take_12 ?_
  refine V_aload_n dX7_take_13 rfl 0 rfl ?_
  refine V_iload_n dX7_take_14 rfl 1 rfl ?_
  replace h := ob h
  obtain ⟨M6, e_M6, h⟩ := h
  refine V_putI zf_13_13 zl_X7_59 (Or.inl rfl) rfl e_M6 dX7_take_15 ?_
  refine V_pc (pc' := 18) rfl ?_
  refine V_aload_n dX7_take_18 rfl 0 rfl ?_
  refine V_iconst (v := 1) dX7_take_19 (by decide) ?_
  replace h := ob h
  obtain ⟨M7, e_M7, h⟩ := h
  refine V_putI zf_13_6 zl_X7_50 (Or.inl rfl) rfl e_M7 dX7_take_20 ?_
  refine V_pc (pc' := 23) rfl ?_
  refine V_iload_n dX7_take_23 rfl 1 rfl ?_
  obtain rfl := Option.some.inj h
  exact V_iret rfl hq dX7_take_24
def f_X7_take (a0 : Nat) (i1 : Int32) (M : zM) : Option (Int32 × zM) := f_X7_take_0 a0 i1 M
theorem c_X7_take {L : zL} {l : Launch} {a0 : Nat} {i1 : Int32} {M : zM} {r : Int32 × zM} (h : f_X7_take a0 i1 M = some r) : CP L l yX7_take cX7_take 2 (some FieldType.int) 2 M [.ref (zad L (a0)), .int (i1)] (some (.int r.1)) r.2 :=
  CP.of ⟨by decide +kernel, by decide +kernel⟩ (Nat.le_of_ble_eq_true rfl) fun X Q hq => s_X7_take_0 hq h
/-! WindsparlourModel.settle()V -/
theorem dX7_settle_0 : decode cX7_settle 0 = .ok (.iconst 4, 1) := by decide +kernel
theorem dX7_settle_1 : decode cX7_settle 1 = .ok (.newarray .boolean, 2) := by decide +kernel
theorem dX7_settle_3 : decode cX7_settle 3 = .ok (.astore_n 1, 1) := by decide +kernel
theorem dX7_settle_4 : decode cX7_settle 4 = .ok (.iconst 0, 1) := by decide +kernel
theorem dX7_settle_5 : decode cX7_settle 5 = .ok (.istore_n 2, 1) := by decide +kernel
theorem dX7_settle_6 : decode cX7_settle 6 = .ok (.iload_n 2, 1) := by decide +kernel
theorem dX7_settle_7 : decode cX7_settle 7 = .ok (.iconst 4, 1) := by decide +kernel
theorem dX7_settle_8 : decode cX7_settle 8 = .ok (.if_icmp .ge 21, 3) := by decide +kernel
theorem dX7_settle_11 : decode cX7_settle 11 = .ok (.aload_n 1, 1) := by decide +kernel
theorem dX7_settle_12 : decode cX7_settle 12 = .ok (.iload_n 2, 1) := by decide +kernel
theorem dX7_settle_13 : decode cX7_settle 13 = .ok (.aload_n 0, 1) := by decide +kernel
theorem dX7_settle_14 : decode cX7_settle 14 = .ok (.getfield 38, 3) := by decide +kernel
theorem dX7_settle_17 : decode cX7_settle 17 = .ok (.iload_n 2, 1) := by decide +kernel
theorem dX7_settle_18 : decode cX7_settle 18 = .ok (.aaload, 1) := by decide +kernel
theorem dX7_settle_19 : decode cX7_settle 19 = .ok (.invokevirtual 108, 3) := by decide +kernel
theorem dX7_settle_22 : decode cX7_settle 22 = .ok (.bastore, 1) := by decide +kernel
theorem dX7_settle_23 : decode cX7_settle 23 = .ok (.iinc 2 1, 3) := by decide +kernel
theorem dX7_settle_26 : decode cX7_settle 26 = .ok (.goto (-20), 3) := by decide +kernel
theorem dX7_settle_29 : decode cX7_settle 29 = .ok (.iconst 0, 1) := by decide +kernel
theorem dX7_settle_30 : decode cX7_settle 30 = .ok (.istore_n 2, 1) := by decide +kernel
theorem dX7_settle_31 : decode cX7_settle 31 = .ok (.iload_n 2, 1) := by decide +kernel
theorem dX7_settle_32 : decode cX7_settle 32 = .ok (.iconst 4, 1) := by decide +kernel
theorem dX7_settle_33 : decode cX7_settle 33 = .ok (.if_icmp .ge 66, 3) := by decide +kernel
theorem dX7_settle_36 : decode cX7_settle 36 = .ok (.iconst 0, 1) := by decide +kernel
theorem dX7_settle_37 : decode cX7_settle 37 = .ok (.istore_n 3, 1) := by decide +kernel
theorem dX7_settle_38 : decode cX7_settle 38 = .ok (.iload_n 3, 1) := by decide +kernel
theorem dX7_settle_39 : decode cX7_settle 39 = .ok (.iconst 4, 1) := by decide +kernel
theorem dX7_settle_40 : decode cX7_settle 40 = .ok (.if_icmp .ge 53, 3) := by decide +kernel
theorem dX7_settle_43 : decode cX7_settle 43 = .ok (.aload_n 1, 1) := by decide +kernel
theorem dX7_settle_44 : decode cX7_settle 44 = .ok (.iload_n 2, 1) := by decide +kernel
theorem dX7_settle_45 : decode cX7_settle 45 = .ok (.baload, 1) := by decide +kernel
theorem dX7_settle_46 : decode cX7_settle 46 = .ok (.ifCond .ne 41, 3) := by decide +kernel
theorem dX7_settle_49 : decode cX7_settle 49 = .ok (.aload_n 1, 1) := by decide +kernel
theorem dX7_settle_50 : decode cX7_settle 50 = .ok (.iload_n 3, 1) := by decide +kernel
theorem dX7_settle_51 : decode cX7_settle 51 = .ok (.baload, 1) := by decide +kernel
theorem dX7_settle_52 : decode cX7_settle 52 = .ok (.ifCond .eq 35, 3) := by decide +kernel
theorem dX7_settle_55 : decode cX7_settle 55 = .ok (.aload_n 0, 1) := by decide +kernel
theorem dX7_settle_56 : decode cX7_settle 56 = .ok (.getfield 38, 3) := by decide +kernel
theorem dX7_settle_59 : decode cX7_settle 59 = .ok (.iload_n 2, 1) := by decide +kernel
theorem dX7_settle_60 : decode cX7_settle 60 = .ok (.aaload, 1) := by decide +kernel
theorem dX7_settle_61 : decode cX7_settle 61 = .ok (.dup, 1) := by decide +kernel
theorem dX7_settle_62 : decode cX7_settle 62 = .ok (.getfield 112, 3) := by decide +kernel
theorem dX7_settle_65 : decode cX7_settle 65 = .ok (.bipush 10, 2) := by decide +kernel
theorem dX7_settle_67 : decode cX7_settle 67 = .ok (.isub, 1) := by decide +kernel
theorem dX7_settle_68 : decode cX7_settle 68 = .ok (.putfield 112, 3) := by decide +kernel
theorem dX7_settle_71 : decode cX7_settle 71 = .ok (.aload_n 0, 1) := by decide +kernel
theorem dX7_settle_72 : decode cX7_settle 72 = .ok (.getfield 38, 3) := by decide +kernel
theorem dX7_settle_75 : decode cX7_settle 75 = .ok (.iload_n 3, 1) := by decide +kernel
theorem dX7_settle_76 : decode cX7_settle 76 = .ok (.aaload, 1) := by decide +kernel
theorem dX7_settle_77 : decode cX7_settle 77 = .ok (.dup, 1) := by decide +kernel
theorem dX7_settle_78 : decode cX7_settle 78 = .ok (.getfield 112, 3) := by decide +kernel
theorem dX7_settle_81 : decode cX7_settle 81 = .ok (.bipush 10, 2) := by decide +kernel
theorem dX7_settle_83 : decode cX7_settle 83 = .ok (.iadd, 1) := by decide +kernel
theorem dX7_settle_84 : decode cX7_settle 84 = .ok (.putfield 112, 3) := by decide +kernel
theorem dX7_settle_87 : decode cX7_settle 87 = .ok (.iinc 3 1, 3) := by decide +kernel
theorem dX7_settle_90 : decode cX7_settle 90 = .ok (.goto (-52), 3) := by decide +kernel
theorem dX7_settle_93 : decode cX7_settle 93 = .ok (.iinc 2 1, 3) := by decide +kernel
theorem dX7_settle_96 : decode cX7_settle 96 = .ok (.goto (-65), 3) := by decide +kernel
theorem dX7_settle_99 : decode cX7_settle 99 = .ok (.return_, 1) := by decide +kernel
def f_X7_settle_38 (K31 : Nat → Nat → Int32 → zM → Option (Unit × zM)) (n : Nat) (a0 : Nat) (a1 : Nat) (i2 : Int32) (i3 : Int32) (M : zM) : Option (Unit × zM) := match n with
  | 0 => none
  | n + 1 =>
    if ((4 : Int32)) ≤ i3 then
    K31 a0 a1 ((i2 + (1 : Int32))) M
    else
    (lA 2 M a1 i2).bind fun v1 =>
    if v1 = 0 then
    (lA 2 M a1 i3).bind fun v2 =>
    if v2 = 0 then
    f_X7_settle_38 K31 n a0 a1 i2 ((i3 + (1 : Int32))) M
    else
    (gR 13 1 M a0).bind fun v3 =>
    (lQ 2 M v3 i2).bind fun v4 =>
    (gI 12 0 M v4).bind fun v5 =>
    (pI 12 0 M v4 ((v5 - ((10 : Int32))))).bind fun M6 =>
    (gR 13 1 M6 a0).bind fun v7 =>
    (lQ 2 M6 v7 i3).bind fun v8 =>
    (gI 12 0 M6 v8).bind fun v9 =>
    (pI 12 0 M6 v8 ((v9 + ((10 : Int32))))).bind fun M10 =>
    f_X7_settle_38 K31 n a0 a1 i2 ((i3 + (1 : Int32))) M10
    else
    f_X7_settle_38 K31 n a0 a1 i2 ((i3 + (1 : Int32))) M
set_option maxRecDepth 20000 in
set_option maxHeartbeats 4000000 in
theorem s_X7_settle_38 {L : zL} {X : zX} {M0 : zM} {N : Nat × Nat} {Q : State → Prop} {r : Unit × zM} {K31 : Nat → Nat → Int32 → zM → Option (Unit × zM)} (hK31 : ∀ (a0 : Nat) (a1 : Nat) (i2 : Int32) (M : zM), K31 a0 a1 i2 M = some r → V L X yX7_settle cX7_settle 4 (none : Option FieldType) 70 M0 N Q M 31 [(0, .ref (zad L (a0))), (1, .ref (zad L (a1))), (2, .int (i2))] []) (hq : vQ L X M0 N Q none r.2) {n : Nat} {a0 : Nat} {a1 : Nat} {i2 : Int32} {i3 : Int32} {M : zM} : f_X7_settle_38 K31 n a0 a1 i2 i3 M = some r → V L X yX7_settle cX7_settle 4 (none : Option FieldType) 70 M0 N Q M 38 [(0, .ref (zad L (a0))), (1, .ref (zad L (a1))), (2, .int (i2)), (3, .int (i3))] [] := by
  induction n generalizing a0 a1 i2 i3 M with
  | zero =>
    intro h
    rw [f_X7_settle_38] at h
    cases h
  | succ n ih0 =>
    intro h
    have ih : ∀ (a0 : Nat) (a1 : Nat) (i2 : Int32) (i3 : Int32) (M : zM), f_X7_settle_38 K31 n a0 a1 i2 i3 M = some r → V L X yX7_settle cX7_settle 4 (none : Option FieldType) 70 M0 N Q M 38 [(0, .ref (zad L (a0))), (1, .ref (zad L (a1))), (2, .int (i2)), (3, .int (i3))] [] := fun a0 a1 i2 i3 M h => ih0 h
    rw [f_X7_settle_38] at h
    refine V_iload_n dX7_settle_38 rfl 3 rfl ?_
    refine V_iconst (v := 4) dX7_settle_39 (by decide) ?_
    refine V_icmp_ge (tgt := 93) dX7_settle_40 (by decide) (fun c13 => ?_) (fun c13 => ?_)
    · replace h := (oi h).1 c13
      refine V_iinc (v := i2 + (1 : Int32)) (ls' := [(2, .int ((i2 + (1 : Int32)))), (0, .ref (zad L (a0))), (1, .ref (zad L (a1))), (3, .int (i3))]) dX7_settle_93 2 rfl (by rfl) (by decide) rfl ?_
      refine V_goto (tgt := 31) dX7_settle_96 (by decide) ?_
      refine V_sub [1, 2, 0] rfl ?_
      exact hK31 _ _ _ _ h
    · replace h := (oi h).2 c13
      refine V_aload_n dX7_settle_43 rfl 1 rfl ?_
      refine V_iload_n dX7_settle_44 rfl 2 rfl ?_
      replace h := ob h
      obtain ⟨v1, e_v1, h⟩ := h
      refine V_zald e_v1 dX7_settle_45 ?_
      refine V_pc (pc' := 46) rfl ?_
      refine V_if_ne (tgt := 87) dX7_settle_46 (by decide) (fun c12 => ?_) (fun c12 => ?_)
      · replace h := (oi h).2 c12
        refine V_iinc (v := i3 + (1 : Int32)) (ls' := [(3, .int ((i3 + (1 : Int32)))), (0, .ref (zad L (a0))), (1, .ref (zad L (a1))), (2, .int (i2))]) dX7_settle_87 3 rfl (by rfl) (by decide) rfl ?_
        refine V_goto (tgt := 38) dX7_settle_90 (by decide) ?_
        refine V_sub [1, 2, 3, 0] rfl ?_
        exact ih _ _ _ _ _ h
      · replace h := (oi h).1 c12
        refine V_aload_n dX7_settle_49 rfl 1 rfl ?_
        refine V_iload_n dX7_settle_50 rfl 3 rfl ?_
        replace h := ob h
        obtain ⟨v2, e_v2, h⟩ := h
        refine V_zald e_v2 dX7_settle_51 ?_
        refine V_pc (pc' := 52) rfl ?_
        refine V_if_eq (tgt := 87) dX7_settle_52 (by decide) (fun c11 => ?_) (fun c11 => ?_)
        · replace h := (oi h).1 c11
          refine V_iinc (v := i3 + (1 : Int32)) (ls' := [(3, .int ((i3 + (1 : Int32)))), (0, .ref (zad L (a0))), (1, .ref (zad L (a1))), (2, .int (i2))]) dX7_settle_87 3 rfl (by rfl) (by decide) rfl ?_
          refine V_goto (tgt := 38) dX7_settle_90 (by decide) ?_
          refine V_sub [1, 2, 3, 0] rfl ?_
          exact ih _ _ _ _ _ h
        · replace h := (oi h).2 c11
          refine V_aload_n dX7_settle_55 rfl 0 rfl ?_
          replace h := ob h
          obtain ⟨v3, e_v3, h⟩ := h
          refine V_getR zf_13_1 zl_X7_38 e_v3 dX7_settle_56 ?_
          refine V_pc (pc' := 59) rfl ?_
          refine V_iload_n dX7_settle_59 rfl 2 rfl ?_
          replace h := ob h
          obtain ⟨v4, e_v4, h⟩ := h
          refine V_aald (by decide) e_v4 dX7_settle_60 ?_
          refine V_pc (pc' := 61) rfl ?_
          refine V_dup dX7_settle_61 rfl ?_
          replace h := ob h
          obtain ⟨v5, e_v5, h⟩ := h
          refine V_getI zf_12_0 zl_X7_112 e_v5 dX7_settle_62 ?_
          refine V_pc (pc' := 65) rfl ?_
          refine V_bipush (v := 10) dX7_settle_65 (by decide) ?_
          refine V_isub dX7_settle_67 ?_
          replace h := ob h
          obtain ⟨M6, e_M6, h⟩ := h
          refine V_putI zf_12_0 zl_X7_112 (Or.inl rfl) rfl e_M6 dX7_settle_68 ?_
          refine V_pc (pc' := 71) rfl ?_
          refine V_aload_n dX7_settle_71 rfl 0 rfl ?_
          replace h := ob h
          obtain ⟨v7, e_v7, h⟩ := h
          refine V_getR zf_13_1 zl_X7_38 e_v7 dX7_settle_72 ?_
          refine V_pc (pc' := 75) rfl ?_
          refine V_iload_n dX7_settle_75 rfl 3 rfl ?_
          replace h := ob h
          obtain ⟨v8, e_v8, h⟩ := h
          refine V_aald (by decide) e_v8 dX7_settle_76 ?_
          refine V_pc (pc' := 77) rfl ?_
          refine V_dup dX7_settle_77 rfl ?_
          replace h := ob h
          obtain ⟨v9, e_v9, h⟩ := h
          refine V_getI zf_12_0 zl_X7_112 e_v9 dX7_settle_78 ?_
          refine V_pc (pc' := 81) rfl ?_
          refine V_bipush (v := 10) dX7_settle_81 (by decide) ?_
          refine V_iadd dX7_settle_83 ?_
          replace h := ob h
          obtain ⟨M10, e_M10, h⟩ := h
          refine V_putI zf_12_0 zl_X7_112 (Or.inl rfl) rfl e_M10 dX7_settle_84 ?_
          refine V_pc (pc' := 87) rfl ?_
          refine V_iinc (v := i3 + (1 : Int32)) (ls' := [(3, .int ((i3 + (1 : Int32)))), (0, .ref (zad L (a0))), (1, .ref (zad L (a1))), (2, .int (i2))]) dX7_settle_87 3 rfl (by rfl) (by decide) rfl ?_
          refine V_goto (tgt := 38) dX7_settle_90 (by decide) ?_
          refine V_sub [1, 2, 3, 0] rfl ?_
          exact ih _ _ _ _ _ h
def f_X7_settle_31 (n : Nat) (a0 : Nat) (a1 : Nat) (i2 : Int32) (M : zM) : Option (Unit × zM) := match n with
  | 0 => none
  | n + 1 =>
    if ((4 : Int32)) ≤ i2 then
    some ((), M)
    else
    f_X7_settle_38 (f_X7_settle_31 n) zN a0 a1 i2 ((0 : Int32)) M
set_option maxRecDepth 20000 in
set_option maxHeartbeats 4000000 in
theorem s_X7_settle_31 {L : zL} {X : zX} {M0 : zM} {N : Nat × Nat} {Q : State → Prop} {r : Unit × zM} (hq : vQ L X M0 N Q none r.2) {n : Nat} {a0 : Nat} {a1 : Nat} {i2 : Int32} {M : zM} : f_X7_settle_31 n a0 a1 i2 M = some r → V L X yX7_settle cX7_settle 4 (none : Option FieldType) 70 M0 N Q M 31 [(0, .ref (zad L (a0))), (1, .ref (zad L (a1))), (2, .int (i2))] [] := by
  induction n generalizing a0 a1 i2 M with
  | zero =>
    intro h
    rw [f_X7_settle_31] at h
    cases h
  | succ n ih0 =>
    intro h
    have ih : ∀ (a0 : Nat) (a1 : Nat) (i2 : Int32) (M : zM), f_X7_settle_31 n a0 a1 i2 M = some r → V L X yX7_settle cX7_settle 4 (none : Option FieldType) 70 M0 N Q M 31 [(0, .ref (zad L (a0))), (1, .ref (zad L (a1))), (2, .int (i2))] [] := fun a0 a1 i2 M h => ih0 h
    rw [f_X7_settle_31] at h
    refine V_iload_n dX7_settle_31 rfl 2 rfl ?_
    refine V_iconst (v := 4) dX7_settle_32 (by decide) ?_
    refine V_icmp_ge (tgt := 99) dX7_settle_33 (by decide) (fun c1 => ?_) (fun c1 => ?_)
    · replace h := (oi h).1 c1
      obtain rfl := Option.some.inj h
      exact V_vret rfl hq dX7_settle_99
    · replace h := (oi h).2 c1
      refine V_iconst (v := 0) dX7_settle_36 (by decide) ?_
      refine V_istore_n (ls' := [(3, .int ((0 : Int32))), (0, .ref (zad L (a0))), (1, .ref (zad L (a1))), (2, .int (i2))]) dX7_settle_37 rfl (by decide) rfl ?_
      refine V_sub [1, 2, 3, 0] rfl ?_
      exact s_X7_settle_38 ih hq h
def f_X7_settle_6 (n : Nat) (a0 : Nat) (a1 : Nat) (i2 : Int32) (M : zM) : Option (Unit × zM) := match n with
  | 0 => none
  | n + 1 =>
    if ((4 : Int32)) ≤ i2 then
    f_X7_settle_31 zN a0 a1 ((0 : Int32)) M
    else
    (gR 13 1 M a0).bind fun v1 =>
    (lQ 2 M v1 i2).bind fun v2 =>
    if mK M v2 = 12 then
    (f_X6_isReady v2 M).bind fun r3 =>
    (tZ r3.2 a1 i2 r3.1).bind fun M5 =>
    f_X7_settle_6 n a0 a1 ((i2 + (1 : Int32))) M5
    else none
set_option maxRecDepth 20000 in
set_option maxHeartbeats 4000000 in
theorem s_X7_settle_6 {L : zL} {X : zX} {M0 : zM} {N : Nat × Nat} {Q : State → Prop} {r : Unit × zM} (hq : vQ L X M0 N Q none r.2) {n : Nat} {a0 : Nat} {a1 : Nat} {i2 : Int32} {M : zM} : f_X7_settle_6 n a0 a1 i2 M = some r → V L X yX7_settle cX7_settle 4 (none : Option FieldType) 70 M0 N Q M 6 [(0, .ref (zad L (a0))), (1, .ref (zad L (a1))), (2, .int (i2))] [] := by
  induction n generalizing a0 a1 i2 M with
  | zero =>
    intro h
    rw [f_X7_settle_6] at h
    cases h
  | succ n ih0 =>
    intro h
    have ih : ∀ (a0 : Nat) (a1 : Nat) (i2 : Int32) (M : zM), f_X7_settle_6 n a0 a1 i2 M = some r → V L X yX7_settle cX7_settle 4 (none : Option FieldType) 70 M0 N Q M 6 [(0, .ref (zad L (a0))), (1, .ref (zad L (a1))), (2, .int (i2))] [] := fun a0 a1 i2 M h => ih0 h
    rw [f_X7_settle_6] at h
    refine V_iload_n dX7_settle_6 rfl 2 rfl ?_
    refine V_iconst (v := 4) dX7_settle_7 (by decide) ?_
    refine V_icmp_ge (tgt := 29) dX7_settle_8 (by decide) (fun c6 => ?_) (fun c6 => ?_)
    · replace h := (oi h).1 c6
      refine V_iconst (v := 0) dX7_settle_29 (by decide) ?_
      refine V_istore_n (ls' := [(2, .int ((0 : Int32))), (0, .ref (zad L (a0))), (1, .ref (zad L (a1)))]) dX7_settle_30 rfl (by decide) rfl ?_
      refine V_sub [1, 2, 0] rfl ?_
      exact s_X7_settle_31 hq h
    · replace h := (oi h).2 c6
      refine V_aload_n dX7_settle_11 rfl 1 rfl ?_
      refine V_iload_n dX7_settle_12 rfl 2 rfl ?_
      refine V_aload_n dX7_settle_13 rfl 0 rfl ?_
      replace h := ob h
      obtain ⟨v1, e_v1, h⟩ := h
      refine V_getR zf_13_1 zl_X7_38 e_v1 dX7_settle_14 ?_
      refine V_pc (pc' := 17) rfl ?_
      refine V_iload_n dX7_settle_17 rfl 2 rfl ?_
      replace h := ob h
      obtain ⟨v2, e_v2, h⟩ := h
      refine V_aald (by decide) e_v2 dX7_settle_18 ?_
      refine V_pc (pc' := 19) rfl ?_
      replace h := ox h
      obtain ⟨c4, h⟩ := h
      replace h := ob h
      obtain ⟨r3, e_r3, h⟩ := h
      refine V_callV_I (As := []) (rest := [.int (i2), .ref (zad L (a1))]) (c_X6_isReady e_r3) zc_X6_isReady rfl (by decide) rfl (by decide) (Or.inl c4) zm_X7_108 (Nat.le_of_ble_eq_true rfl) rfl dX7_settle_19 ?_
      refine V_pc (pc' := 22) rfl ?_
      replace h := ob h
      obtain ⟨M5, e_M5, h⟩ := h
      refine V_zast e_M5 dX7_settle_22 ?_
      refine V_iinc (v := i2 + (1 : Int32)) (ls' := [(2, .int ((i2 + (1 : Int32)))), (0, .ref (zad L (a0))), (1, .ref (zad L (a1)))]) dX7_settle_23 2 rfl (by rfl) (by decide) rfl ?_
      refine V_goto (tgt := 6) dX7_settle_26 (by decide) ?_
      refine V_sub [1, 2, 0] rfl ?_
      exact ih _ _ _ _ h
def f_X7_settle_0 (a0 : Nat) (M : zM) : Option (Unit × zM) :=
  (aA 2 M ((4 : Int32))).bind fun r1 =>
  f_X7_settle_6 zN a0 r1.1 ((0 : Int32)) r1.2
set_option maxRecDepth 20000 in
set_option maxHeartbeats 4000000 in
theorem s_X7_settle_0 {L : zL} {X : zX} {M0 : zM} {N : Nat × Nat} {Q : State → Prop} {r : Unit × zM} (hq : vQ L X M0 N Q none r.2) {a0 : Nat} {M : zM} (h : f_X7_settle_0 a0 M = some r) : V L X yX7_settle cX7_settle 4 (none : Option FieldType) 70 M0 N Q M 0 [(0, .ref (zad L (a0)))] [] := by
  unfold f_X7_settle_0 at h
  refine V_iconst (v := 4) dX7_settle_0 (by decide) ?_
  replace h := ob h
  obtain ⟨r1, e_r1, h⟩ := h
  refine V_newa (t := 2) (by decide) rfl zna_2 e_r1 dX7_settle_1 ?_
  refine V_pc (pc' := 3) rfl ?_
  refine V_astore_n (ls' := [(1, .ref (zad L (r1.1))), (0, .ref (zad L (a0)))]) dX7_settle_3 rfl (by decide) rfl ?_
  refine V_iconst (v := 0) dX7_settle_4 (by decide) ?_
  refine V_istore_n (ls' := [(2, .int ((0 : Int32))), (1, .ref (zad L (r1.1))), (0, .ref (zad L (a0)))]) dX7_settle_5 rfl (by decide) rfl ?_
  refine V_sub [2, 1, 0] rfl ?_
  exact s_X7_settle_6 hq h
def f_X7_settle (a0 : Nat) (M : zM) : Option (Unit × zM) := f_X7_settle_0 a0 M
theorem c_X7_settle {L : zL} {l : Launch} {a0 : Nat} {M : zM} {r : Unit × zM} (h : f_X7_settle a0 M = some r) : CP L l yX7_settle cX7_settle 4 (none : Option FieldType) 70 M [.ref (zad L (a0))] none r.2 :=
  CP.of ⟨by decide +kernel, by decide +kernel⟩ (Nat.le_of_ble_eq_true rfl) fun X Q hq => s_X7_settle_0 hq h
