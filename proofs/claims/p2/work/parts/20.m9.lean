/-! ===== METHODS, by program ===== -/
/-! WindsparlourModel.ofPlayerNow(II)I -/
theorem dX7_ofPlayerNow_0 : decode cX7_ofPlayerNow 0 = .ok (.aload_n 0, 1) := by decide +kernel
theorem dX7_ofPlayerNow_1 : decode cX7_ofPlayerNow 1 = .ok (.getfield 38, 3) := by decide +kernel
theorem dX7_ofPlayerNow_4 : decode cX7_ofPlayerNow 4 = .ok (.iload_n 1, 1) := by decide +kernel
theorem dX7_ofPlayerNow_5 : decode cX7_ofPlayerNow 5 = .ok (.aaload, 1) := by decide +kernel
theorem dX7_ofPlayerNow_6 : decode cX7_ofPlayerNow 6 = .ok (.astore_n 3, 1) := by decide +kernel
theorem dX7_ofPlayerNow_7 : decode cX7_ofPlayerNow 7 = .ok (.iload_n 2, 1) := by decide +kernel
theorem dX7_ofPlayerNow_8 : decode cX7_ofPlayerNow 8 = .ok (.tableswitch 124 0 8 #[52, 57, 65, 70, 75, 83, 96, 101, 119], 52) := by decide +kernel
theorem dX7_ofPlayerNow_60 : decode cX7_ofPlayerNow 60 = .ok (.aload_n 3, 1) := by decide +kernel
theorem dX7_ofPlayerNow_61 : decode cX7_ofPlayerNow 61 = .ok (.getfield 112, 3) := by decide +kernel
theorem dX7_ofPlayerNow_64 : decode cX7_ofPlayerNow 64 = .ok (.ireturn, 1) := by decide +kernel
theorem dX7_ofPlayerNow_65 : decode cX7_ofPlayerNow 65 = .ok (.aload_n 3, 1) := by decide +kernel
theorem dX7_ofPlayerNow_66 : decode cX7_ofPlayerNow 66 = .ok (.getfield 183, 3) := by decide +kernel
theorem dX7_ofPlayerNow_69 : decode cX7_ofPlayerNow 69 = .ok (.invokevirtual 144, 3) := by decide +kernel
theorem dX7_ofPlayerNow_72 : decode cX7_ofPlayerNow 72 = .ok (.ireturn, 1) := by decide +kernel
theorem dX7_ofPlayerNow_73 : decode cX7_ofPlayerNow 73 = .ok (.aload_n 3, 1) := by decide +kernel
theorem dX7_ofPlayerNow_74 : decode cX7_ofPlayerNow 74 = .ok (.invokevirtual 158, 3) := by decide +kernel
theorem dX7_ofPlayerNow_77 : decode cX7_ofPlayerNow 77 = .ok (.ireturn, 1) := by decide +kernel
theorem dX7_ofPlayerNow_78 : decode cX7_ofPlayerNow 78 = .ok (.aload_n 3, 1) := by decide +kernel
theorem dX7_ofPlayerNow_79 : decode cX7_ofPlayerNow 79 = .ok (.invokevirtual 269, 3) := by decide +kernel
theorem dX7_ofPlayerNow_82 : decode cX7_ofPlayerNow 82 = .ok (.ireturn, 1) := by decide +kernel
theorem dX7_ofPlayerNow_83 : decode cX7_ofPlayerNow 83 = .ok (.aload_n 3, 1) := by decide +kernel
theorem dX7_ofPlayerNow_84 : decode cX7_ofPlayerNow 84 = .ok (.getfield 124, 3) := by decide +kernel
theorem dX7_ofPlayerNow_87 : decode cX7_ofPlayerNow 87 = .ok (.invokevirtual 144, 3) := by decide +kernel
theorem dX7_ofPlayerNow_90 : decode cX7_ofPlayerNow 90 = .ok (.ireturn, 1) := by decide +kernel
theorem dX7_ofPlayerNow_91 : decode cX7_ofPlayerNow 91 = .ok (.aload_n 3, 1) := by decide +kernel
theorem dX7_ofPlayerNow_92 : decode cX7_ofPlayerNow 92 = .ok (.getfield 151, 3) := by decide +kernel
theorem dX7_ofPlayerNow_95 : decode cX7_ofPlayerNow 95 = .ok (.ifCond .eq 7, 3) := by decide +kernel
theorem dX7_ofPlayerNow_98 : decode cX7_ofPlayerNow 98 = .ok (.iconst 1, 1) := by decide +kernel
theorem dX7_ofPlayerNow_99 : decode cX7_ofPlayerNow 99 = .ok (.goto 4, 3) := by decide +kernel
theorem dX7_ofPlayerNow_102 : decode cX7_ofPlayerNow 102 = .ok (.iconst 0, 1) := by decide +kernel
theorem dX7_ofPlayerNow_103 : decode cX7_ofPlayerNow 103 = .ok (.ireturn, 1) := by decide +kernel
theorem dX7_ofPlayerNow_104 : decode cX7_ofPlayerNow 104 = .ok (.aload_n 3, 1) := by decide +kernel
theorem dX7_ofPlayerNow_105 : decode cX7_ofPlayerNow 105 = .ok (.invokevirtual 272, 3) := by decide +kernel
theorem dX7_ofPlayerNow_108 : decode cX7_ofPlayerNow 108 = .ok (.ireturn, 1) := by decide +kernel
theorem dX7_ofPlayerNow_109 : decode cX7_ofPlayerNow 109 = .ok (.aload_n 0, 1) := by decide +kernel
theorem dX7_ofPlayerNow_110 : decode cX7_ofPlayerNow 110 = .ok (.getfield 53, 3) := by decide +kernel
theorem dX7_ofPlayerNow_113 : decode cX7_ofPlayerNow 113 = .ok (.iconst (-1), 1) := by decide +kernel
theorem dX7_ofPlayerNow_114 : decode cX7_ofPlayerNow 114 = .ok (.if_icmp .ne 7, 3) := by decide +kernel
theorem dX7_ofPlayerNow_117 : decode cX7_ofPlayerNow 117 = .ok (.iconst (-1), 1) := by decide +kernel
theorem dX7_ofPlayerNow_118 : decode cX7_ofPlayerNow 118 = .ok (.goto 8, 3) := by decide +kernel
theorem dX7_ofPlayerNow_121 : decode cX7_ofPlayerNow 121 = .ok (.aload_n 0, 1) := by decide +kernel
theorem dX7_ofPlayerNow_122 : decode cX7_ofPlayerNow 122 = .ok (.iload_n 1, 1) := by decide +kernel
theorem dX7_ofPlayerNow_123 : decode cX7_ofPlayerNow 123 = .ok (.invokevirtual 226, 3) := by decide +kernel
theorem dX7_ofPlayerNow_126 : decode cX7_ofPlayerNow 126 = .ok (.ireturn, 1) := by decide +kernel
theorem dX7_ofPlayerNow_127 : decode cX7_ofPlayerNow 127 = .ok (.aload_n 3, 1) := by decide +kernel
theorem dX7_ofPlayerNow_128 : decode cX7_ofPlayerNow 128 = .ok (.getfield 266, 3) := by decide +kernel
theorem dX7_ofPlayerNow_131 : decode cX7_ofPlayerNow 131 = .ok (.ireturn, 1) := by decide +kernel
theorem dX7_ofPlayerNow_132 : decode cX7_ofPlayerNow 132 = .ok (.aload_n 0, 1) := by decide +kernel
theorem dX7_ofPlayerNow_133 : decode cX7_ofPlayerNow 133 = .ok (.aload_n 3, 1) := by decide +kernel
theorem dX7_ofPlayerNow_134 : decode cX7_ofPlayerNow 134 = .ok (.invokevirtual 255, 3) := by decide +kernel
theorem dX7_ofPlayerNow_137 : decode cX7_ofPlayerNow 137 = .ok (.ifCond .eq 7, 3) := by decide +kernel
theorem dX7_ofPlayerNow_140 : decode cX7_ofPlayerNow 140 = .ok (.iconst 1, 1) := by decide +kernel
theorem dX7_ofPlayerNow_141 : decode cX7_ofPlayerNow 141 = .ok (.goto 4, 3) := by decide +kernel
theorem dX7_ofPlayerNow_144 : decode cX7_ofPlayerNow 144 = .ok (.iconst 0, 1) := by decide +kernel
theorem dX7_ofPlayerNow_145 : decode cX7_ofPlayerNow 145 = .ok (.ireturn, 1) := by decide +kernel
def f_X7_ofPlayerNow_0 (a0 : Nat) (i1 : Int32) (i2 : Int32) (M : zM) : Option (Int32 × zM) :=
  (gR 13 1 M a0).bind fun v1 =>
  (lQ 2 M v1 i1).bind fun v2 =>
  if i2 = 0 then
  (gI 12 0 M v2).bind fun v30 =>
  some (v30, M)
  else
  if i2 = 1 then
  (gR 12 3 M v2).bind fun v29 =>
  none
  else
  if i2 = 2 then
  if mK M v2 = 12 then
  (f_X6_open v2 M).bind fun r27 =>
  some (r27.1, r27.2)
  else none
  else
  if i2 = 3 then
  if mK M v2 = 12 then
  (f_X6_tiles v2 M).bind fun r25 =>
  some (r25.1, r25.2)
  else none
  else
  if i2 = 4 then
  (gR 12 4 M v2).bind fun v24 =>
  none
  else
  if i2 = 5 then
  (gI 12 6 M v2).bind fun v22 =>
  if v22 = 0 then
  some ((0 : Int32), M)
  else
  some ((1 : Int32), M)
  else
  if i2 = 6 then
  if mK M v2 = 12 then
  (f_X6_far v2 M).bind fun r20 =>
  some (r20.1, r20.2)
  else none
  else
  if i2 = 7 then
  (gI 13 8 M a0).bind fun v16 =>
  if v16 = ((-1 : Int32)) then
  some ((-1 : Int32), M)
  else
  if mK M a0 = 13 then
  (f_X7_wind a0 i1 M).bind fun r17 =>
  some (r17.1, r17.2)
  else none
  else
  if i2 = 8 then
  (gI 12 1 M v2).bind fun v15 =>
  some (v15, M)
  else
  if mK M a0 = 13 then
  (f_X7_isBarred a0 v2 M).bind fun r12 =>
  if r12.1 = 0 then
  some ((0 : Int32), r12.2)
  else
  some ((1 : Int32), r12.2)
  else none
set_option maxRecDepth 20000 in
set_option maxHeartbeats 4000000 in
theorem s_X7_ofPlayerNow_0 {L : zL} {X : zX} {M0 : zM} {N : Nat × Nat} {Q : State → Prop} {r : Int32 × zM} (hq : vQ L X M0 N Q (some (.int r.1)) r.2) {a0 : Nat} {i1 : Int32} {i2 : Int32} {M : zM} (h : f_X7_ofPlayerNow_0 a0 i1 i2 M = some r) : V L X yX7_ofPlayerNow cX7_ofPlayerNow 4 (some FieldType.int) 132 M0 N Q M 0 [(0, .ref (zad L (a0))), (1, .int (i1)), (2, .int (i2))] [] := by
  unfold f_X7_ofPlayerNow_0 at h
  refine V_aload_n dX7_ofPlayerNow_0 rfl 0 rfl ?_
  replace h := ob h
  obtain ⟨v1, e_v1, h⟩ := h
  refine V_getR zf_13_1 zl_X7_38 e_v1 dX7_ofPlayerNow_1 ?_
  refine V_pc (pc' := 4) rfl ?_
  refine V_iload_n dX7_ofPlayerNow_4 rfl 1 rfl ?_
  replace h := ob h
  obtain ⟨v2, e_v2, h⟩ := h
  refine V_aald (by decide) e_v2 dX7_ofPlayerNow_5 ?_
  refine V_pc (pc' := 6) rfl ?_
  refine V_astore_n (ls' := [(3, .ref (zad L (v2))), (0, .ref (zad L (a0))), (1, .int (i1)), (2, .int (i2))]) dX7_ofPlayerNow_6 rfl (by decide) rfl ?_
  refine V_iload_n dX7_ofPlayerNow_7 rfl 3 rfl ?_
  by_cases c3 : i2 = 0
  · replace h := (oi h).1 c3
    refine V_tabIn (off := 52) (tgt := 60) dX7_ofPlayerNow_8 (by rw [c3]; decide) (by rw [c3]; decide) (by rw [c3]; decide) (by decide) ?_
    refine V_aload_n dX7_ofPlayerNow_60 rfl 0 rfl ?_
    replace h := ob h
    obtain ⟨v30, e_v30, h⟩ := h
    refine V_getI zf_12_0 zl_X7_112 e_v30 dX7_ofPlayerNow_61 ?_
    refine V_pc (pc' := 64) rfl ?_
    cases h
    exact V_iret rfl hq dX7_ofPlayerNow_64
  · replace h := (oi h).2 c3
    by_cases c4 : i2 = 1
    · replace h := (oi h).1 c4
      refine V_tabIn (off := 57) (tgt := 65) dX7_ofPlayerNow_8 (by rw [c4]; decide) (by rw [c4]; decide) (by rw [c4]; decide) (by decide) ?_
      refine V_aload_n dX7_ofPlayerNow_65 rfl 0 rfl ?_
      replace h := ob h
      obtain ⟨v29, e_v29, h⟩ := h
      refine V_getR zf_12_3 zl_X7_183 e_v29 dX7_ofPlayerNow_66 ?_
      refine V_pc (pc' := 69) rfl ?_
      cases h
    · replace h := (oi h).2 c4
      by_cases c5 : i2 = 2
      · replace h := (oi h).1 c5
        refine V_tabIn (off := 65) (tgt := 73) dX7_ofPlayerNow_8 (by rw [c5]; decide) (by rw [c5]; decide) (by rw [c5]; decide) (by decide) ?_
        refine V_aload_n dX7_ofPlayerNow_73 rfl 0 rfl ?_
        replace h := ox h
        obtain ⟨c28, h⟩ := h
        replace h := ob h
        obtain ⟨r27, e_r27, h⟩ := h
        refine V_callV_I (As := []) (rest := []) (c_X6_open e_r27) zc_X6_open rfl (by decide) rfl (by decide) (Or.inl c28) zm_X7_158 (Nat.le_of_ble_eq_true rfl) rfl dX7_ofPlayerNow_74 ?_
        refine V_pc (pc' := 77) rfl ?_
        cases h
        exact V_iret rfl hq dX7_ofPlayerNow_77
      · replace h := (oi h).2 c5
        by_cases c6 : i2 = 3
        · replace h := (oi h).1 c6
          refine V_tabIn (off := 70) (tgt := 78) dX7_ofPlayerNow_8 (by rw [c6]; decide) (by rw [c6]; decide) (by rw [c6]; decide) (by decide) ?_
          refine V_aload_n dX7_ofPlayerNow_78 rfl 0 rfl ?_
          replace h := ox h
          obtain ⟨c26, h⟩ := h
          replace h := ob h
          obtain ⟨r25, e_r25, h⟩ := h
          refine V_callV_I (As := []) (rest := []) (c_X6_tiles e_r25) zc_X6_tiles rfl (by decide) rfl (by decide) (Or.inl c26) zm_X7_269 (Nat.le_of_ble_eq_true rfl) rfl dX7_ofPlayerNow_79 ?_
          refine V_pc (pc' := 82) rfl ?_
          cases h
          exact V_iret rfl hq dX7_ofPlayerNow_82
        · replace h := (oi h).2 c6
          by_cases c7 : i2 = 4
          · replace h := (oi h).1 c7
            refine V_tabIn (off := 75) (tgt := 83) dX7_ofPlayerNow_8 (by rw [c7]; decide) (by rw [c7]; decide) (by rw [c7]; decide) (by decide) ?_
            refine V_aload_n dX7_ofPlayerNow_83 rfl 0 rfl ?_
            replace h := ob h
            obtain ⟨v24, e_v24, h⟩ := h
            refine V_getR zf_12_4 zl_X7_124 e_v24 dX7_ofPlayerNow_84 ?_
            refine V_pc (pc' := 87) rfl ?_
            cases h
          · replace h := (oi h).2 c7
            by_cases c8 : i2 = 5
            · replace h := (oi h).1 c8
              refine V_tabIn (off := 83) (tgt := 91) dX7_ofPlayerNow_8 (by rw [c8]; decide) (by rw [c8]; decide) (by rw [c8]; decide) (by decide) ?_
              refine V_aload_n dX7_ofPlayerNow_91 rfl 0 rfl ?_
              replace h := ob h
              obtain ⟨v22, e_v22, h⟩ := h
              refine V_getI zf_12_6 zl_X7_151 e_v22 dX7_ofPlayerNow_92 ?_
              refine V_pc (pc' := 95) rfl ?_
              refine V_if_eq (tgt := 102) dX7_ofPlayerNow_95 (by decide) (fun c23 => ?_) (fun c23 => ?_)
              · replace h := (oi h).1 c23
                refine V_iconst (v := 0) dX7_ofPlayerNow_102 (by decide) ?_
                cases h
                exact V_iret rfl hq dX7_ofPlayerNow_103
              · replace h := (oi h).2 c23
                refine V_iconst (v := 1) dX7_ofPlayerNow_98 (by decide) ?_
                refine V_goto (tgt := 103) dX7_ofPlayerNow_99 (by decide) ?_
                cases h
                exact V_iret rfl hq dX7_ofPlayerNow_103
            · replace h := (oi h).2 c8
              by_cases c9 : i2 = 6
              · replace h := (oi h).1 c9
                refine V_tabIn (off := 96) (tgt := 104) dX7_ofPlayerNow_8 (by rw [c9]; decide) (by rw [c9]; decide) (by rw [c9]; decide) (by decide) ?_
                refine V_aload_n dX7_ofPlayerNow_104 rfl 0 rfl ?_
                replace h := ox h
                obtain ⟨c21, h⟩ := h
                replace h := ob h
                obtain ⟨r20, e_r20, h⟩ := h
                refine V_callV_I (As := []) (rest := []) (c_X6_far e_r20) zc_X6_far rfl (by decide) rfl (by decide) (Or.inl c21) zm_X7_272 (Nat.le_of_ble_eq_true rfl) rfl dX7_ofPlayerNow_105 ?_
                refine V_pc (pc' := 108) rfl ?_
                cases h
                exact V_iret rfl hq dX7_ofPlayerNow_108
              · replace h := (oi h).2 c9
                by_cases c10 : i2 = 7
                · replace h := (oi h).1 c10
                  refine V_tabIn (off := 101) (tgt := 109) dX7_ofPlayerNow_8 (by rw [c10]; decide) (by rw [c10]; decide) (by rw [c10]; decide) (by decide) ?_
                  refine V_aload_n dX7_ofPlayerNow_109 rfl 1 rfl ?_
                  replace h := ob h
                  obtain ⟨v16, e_v16, h⟩ := h
                  refine V_getI zf_13_8 zl_X7_53 e_v16 dX7_ofPlayerNow_110 ?_
                  refine V_pc (pc' := 113) rfl ?_
                  refine V_iconst (v := -1) dX7_ofPlayerNow_113 (by decide) ?_
                  refine V_icmp_ne (tgt := 121) dX7_ofPlayerNow_114 (by decide) (fun c19 => ?_) (fun c19 => ?_)
                  · replace h := (oi h).2 c19
                    refine V_aload_n dX7_ofPlayerNow_121 rfl 1 rfl ?_
                    refine V_iload_n dX7_ofPlayerNow_122 rfl 2 rfl ?_
                    replace h := ox h
                    obtain ⟨c18, h⟩ := h
                    replace h := ob h
                    obtain ⟨r17, e_r17, h⟩ := h
                    refine V_callV_I (As := [.int (i1)]) (rest := []) (c_X7_wind e_r17) zc_X7_wind rfl (by decide) rfl (by decide) (Or.inl c18) zm_X7_226 (Nat.le_of_ble_eq_true rfl) rfl dX7_ofPlayerNow_123 ?_
                    refine V_pc (pc' := 126) rfl ?_
                    cases h
                    exact V_iret rfl hq dX7_ofPlayerNow_126
                  · replace h := (oi h).1 c19
                    refine V_iconst (v := -1) dX7_ofPlayerNow_117 (by decide) ?_
                    refine V_goto (tgt := 126) dX7_ofPlayerNow_118 (by decide) ?_
                    cases h
                    exact V_iret rfl hq dX7_ofPlayerNow_126
                · replace h := (oi h).2 c10
                  by_cases c11 : i2 = 8
                  · replace h := (oi h).1 c11
                    refine V_tabIn (off := 119) (tgt := 127) dX7_ofPlayerNow_8 (by rw [c11]; decide) (by rw [c11]; decide) (by rw [c11]; decide) (by decide) ?_
                    refine V_aload_n dX7_ofPlayerNow_127 rfl 0 rfl ?_
                    replace h := ob h
                    obtain ⟨v15, e_v15, h⟩ := h
                    refine V_getI zf_12_1 zl_X7_266 e_v15 dX7_ofPlayerNow_128 ?_
                    refine V_pc (pc' := 131) rfl ?_
                    cases h
                    exact V_iret rfl hq dX7_ofPlayerNow_131
                  · replace h := (oi h).2 c11
                    have hsw : (i2).toInt < 0 ∨ 8 < (i2).toInt := by
                      have q0 : ¬ (i2).toInt = 0 := fun e => c3 (Int32.toInt_inj.mp (e.trans (by decide)))
                      have q1 : ¬ (i2).toInt = 1 := fun e => c4 (Int32.toInt_inj.mp (e.trans (by decide)))
                      have q2 : ¬ (i2).toInt = 2 := fun e => c5 (Int32.toInt_inj.mp (e.trans (by decide)))
                      have q3 : ¬ (i2).toInt = 3 := fun e => c6 (Int32.toInt_inj.mp (e.trans (by decide)))
                      have q4 : ¬ (i2).toInt = 4 := fun e => c7 (Int32.toInt_inj.mp (e.trans (by decide)))
                      have q5 : ¬ (i2).toInt = 5 := fun e => c8 (Int32.toInt_inj.mp (e.trans (by decide)))
                      have q6 : ¬ (i2).toInt = 6 := fun e => c9 (Int32.toInt_inj.mp (e.trans (by decide)))
                      have q7 : ¬ (i2).toInt = 7 := fun e => c10 (Int32.toInt_inj.mp (e.trans (by decide)))
                      have q8 : ¬ (i2).toInt = 8 := fun e => c11 (Int32.toInt_inj.mp (e.trans (by decide)))
                      omega
                    refine V_tabOut (tgt := 132) dX7_ofPlayerNow_8 hsw (by decide) ?_
                    refine V_aload_n dX7_ofPlayerNow_132 rfl 1 rfl ?_
                    refine V_aload_n dX7_ofPlayerNow_133 rfl 0 rfl ?_
                    replace h := ox h
                    obtain ⟨c13, h⟩ := h
                    replace h := ob h
                    obtain ⟨r12, e_r12, h⟩ := h
                    refine V_callV_I (As := [.ref (zad L (v2))]) (rest := []) (c_X7_isBarred e_r12) zc_X7_isBarred rfl (by decide) rfl (by decide) (Or.inl c13) zm_X7_255 (Nat.le_of_ble_eq_true rfl) rfl dX7_ofPlayerNow_134 ?_
                    refine V_pc (pc' := 137) rfl ?_
                    refine V_if_eq (tgt := 144) dX7_ofPlayerNow_137 (by decide) (fun c14 => ?_) (fun c14 => ?_)
                    · replace h := (oi h).1 c14
                      refine V_iconst (v := 0) dX7_ofPlayerNow_144 (by decide) ?_
                      cases h
                      exact V_iret rfl hq dX7_ofPlayerNow_145
                    · replace h := (oi h).2 c14
                      refine V_iconst (v := 1) dX7_ofPlayerNow_140 (by decide) ?_
                      refine V_goto (tgt := 145) dX7_ofPlayerNow_141 (by decide) ?_
                      cases h
                      exact V_iret rfl hq dX7_ofPlayerNow_145
def f_X7_ofPlayerNow (a0 : Nat) (i1 : Int32) (i2 : Int32) (M : zM) : Option (Int32 × zM) := f_X7_ofPlayerNow_0 a0 i1 i2 M
theorem c_X7_ofPlayerNow {L : zL} {l : Launch} {a0 : Nat} {i1 : Int32} {i2 : Int32} {M : zM} {r : Int32 × zM} (h : f_X7_ofPlayerNow a0 i1 i2 M = some r) : CP L l yX7_ofPlayerNow cX7_ofPlayerNow 4 (some FieldType.int) 132 M [.ref (zad L (a0)), .int (i1), .int (i2)] (some (.int r.1)) r.2 :=
  CP.of ⟨by decide +kernel, by decide +kernel⟩ (Nat.le_of_ble_eq_true rfl) fun X Q hq => s_X7_ofPlayerNow_0 hq h
/-! WindsparlourModel.ofPlayer(II)I -/
theorem dX7_ofPlayer_0 : decode cX7_ofPlayer 0 = .ok (.aload_n 0, 1) := by decide +kernel
theorem dX7_ofPlayer_1 : decode cX7_ofPlayer 1 = .ok (.iload_n 1, 1) := by decide +kernel
theorem dX7_ofPlayer_2 : decode cX7_ofPlayer 2 = .ok (.invokestatic 174, 3) := by decide +kernel
theorem dX7_ofPlayer_5 : decode cX7_ofPlayer 5 = .ok (.iconst 1, 1) := by decide +kernel
theorem dX7_ofPlayer_6 : decode cX7_ofPlayer 6 = .ok (.invokevirtual 85, 3) := by decide +kernel
theorem dX7_ofPlayer_9 : decode cX7_ofPlayer 9 = .ok (.ifCond .ne 26, 3) := by decide +kernel
theorem dX7_ofPlayer_12 : decode cX7_ofPlayer 12 = .ok (.aload_n 0, 1) := by decide +kernel
theorem dX7_ofPlayer_13 : decode cX7_ofPlayer 13 = .ok (.iload_n 2, 1) := by decide +kernel
theorem dX7_ofPlayer_14 : decode cX7_ofPlayer 14 = .ok (.iconst 0, 1) := by decide +kernel
theorem dX7_ofPlayer_15 : decode cX7_ofPlayer 15 = .ok (.bipush 9, 2) := by decide +kernel
theorem dX7_ofPlayer_17 : decode cX7_ofPlayer 17 = .ok (.invokestatic 3, 3) := by decide +kernel
theorem dX7_ofPlayer_20 : decode cX7_ofPlayer 20 = .ok (.ifCond .ne 7, 3) := by decide +kernel
theorem dX7_ofPlayer_23 : decode cX7_ofPlayer 23 = .ok (.iconst 1, 1) := by decide +kernel
theorem dX7_ofPlayer_24 : decode cX7_ofPlayer 24 = .ok (.goto 4, 3) := by decide +kernel
theorem dX7_ofPlayer_27 : decode cX7_ofPlayer 27 = .ok (.iconst 0, 1) := by decide +kernel
theorem dX7_ofPlayer_28 : decode cX7_ofPlayer 28 = .ok (.iconst 2, 1) := by decide +kernel
theorem dX7_ofPlayer_29 : decode cX7_ofPlayer 29 = .ok (.invokevirtual 68, 3) := by decide +kernel
theorem dX7_ofPlayer_32 : decode cX7_ofPlayer 32 = .ok (.ifCond .eq 7, 3) := by decide +kernel
theorem dX7_ofPlayer_35 : decode cX7_ofPlayer 35 = .ok (.iconst 0, 1) := by decide +kernel
theorem dX7_ofPlayer_36 : decode cX7_ofPlayer 36 = .ok (.goto 9, 3) := by decide +kernel
theorem dX7_ofPlayer_39 : decode cX7_ofPlayer 39 = .ok (.aload_n 0, 1) := by decide +kernel
theorem dX7_ofPlayer_40 : decode cX7_ofPlayer 40 = .ok (.iload_n 1, 1) := by decide +kernel
theorem dX7_ofPlayer_41 : decode cX7_ofPlayer 41 = .ok (.iload_n 2, 1) := by decide +kernel
theorem dX7_ofPlayer_42 : decode cX7_ofPlayer 42 = .ok (.invokevirtual 274, 3) := by decide +kernel
theorem dX7_ofPlayer_45 : decode cX7_ofPlayer 45 = .ok (.ireturn, 1) := by decide +kernel
def f_X7_ofPlayer_28 (a0 : Nat) (i1 : Int32) (i2 : Int32) (i_0 : Int32) (a_1 : Nat) (M : zM) : Option (Int32 × zM) :=
  if mK M a_1 = 13 then
  (f_X7_refuse a_1 i_0 ((2 : Int32)) M).bind fun r1 =>
  if r1.1 = 0 then
  if mK r1.2 a0 = 13 then
  (f_X7_ofPlayerNow a0 i1 i2 r1.2).bind fun r3 =>
  some (r3.1, r3.2)
  else none
  else
  some ((0 : Int32), r1.2)
  else none
set_option maxRecDepth 20000 in
set_option maxHeartbeats 4000000 in
theorem s_X7_ofPlayer_28 {L : zL} {X : zX} {M0 : zM} {N : Nat × Nat} {Q : State → Prop} {r : Int32 × zM} (hq : vQ L X M0 N Q (some (.int r.1)) r.2) {a0 : Nat} {i1 : Int32} {i2 : Int32} {i_0 : Int32} {a_1 : Nat} {M : zM} (h : f_X7_ofPlayer_28 a0 i1 i2 i_0 a_1 M = some r) : V L X yX7_ofPlayer cX7_ofPlayer 3 (some FieldType.int) 133 M0 N Q M 28 [(0, .ref (zad L (a0))), (1, .int (i1)), (2, .int (i2))] [.int (i_0), .ref (zad L (a_1))] := by
  unfold f_X7_ofPlayer_28 at h
  refine V_iconst (v := 2) dX7_ofPlayer_28 (by decide) ?_
  replace h := ox h
  obtain ⟨c2, h⟩ := h
  replace h := ob h
  obtain ⟨r1, e_r1, h⟩ := h
  refine V_callV_I (As := [.int (i_0), .int ((2 : Int32))]) (rest := []) (c_X7_refuse e_r1) zc_X7_refuse rfl (by decide) rfl (by decide) (Or.inl c2) zm_X7_68 (Nat.le_of_ble_eq_true rfl) rfl dX7_ofPlayer_29 ?_
  refine V_pc (pc' := 32) rfl ?_
  refine V_if_eq (tgt := 39) dX7_ofPlayer_32 (by decide) (fun c5 => ?_) (fun c5 => ?_)
  · replace h := (oi h).1 c5
    refine V_aload_n dX7_ofPlayer_39 rfl 0 rfl ?_
    refine V_iload_n dX7_ofPlayer_40 rfl 1 rfl ?_
    refine V_iload_n dX7_ofPlayer_41 rfl 2 rfl ?_
    replace h := ox h
    obtain ⟨c4, h⟩ := h
    replace h := ob h
    obtain ⟨r3, e_r3, h⟩ := h
    refine V_callV_I (As := [.int (i1), .int (i2)]) (rest := []) (c_X7_ofPlayerNow e_r3) zc_X7_ofPlayerNow rfl (by decide) rfl (by decide) (Or.inl c4) zm_X7_274 (Nat.le_of_ble_eq_true rfl) rfl dX7_ofPlayer_42 ?_
    refine V_pc (pc' := 45) rfl ?_
    cases h
    exact V_iret rfl hq dX7_ofPlayer_45
  · replace h := (oi h).2 c5
    refine V_iconst (v := 0) dX7_ofPlayer_35 (by decide) ?_
    refine V_goto (tgt := 45) dX7_ofPlayer_36 (by decide) ?_
    cases h
    exact V_iret rfl hq dX7_ofPlayer_45
def f_X7_ofPlayer_0 (a0 : Nat) (i1 : Int32) (i2 : Int32) (M : zM) : Option (Int32 × zM) :=
  (f_X7_isNoPlayer i1 M).bind fun r1 =>
  if mK r1.2 a0 = 13 then
  (f_X7_start a0 r1.1 ((1 : Int32)) r1.2).bind fun r2 =>
  if r2.1 = 0 then
  (f_X7_isIn i2 ((0 : Int32)) ((9 : Int32)) r2.2).bind fun r4 =>
  if r4.1 = 0 then
  f_X7_ofPlayer_28 a0 i1 i2 ((1 : Int32)) a0 r4.2
  else
  f_X7_ofPlayer_28 a0 i1 i2 ((0 : Int32)) a0 r4.2
  else
  some ((0 : Int32), r2.2)
  else none
set_option maxRecDepth 20000 in
set_option maxHeartbeats 4000000 in
theorem s_X7_ofPlayer_0 {L : zL} {X : zX} {M0 : zM} {N : Nat × Nat} {Q : State → Prop} {r : Int32 × zM} (hq : vQ L X M0 N Q (some (.int r.1)) r.2) {a0 : Nat} {i1 : Int32} {i2 : Int32} {M : zM} (h : f_X7_ofPlayer_0 a0 i1 i2 M = some r) : V L X yX7_ofPlayer cX7_ofPlayer 3 (some FieldType.int) 133 M0 N Q M 0 [(0, .ref (zad L (a0))), (1, .int (i1)), (2, .int (i2))] [] := by
  unfold f_X7_ofPlayer_0 at h
  refine V_aload_n dX7_ofPlayer_0 rfl 0 rfl ?_
  refine V_iload_n dX7_ofPlayer_1 rfl 1 rfl ?_
  replace h := ob h
  obtain ⟨r1, e_r1, h⟩ := h
  refine V_callS_I (As := [.int (i1)]) (rest := [.ref (zad L (a0))]) (c_X7_isNoPlayer e_r1) zc_X7_isNoPlayer rfl (by decide) zm_X7_174 (Nat.le_of_ble_eq_true rfl) rfl dX7_ofPlayer_2 ?_
  refine V_pc (pc' := 5) rfl ?_
  refine V_iconst (v := 1) dX7_ofPlayer_5 (by decide) ?_
  replace h := ox h
  obtain ⟨c3, h⟩ := h
  replace h := ob h
  obtain ⟨r2, e_r2, h⟩ := h
  refine V_callV_I (As := [.int (r1.1), .int ((1 : Int32))]) (rest := []) (c_X7_start e_r2) zc_X7_start rfl (by decide) rfl (by decide) (Or.inl c3) zm_X7_85 (Nat.le_of_ble_eq_true rfl) rfl dX7_ofPlayer_6 ?_
  refine V_pc (pc' := 9) rfl ?_
  refine V_if_ne (tgt := 35) dX7_ofPlayer_9 (by decide) (fun c6 => ?_) (fun c6 => ?_)
  · replace h := (oi h).2 c6
    refine V_iconst (v := 0) dX7_ofPlayer_35 (by decide) ?_
    refine V_goto (tgt := 45) dX7_ofPlayer_36 (by decide) ?_
    cases h
    exact V_iret rfl hq dX7_ofPlayer_45
  · replace h := (oi h).1 c6
    refine V_aload_n dX7_ofPlayer_12 rfl 0 rfl ?_
    refine V_iload_n dX7_ofPlayer_13 rfl 2 rfl ?_
    refine V_iconst (v := 0) dX7_ofPlayer_14 (by decide) ?_
    refine V_bipush (v := 9) dX7_ofPlayer_15 (by decide) ?_
    replace h := ob h
    obtain ⟨r4, e_r4, h⟩ := h
    refine V_callS_I (As := [.int (i2), .int ((0 : Int32)), .int ((9 : Int32))]) (rest := [.ref (zad L (a0))]) (c_X7_isIn e_r4) zc_X7_isIn rfl (by decide) zm_X7_3 (Nat.le_of_ble_eq_true rfl) rfl dX7_ofPlayer_17 ?_
    refine V_pc (pc' := 20) rfl ?_
    refine V_if_ne (tgt := 27) dX7_ofPlayer_20 (by decide) (fun c5 => ?_) (fun c5 => ?_)
    · replace h := (oi h).2 c5
      refine V_iconst (v := 0) dX7_ofPlayer_27 (by decide) ?_
      exact s_X7_ofPlayer_28 hq h
    · replace h := (oi h).1 c5
      refine V_iconst (v := 1) dX7_ofPlayer_23 (by decide) ?_
      refine V_goto (tgt := 28) dX7_ofPlayer_24 (by decide) ?_
      exact s_X7_ofPlayer_28 hq h
def f_X7_ofPlayer (a0 : Nat) (i1 : Int32) (i2 : Int32) (M : zM) : Option (Int32 × zM) := f_X7_ofPlayer_0 a0 i1 i2 M
theorem c_X7_ofPlayer {L : zL} {l : Launch} {a0 : Nat} {i1 : Int32} {i2 : Int32} {M : zM} {r : Int32 × zM} (h : f_X7_ofPlayer a0 i1 i2 M = some r) : CP L l yX7_ofPlayer cX7_ofPlayer 3 (some FieldType.int) 133 M [.ref (zad L (a0)), .int (i1), .int (i2)] (some (.int r.1)) r.2 :=
  CP.of ⟨by decide +kernel, by decide +kernel⟩ (Nat.le_of_ble_eq_true rfl) fun X Q hq => s_X7_ofPlayer_0 hq h
/-! WindsparlourModel.ofSetNow(LWindsparlourModel$Lying;)I -/
theorem dX7_ofSetNow_0 : decode cX7_ofSetNow 0 = .ok (.aload_n 0, 1) := by decide +kernel
theorem dX7_ofSetNow_1 : decode cX7_ofSetNow 1 = .ok (.getfield 241, 3) := by decide +kernel
theorem dX7_ofSetNow_4 : decode cX7_ofSetNow 4 = .ok (.bipush 100, 2) := by decide +kernel
theorem dX7_ofSetNow_6 : decode cX7_ofSetNow 6 = .ok (.aload_n 0, 1) := by decide +kernel
theorem dX7_ofSetNow_7 : decode cX7_ofSetNow 7 = .ok (.getfield 238, 3) := by decide +kernel
theorem dX7_ofSetNow_10 : decode cX7_ofSetNow 10 = .ok (.imul, 1) := by decide +kernel
theorem dX7_ofSetNow_11 : decode cX7_ofSetNow 11 = .ok (.iadd, 1) := by decide +kernel
theorem dX7_ofSetNow_12 : decode cX7_ofSetNow 12 = .ok (.ireturn, 1) := by decide +kernel
def f_X7_ofSetNow_0 (a0 : Nat) (M : zM) : Option (Int32 × zM) :=
  (gI 11 0 M a0).bind fun v1 =>
  (gI 11 1 M a0).bind fun v2 =>
  some ((v1 + ((((100 : Int32)) * v2))), M)
set_option maxRecDepth 20000 in
set_option maxHeartbeats 4000000 in
theorem s_X7_ofSetNow_0 {L : zL} {X : zX} {M0 : zM} {N : Nat × Nat} {Q : State → Prop} {r : Int32 × zM} (hq : vQ L X M0 N Q (some (.int r.1)) r.2) {a0 : Nat} {M : zM} (h : f_X7_ofSetNow_0 a0 M = some r) : V L X yX7_ofSetNow cX7_ofSetNow 1 (some FieldType.int) 1 M0 N Q M 0 [(0, .ref (zad L (a0)))] [] := by
  unfold f_X7_ofSetNow_0 at h
  refine V_aload_n dX7_ofSetNow_0 rfl 0 rfl ?_
  replace h := ob h
  obtain ⟨v1, e_v1, h⟩ := h
  refine V_getI zf_11_0 zl_X7_241 e_v1 dX7_ofSetNow_1 ?_
  refine V_pc (pc' := 4) rfl ?_
  refine V_bipush (v := 100) dX7_ofSetNow_4 (by decide) ?_
  refine V_aload_n dX7_ofSetNow_6 rfl 0 rfl ?_
  replace h := ob h
  obtain ⟨v2, e_v2, h⟩ := h
  refine V_getI zf_11_1 zl_X7_238 e_v2 dX7_ofSetNow_7 ?_
  refine V_pc (pc' := 10) rfl ?_
  refine V_imul dX7_ofSetNow_10 ?_
  refine V_iadd dX7_ofSetNow_11 ?_
  cases h
  exact V_iret rfl hq dX7_ofSetNow_12
def f_X7_ofSetNow (a0 : Nat) (M : zM) : Option (Int32 × zM) := f_X7_ofSetNow_0 a0 M
theorem c_X7_ofSetNow {L : zL} {l : Launch} {a0 : Nat} {M : zM} {r : Int32 × zM} (h : f_X7_ofSetNow a0 M = some r) : CP L l yX7_ofSetNow cX7_ofSetNow 1 (some FieldType.int) 1 M [.ref (zad L (a0))] (some (.int r.1)) r.2 :=
  CP.of ⟨by decide +kernel, by decide +kernel⟩ (Nat.le_of_ble_eq_true rfl) fun X Q hq => s_X7_ofSetNow_0 hq h
/-! WindsparlourModel.ofSet(II)I -/
theorem dX7_ofSet_0 : decode cX7_ofSet 0 = .ok (.aload_n 0, 1) := by decide +kernel
theorem dX7_ofSet_1 : decode cX7_ofSet 1 = .ok (.iload_n 1, 1) := by decide +kernel
theorem dX7_ofSet_2 : decode cX7_ofSet 2 = .ok (.invokestatic 174, 3) := by decide +kernel
theorem dX7_ofSet_5 : decode cX7_ofSet 5 = .ok (.ifCond .ne 25, 3) := by decide +kernel
theorem dX7_ofSet_8 : decode cX7_ofSet 8 = .ok (.iload_n 2, 1) := by decide +kernel
theorem dX7_ofSet_9 : decode cX7_ofSet 9 = .ok (.iconst 0, 1) := by decide +kernel
theorem dX7_ofSet_10 : decode cX7_ofSet 10 = .ok (.aload_n 0, 1) := by decide +kernel
theorem dX7_ofSet_11 : decode cX7_ofSet 11 = .ok (.getfield 38, 3) := by decide +kernel
theorem dX7_ofSet_14 : decode cX7_ofSet 14 = .ok (.iload_n 1, 1) := by decide +kernel
theorem dX7_ofSet_15 : decode cX7_ofSet 15 = .ok (.aaload, 1) := by decide +kernel
theorem dX7_ofSet_16 : decode cX7_ofSet 16 = .ok (.getfield 183, 3) := by decide +kernel
theorem dX7_ofSet_19 : decode cX7_ofSet 19 = .ok (.invokevirtual 144, 3) := by decide +kernel
theorem dX7_ofSet_22 : decode cX7_ofSet 22 = .ok (.iconst 1, 1) := by decide +kernel
theorem dX7_ofSet_23 : decode cX7_ofSet 23 = .ok (.isub, 1) := by decide +kernel
theorem dX7_ofSet_24 : decode cX7_ofSet 24 = .ok (.invokestatic 3, 3) := by decide +kernel
theorem dX7_ofSet_27 : decode cX7_ofSet 27 = .ok (.ifCond .ne 7, 3) := by decide +kernel
theorem dX7_ofSet_30 : decode cX7_ofSet 30 = .ok (.iconst 1, 1) := by decide +kernel
theorem dX7_ofSet_31 : decode cX7_ofSet 31 = .ok (.goto 4, 3) := by decide +kernel
theorem dX7_ofSet_34 : decode cX7_ofSet 34 = .ok (.iconst 0, 1) := by decide +kernel
theorem dX7_ofSet_35 : decode cX7_ofSet 35 = .ok (.iconst 1, 1) := by decide +kernel
theorem dX7_ofSet_36 : decode cX7_ofSet 36 = .ok (.invokevirtual 85, 3) := by decide +kernel
theorem dX7_ofSet_39 : decode cX7_ofSet 39 = .ok (.ifCond .eq 7, 3) := by decide +kernel
theorem dX7_ofSet_42 : decode cX7_ofSet 42 = .ok (.iconst 0, 1) := by decide +kernel
theorem dX7_ofSet_43 : decode cX7_ofSet 43 = .ok (.goto 22, 3) := by decide +kernel
theorem dX7_ofSet_46 : decode cX7_ofSet 46 = .ok (.aload_n 0, 1) := by decide +kernel
theorem dX7_ofSet_47 : decode cX7_ofSet 47 = .ok (.getfield 38, 3) := by decide +kernel
theorem dX7_ofSet_50 : decode cX7_ofSet 50 = .ok (.iload_n 1, 1) := by decide +kernel
theorem dX7_ofSet_51 : decode cX7_ofSet 51 = .ok (.aaload, 1) := by decide +kernel
theorem dX7_ofSet_52 : decode cX7_ofSet 52 = .ok (.getfield 183, 3) := by decide +kernel
theorem dX7_ofSet_55 : decode cX7_ofSet 55 = .ok (.iload_n 2, 1) := by decide +kernel
theorem dX7_ofSet_56 : decode cX7_ofSet 56 = .ok (.invokevirtual 277, 3) := by decide +kernel
theorem dX7_ofSet_59 : decode cX7_ofSet 59 = .ok (.checkcast 186, 3) := by decide +kernel
theorem dX7_ofSet_62 : decode cX7_ofSet 62 = .ok (.invokestatic 280, 3) := by decide +kernel
theorem dX7_ofSet_65 : decode cX7_ofSet 65 = .ok (.ireturn, 1) := by decide +kernel
def f_X7_ofSet_35 (a0 : Nat) (i1 : Int32) (i2 : Int32) (i_0 : Int32) (a_1 : Nat) (M : zM) : Option (Int32 × zM) :=
  if mK M a_1 = 13 then
  (f_X7_start a_1 i_0 ((1 : Int32)) M).bind fun r1 =>
  if r1.1 = 0 then
  (gR 13 1 r1.2 a0).bind fun v3 =>
  (lQ 2 r1.2 v3 i1).bind fun v4 =>
  (gR 12 3 r1.2 v4).bind fun v5 =>
  none
  else
  some ((0 : Int32), r1.2)
  else none
set_option maxRecDepth 20000 in
set_option maxHeartbeats 4000000 in
theorem s_X7_ofSet_35 {L : zL} {X : zX} {M0 : zM} {N : Nat × Nat} {Q : State → Prop} {r : Int32 × zM} (hq : vQ L X M0 N Q (some (.int r.1)) r.2) {a0 : Nat} {i1 : Int32} {i2 : Int32} {i_0 : Int32} {a_1 : Nat} {M : zM} (h : f_X7_ofSet_35 a0 i1 i2 i_0 a_1 M = some r) : V L X yX7_ofSet cX7_ofSet 3 (some FieldType.int) 3 M0 N Q M 35 [(0, .ref (zad L (a0))), (1, .int (i1)), (2, .int (i2))] [.int (i_0), .ref (zad L (a_1))] := by
  unfold f_X7_ofSet_35 at h
  refine V_iconst (v := 1) dX7_ofSet_35 (by decide) ?_
  replace h := ox h
  obtain ⟨c2, h⟩ := h
  replace h := ob h
  obtain ⟨r1, e_r1, h⟩ := h
  refine V_callV_I (As := [.int (i_0), .int ((1 : Int32))]) (rest := []) (c_X7_start e_r1) zc_X7_start rfl (by decide) rfl (by decide) (Or.inl c2) zm_X7_85 (Nat.le_of_ble_eq_true rfl) rfl dX7_ofSet_36 ?_
  refine V_pc (pc' := 39) rfl ?_
  refine V_if_eq (tgt := 46) dX7_ofSet_39 (by decide) (fun c6 => ?_) (fun c6 => ?_)
  · replace h := (oi h).1 c6
    refine V_aload_n dX7_ofSet_46 rfl 0 rfl ?_
    replace h := ob h
    obtain ⟨v3, e_v3, h⟩ := h
    refine V_getR zf_13_1 zl_X7_38 e_v3 dX7_ofSet_47 ?_
    refine V_pc (pc' := 50) rfl ?_
    refine V_iload_n dX7_ofSet_50 rfl 1 rfl ?_
    replace h := ob h
    obtain ⟨v4, e_v4, h⟩ := h
    refine V_aald (by decide) e_v4 dX7_ofSet_51 ?_
    refine V_pc (pc' := 52) rfl ?_
    replace h := ob h
    obtain ⟨v5, e_v5, h⟩ := h
    refine V_getR zf_12_3 zl_X7_183 e_v5 dX7_ofSet_52 ?_
    refine V_pc (pc' := 55) rfl ?_
    refine V_iload_n dX7_ofSet_55 rfl 2 rfl ?_
    cases h
  · replace h := (oi h).2 c6
    refine V_iconst (v := 0) dX7_ofSet_42 (by decide) ?_
    refine V_goto (tgt := 65) dX7_ofSet_43 (by decide) ?_
    cases h
    exact V_iret rfl hq dX7_ofSet_65
def f_X7_ofSet_30 (a0 : Nat) (i1 : Int32) (i2 : Int32) (a_0 : Nat) (M : zM) : Option (Int32 × zM) :=
  f_X7_ofSet_35 a0 i1 i2 ((1 : Int32)) a_0 M
set_option maxRecDepth 20000 in
set_option maxHeartbeats 4000000 in
theorem s_X7_ofSet_30 {L : zL} {X : zX} {M0 : zM} {N : Nat × Nat} {Q : State → Prop} {r : Int32 × zM} (hq : vQ L X M0 N Q (some (.int r.1)) r.2) {a0 : Nat} {i1 : Int32} {i2 : Int32} {a_0 : Nat} {M : zM} (h : f_X7_ofSet_30 a0 i1 i2 a_0 M = some r) : V L X yX7_ofSet cX7_ofSet 3 (some FieldType.int) 3 M0 N Q M 30 [(0, .ref (zad L (a0))), (1, .int (i1)), (2, .int (i2))] [.ref (zad L (a_0))] := by
  unfold f_X7_ofSet_30 at h
  refine V_iconst (v := 1) dX7_ofSet_30 (by decide) ?_
  refine V_goto (tgt := 35) dX7_ofSet_31 (by decide) ?_
  exact s_X7_ofSet_35 hq h
def f_X7_ofSet_0 (a0 : Nat) (i1 : Int32) (i2 : Int32) (M : zM) : Option (Int32 × zM) :=
  (f_X7_isNoPlayer i1 M).bind fun r1 =>
  if r1.1 = 0 then
  (gR 13 1 r1.2 a0).bind fun v2 =>
  (lQ 2 r1.2 v2 i1).bind fun v3 =>
  (gR 12 3 r1.2 v3).bind fun v4 =>
  none
  else
  f_X7_ofSet_30 a0 i1 i2 a0 r1.2
set_option maxRecDepth 20000 in
set_option maxHeartbeats 4000000 in
theorem s_X7_ofSet_0 {L : zL} {X : zX} {M0 : zM} {N : Nat × Nat} {Q : State → Prop} {r : Int32 × zM} (hq : vQ L X M0 N Q (some (.int r.1)) r.2) {a0 : Nat} {i1 : Int32} {i2 : Int32} {M : zM} (h : f_X7_ofSet_0 a0 i1 i2 M = some r) : V L X yX7_ofSet cX7_ofSet 3 (some FieldType.int) 3 M0 N Q M 0 [(0, .ref (zad L (a0))), (1, .int (i1)), (2, .int (i2))] [] := by
  unfold f_X7_ofSet_0 at h
  refine V_aload_n dX7_ofSet_0 rfl 0 rfl ?_
  refine V_iload_n dX7_ofSet_1 rfl 1 rfl ?_
  replace h := ob h
  obtain ⟨r1, e_r1, h⟩ := h
  refine V_callS_I (As := [.int (i1)]) (rest := [.ref (zad L (a0))]) (c_X7_isNoPlayer e_r1) zc_X7_isNoPlayer rfl (by decide) zm_X7_174 (Nat.le_of_ble_eq_true rfl) rfl dX7_ofSet_2 ?_
  refine V_pc (pc' := 5) rfl ?_
  refine V_if_ne (tgt := 30) dX7_ofSet_5 (by decide) (fun c5 => ?_) (fun c5 => ?_)
  · replace h := (oi h).2 c5
    exact s_X7_ofSet_30 hq h
  · replace h := (oi h).1 c5
    refine V_iload_n dX7_ofSet_8 rfl 2 rfl ?_
    refine V_iconst (v := 0) dX7_ofSet_9 (by decide) ?_
    refine V_aload_n dX7_ofSet_10 rfl 0 rfl ?_
    replace h := ob h
    obtain ⟨v2, e_v2, h⟩ := h
    refine V_getR zf_13_1 zl_X7_38 e_v2 dX7_ofSet_11 ?_
    refine V_pc (pc' := 14) rfl ?_
    refine V_iload_n dX7_ofSet_14 rfl 1 rfl ?_
    replace h := ob h
    obtain ⟨v3, e_v3, h⟩ := h
    refine V_aald (by decide) e_v3 dX7_ofSet_15 ?_
    refine V_pc (pc' := 16) rfl ?_
    replace h := ob h
    obtain ⟨v4, e_v4, h⟩ := h
    refine V_getR zf_12_3 zl_X7_183 e_v4 dX7_ofSet_16 ?_
    refine V_pc (pc' := 19) rfl ?_
    cases h
def f_X7_ofSet (a0 : Nat) (i1 : Int32) (i2 : Int32) (M : zM) : Option (Int32 × zM) := f_X7_ofSet_0 a0 i1 i2 M
theorem c_X7_ofSet {L : zL} {l : Launch} {a0 : Nat} {i1 : Int32} {i2 : Int32} {M : zM} {r : Int32 × zM} (h : f_X7_ofSet a0 i1 i2 M = some r) : CP L l yX7_ofSet cX7_ofSet 3 (some FieldType.int) 3 M [.ref (zad L (a0)), .int (i1), .int (i2)] (some (.int r.1)) r.2 :=
  CP.of ⟨by decide +kernel, by decide +kernel⟩ (Nat.le_of_ble_eq_true rfl) fun X Q hq => s_X7_ofSet_0 hq h
/-! WindsparlourModel.river(II)I -/
theorem dX7_river_0 : decode cX7_river 0 = .ok (.aload_n 0, 1) := by decide +kernel
theorem dX7_river_1 : decode cX7_river 1 = .ok (.iload_n 1, 1) := by decide +kernel
theorem dX7_river_2 : decode cX7_river 2 = .ok (.invokestatic 174, 3) := by decide +kernel
theorem dX7_river_5 : decode cX7_river 5 = .ok (.ifCond .ne 25, 3) := by decide +kernel
theorem dX7_river_8 : decode cX7_river 8 = .ok (.iload_n 2, 1) := by decide +kernel
theorem dX7_river_9 : decode cX7_river 9 = .ok (.iconst 0, 1) := by decide +kernel
theorem dX7_river_10 : decode cX7_river 10 = .ok (.aload_n 0, 1) := by decide +kernel
theorem dX7_river_11 : decode cX7_river 11 = .ok (.getfield 38, 3) := by decide +kernel
theorem dX7_river_14 : decode cX7_river 14 = .ok (.iload_n 1, 1) := by decide +kernel
theorem dX7_river_15 : decode cX7_river 15 = .ok (.aaload, 1) := by decide +kernel
theorem dX7_river_16 : decode cX7_river 16 = .ok (.getfield 124, 3) := by decide +kernel
theorem dX7_river_19 : decode cX7_river 19 = .ok (.invokevirtual 144, 3) := by decide +kernel
theorem dX7_river_22 : decode cX7_river 22 = .ok (.iconst 1, 1) := by decide +kernel
theorem dX7_river_23 : decode cX7_river 23 = .ok (.isub, 1) := by decide +kernel
theorem dX7_river_24 : decode cX7_river 24 = .ok (.invokestatic 3, 3) := by decide +kernel
theorem dX7_river_27 : decode cX7_river 27 = .ok (.ifCond .ne 7, 3) := by decide +kernel
theorem dX7_river_30 : decode cX7_river 30 = .ok (.iconst 1, 1) := by decide +kernel
theorem dX7_river_31 : decode cX7_river 31 = .ok (.goto 4, 3) := by decide +kernel
theorem dX7_river_34 : decode cX7_river 34 = .ok (.iconst 0, 1) := by decide +kernel
theorem dX7_river_35 : decode cX7_river 35 = .ok (.iconst 1, 1) := by decide +kernel
theorem dX7_river_36 : decode cX7_river 36 = .ok (.invokevirtual 85, 3) := by decide +kernel
theorem dX7_river_39 : decode cX7_river 39 = .ok (.ifCond .eq 7, 3) := by decide +kernel
theorem dX7_river_42 : decode cX7_river 42 = .ok (.iconst 0, 1) := by decide +kernel
theorem dX7_river_43 : decode cX7_river 43 = .ok (.goto 22, 3) := by decide +kernel
theorem dX7_river_46 : decode cX7_river 46 = .ok (.aload_n 0, 1) := by decide +kernel
theorem dX7_river_47 : decode cX7_river 47 = .ok (.getfield 38, 3) := by decide +kernel
theorem dX7_river_50 : decode cX7_river 50 = .ok (.iload_n 1, 1) := by decide +kernel
theorem dX7_river_51 : decode cX7_river 51 = .ok (.aaload, 1) := by decide +kernel
theorem dX7_river_52 : decode cX7_river 52 = .ok (.getfield 124, 3) := by decide +kernel
theorem dX7_river_55 : decode cX7_river 55 = .ok (.iload_n 2, 1) := by decide +kernel
theorem dX7_river_56 : decode cX7_river 56 = .ok (.invokevirtual 277, 3) := by decide +kernel
theorem dX7_river_59 : decode cX7_river 59 = .ok (.checkcast 129, 3) := by decide +kernel
theorem dX7_river_62 : decode cX7_river 62 = .ok (.invokevirtual 284, 3) := by decide +kernel
theorem dX7_river_65 : decode cX7_river 65 = .ok (.ireturn, 1) := by decide +kernel
def f_X7_river_35 (a0 : Nat) (i1 : Int32) (i2 : Int32) (i_0 : Int32) (a_1 : Nat) (M : zM) : Option (Int32 × zM) :=
  if mK M a_1 = 13 then
  (f_X7_start a_1 i_0 ((1 : Int32)) M).bind fun r1 =>
  if r1.1 = 0 then
  (gR 13 1 r1.2 a0).bind fun v3 =>
  (lQ 2 r1.2 v3 i1).bind fun v4 =>
  (gR 12 4 r1.2 v4).bind fun v5 =>
  none
  else
  some ((0 : Int32), r1.2)
  else none
set_option maxRecDepth 20000 in
set_option maxHeartbeats 4000000 in
theorem s_X7_river_35 {L : zL} {X : zX} {M0 : zM} {N : Nat × Nat} {Q : State → Prop} {r : Int32 × zM} (hq : vQ L X M0 N Q (some (.int r.1)) r.2) {a0 : Nat} {i1 : Int32} {i2 : Int32} {i_0 : Int32} {a_1 : Nat} {M : zM} (h : f_X7_river_35 a0 i1 i2 i_0 a_1 M = some r) : V L X yX7_river cX7_river 3 (some FieldType.int) 3 M0 N Q M 35 [(0, .ref (zad L (a0))), (1, .int (i1)), (2, .int (i2))] [.int (i_0), .ref (zad L (a_1))] := by
  unfold f_X7_river_35 at h
  refine V_iconst (v := 1) dX7_river_35 (by decide) ?_
  replace h := ox h
  obtain ⟨c2, h⟩ := h
  replace h := ob h
  obtain ⟨r1, e_r1, h⟩ := h
  refine V_callV_I (As := [.int (i_0), .int ((1 : Int32))]) (rest := []) (c_X7_start e_r1) zc_X7_start rfl (by decide) rfl (by decide) (Or.inl c2) zm_X7_85 (Nat.le_of_ble_eq_true rfl) rfl dX7_river_36 ?_
  refine V_pc (pc' := 39) rfl ?_
  refine V_if_eq (tgt := 46) dX7_river_39 (by decide) (fun c6 => ?_) (fun c6 => ?_)
  · replace h := (oi h).1 c6
    refine V_aload_n dX7_river_46 rfl 0 rfl ?_
    replace h := ob h
    obtain ⟨v3, e_v3, h⟩ := h
    refine V_getR zf_13_1 zl_X7_38 e_v3 dX7_river_47 ?_
    refine V_pc (pc' := 50) rfl ?_
    refine V_iload_n dX7_river_50 rfl 1 rfl ?_
    replace h := ob h
    obtain ⟨v4, e_v4, h⟩ := h
    refine V_aald (by decide) e_v4 dX7_river_51 ?_
    refine V_pc (pc' := 52) rfl ?_
    replace h := ob h
    obtain ⟨v5, e_v5, h⟩ := h
    refine V_getR zf_12_4 zl_X7_124 e_v5 dX7_river_52 ?_
    refine V_pc (pc' := 55) rfl ?_
    refine V_iload_n dX7_river_55 rfl 2 rfl ?_
    cases h
  · replace h := (oi h).2 c6
    refine V_iconst (v := 0) dX7_river_42 (by decide) ?_
    refine V_goto (tgt := 65) dX7_river_43 (by decide) ?_
    cases h
    exact V_iret rfl hq dX7_river_65
def f_X7_river_30 (a0 : Nat) (i1 : Int32) (i2 : Int32) (a_0 : Nat) (M : zM) : Option (Int32 × zM) :=
  f_X7_river_35 a0 i1 i2 ((1 : Int32)) a_0 M
set_option maxRecDepth 20000 in
set_option maxHeartbeats 4000000 in
theorem s_X7_river_30 {L : zL} {X : zX} {M0 : zM} {N : Nat × Nat} {Q : State → Prop} {r : Int32 × zM} (hq : vQ L X M0 N Q (some (.int r.1)) r.2) {a0 : Nat} {i1 : Int32} {i2 : Int32} {a_0 : Nat} {M : zM} (h : f_X7_river_30 a0 i1 i2 a_0 M = some r) : V L X yX7_river cX7_river 3 (some FieldType.int) 3 M0 N Q M 30 [(0, .ref (zad L (a0))), (1, .int (i1)), (2, .int (i2))] [.ref (zad L (a_0))] := by
  unfold f_X7_river_30 at h
  refine V_iconst (v := 1) dX7_river_30 (by decide) ?_
  refine V_goto (tgt := 35) dX7_river_31 (by decide) ?_
  exact s_X7_river_35 hq h
def f_X7_river_0 (a0 : Nat) (i1 : Int32) (i2 : Int32) (M : zM) : Option (Int32 × zM) :=
  (f_X7_isNoPlayer i1 M).bind fun r1 =>
  if r1.1 = 0 then
  (gR 13 1 r1.2 a0).bind fun v2 =>
  (lQ 2 r1.2 v2 i1).bind fun v3 =>
  (gR 12 4 r1.2 v3).bind fun v4 =>
  none
  else
  f_X7_river_30 a0 i1 i2 a0 r1.2
set_option maxRecDepth 20000 in
set_option maxHeartbeats 4000000 in
theorem s_X7_river_0 {L : zL} {X : zX} {M0 : zM} {N : Nat × Nat} {Q : State → Prop} {r : Int32 × zM} (hq : vQ L X M0 N Q (some (.int r.1)) r.2) {a0 : Nat} {i1 : Int32} {i2 : Int32} {M : zM} (h : f_X7_river_0 a0 i1 i2 M = some r) : V L X yX7_river cX7_river 3 (some FieldType.int) 3 M0 N Q M 0 [(0, .ref (zad L (a0))), (1, .int (i1)), (2, .int (i2))] [] := by
  unfold f_X7_river_0 at h
  refine V_aload_n dX7_river_0 rfl 0 rfl ?_
  refine V_iload_n dX7_river_1 rfl 1 rfl ?_
  replace h := ob h
  obtain ⟨r1, e_r1, h⟩ := h
  refine V_callS_I (As := [.int (i1)]) (rest := [.ref (zad L (a0))]) (c_X7_isNoPlayer e_r1) zc_X7_isNoPlayer rfl (by decide) zm_X7_174 (Nat.le_of_ble_eq_true rfl) rfl dX7_river_2 ?_
  refine V_pc (pc' := 5) rfl ?_
  refine V_if_ne (tgt := 30) dX7_river_5 (by decide) (fun c5 => ?_) (fun c5 => ?_)
  · replace h := (oi h).2 c5
    exact s_X7_river_30 hq h
  · replace h := (oi h).1 c5
    refine V_iload_n dX7_river_8 rfl 2 rfl ?_
    refine V_iconst (v := 0) dX7_river_9 (by decide) ?_
    refine V_aload_n dX7_river_10 rfl 0 rfl ?_
    replace h := ob h
    obtain ⟨v2, e_v2, h⟩ := h
    refine V_getR zf_13_1 zl_X7_38 e_v2 dX7_river_11 ?_
    refine V_pc (pc' := 14) rfl ?_
    refine V_iload_n dX7_river_14 rfl 1 rfl ?_
    replace h := ob h
    obtain ⟨v3, e_v3, h⟩ := h
    refine V_aald (by decide) e_v3 dX7_river_15 ?_
    refine V_pc (pc' := 16) rfl ?_
    replace h := ob h
    obtain ⟨v4, e_v4, h⟩ := h
    refine V_getR zf_12_4 zl_X7_124 e_v4 dX7_river_16 ?_
    refine V_pc (pc' := 19) rfl ?_
    cases h
def f_X7_river (a0 : Nat) (i1 : Int32) (i2 : Int32) (M : zM) : Option (Int32 × zM) := f_X7_river_0 a0 i1 i2 M
theorem c_X7_river {L : zL} {l : Launch} {a0 : Nat} {i1 : Int32} {i2 : Int32} {M : zM} {r : Int32 × zM} (h : f_X7_river a0 i1 i2 M = some r) : CP L l yX7_river cX7_river 3 (some FieldType.int) 3 M [.ref (zad L (a0)), .int (i1), .int (i2)] (some (.int r.1)) r.2 :=
  CP.of ⟨by decide +kernel, by decide +kernel⟩ (Nat.le_of_ble_eq_true rfl) fun X Q hq => s_X7_river_0 hq h
/-! WindsparlourModel.seenNow(I)I -/
theorem dX7_seenNow_0 : decode cX7_seenNow 0 = .ok (.iconst 0, 1) := by decide +kernel
theorem dX7_seenNow_1 : decode cX7_seenNow 1 = .ok (.istore_n 2, 1) := by decide +kernel
theorem dX7_seenNow_2 : decode cX7_seenNow 2 = .ok (.aload_n 0, 1) := by decide +kernel
theorem dX7_seenNow_3 : decode cX7_seenNow 3 = .ok (.getfield 38, 3) := by decide +kernel
theorem dX7_seenNow_6 : decode cX7_seenNow 6 = .ok (.astore_n 3, 1) := by decide +kernel
theorem dX7_seenNow_7 : decode cX7_seenNow 7 = .ok (.aload_n 3, 1) := by decide +kernel
theorem dX7_seenNow_8 : decode cX7_seenNow 8 = .ok (.arraylength, 1) := by decide +kernel
theorem dX7_seenNow_9 : decode cX7_seenNow 9 = .ok (.istore 4, 2) := by decide +kernel
theorem dX7_seenNow_11 : decode cX7_seenNow 11 = .ok (.iconst 0, 1) := by decide +kernel
theorem dX7_seenNow_12 : decode cX7_seenNow 12 = .ok (.istore 5, 2) := by decide +kernel
theorem dX7_seenNow_14 : decode cX7_seenNow 14 = .ok (.iload 5, 2) := by decide +kernel
theorem dX7_seenNow_16 : decode cX7_seenNow 16 = .ok (.iload 4, 2) := by decide +kernel
theorem dX7_seenNow_18 : decode cX7_seenNow 18 = .ok (.if_icmp .ge 111, 3) := by decide +kernel
theorem dX7_seenNow_21 : decode cX7_seenNow 21 = .ok (.aload_n 3, 1) := by decide +kernel
theorem dX7_seenNow_22 : decode cX7_seenNow 22 = .ok (.iload 5, 2) := by decide +kernel
theorem dX7_seenNow_24 : decode cX7_seenNow 24 = .ok (.aaload, 1) := by decide +kernel
theorem dX7_seenNow_25 : decode cX7_seenNow 25 = .ok (.astore 6, 2) := by decide +kernel
theorem dX7_seenNow_27 : decode cX7_seenNow 27 = .ok (.aload 6, 2) := by decide +kernel
theorem dX7_seenNow_29 : decode cX7_seenNow 29 = .ok (.getfield 183, 3) := by decide +kernel
theorem dX7_seenNow_32 : decode cX7_seenNow 32 = .ok (.invokevirtual 197, 3) := by decide +kernel
theorem dX7_seenNow_35 : decode cX7_seenNow 35 = .ok (.astore 7, 2) := by decide +kernel
theorem dX7_seenNow_37 : decode cX7_seenNow 37 = .ok (.aload 7, 2) := by decide +kernel
theorem dX7_seenNow_39 : decode cX7_seenNow 39 = .ok (.invokeinterface 201 1, 5) := by decide +kernel
theorem dX7_seenNow_44 : decode cX7_seenNow 44 = .ok (.ifCond .eq 27, 3) := by decide +kernel
theorem dX7_seenNow_47 : decode cX7_seenNow 47 = .ok (.aload 7, 2) := by decide +kernel
theorem dX7_seenNow_49 : decode cX7_seenNow 49 = .ok (.invokeinterface 206 1, 5) := by decide +kernel
theorem dX7_seenNow_54 : decode cX7_seenNow 54 = .ok (.checkcast 186, 3) := by decide +kernel
theorem dX7_seenNow_57 : decode cX7_seenNow 57 = .ok (.astore 8, 2) := by decide +kernel
theorem dX7_seenNow_59 : decode cX7_seenNow 59 = .ok (.iload_n 2, 1) := by decide +kernel
theorem dX7_seenNow_60 : decode cX7_seenNow 60 = .ok (.aload 8, 2) := by decide +kernel
theorem dX7_seenNow_62 : decode cX7_seenNow 62 = .ok (.iload_n 1, 1) := by decide +kernel
theorem dX7_seenNow_63 : decode cX7_seenNow 63 = .ok (.invokevirtual 210, 3) := by decide +kernel
theorem dX7_seenNow_66 : decode cX7_seenNow 66 = .ok (.iadd, 1) := by decide +kernel
theorem dX7_seenNow_67 : decode cX7_seenNow 67 = .ok (.istore_n 2, 1) := by decide +kernel
theorem dX7_seenNow_68 : decode cX7_seenNow 68 = .ok (.goto (-31), 3) := by decide +kernel
theorem dX7_seenNow_71 : decode cX7_seenNow 71 = .ok (.aload 6, 2) := by decide +kernel
theorem dX7_seenNow_73 : decode cX7_seenNow 73 = .ok (.getfield 124, 3) := by decide +kernel
theorem dX7_seenNow_76 : decode cX7_seenNow 76 = .ok (.invokevirtual 197, 3) := by decide +kernel
theorem dX7_seenNow_79 : decode cX7_seenNow 79 = .ok (.astore 7, 2) := by decide +kernel
theorem dX7_seenNow_81 : decode cX7_seenNow 81 = .ok (.aload 7, 2) := by decide +kernel
theorem dX7_seenNow_83 : decode cX7_seenNow 83 = .ok (.invokeinterface 201 1, 5) := by decide +kernel
theorem dX7_seenNow_88 : decode cX7_seenNow 88 = .ok (.ifCond .eq 35, 3) := by decide +kernel
theorem dX7_seenNow_91 : decode cX7_seenNow 91 = .ok (.aload 7, 2) := by decide +kernel
theorem dX7_seenNow_93 : decode cX7_seenNow 93 = .ok (.invokeinterface 206 1, 5) := by decide +kernel
theorem dX7_seenNow_98 : decode cX7_seenNow 98 = .ok (.checkcast 129, 3) := by decide +kernel
theorem dX7_seenNow_101 : decode cX7_seenNow 101 = .ok (.invokevirtual 284, 3) := by decide +kernel
theorem dX7_seenNow_104 : decode cX7_seenNow 104 = .ok (.istore 8, 2) := by decide +kernel
theorem dX7_seenNow_106 : decode cX7_seenNow 106 = .ok (.iload_n 2, 1) := by decide +kernel
theorem dX7_seenNow_107 : decode cX7_seenNow 107 = .ok (.iload 8, 2) := by decide +kernel
theorem dX7_seenNow_109 : decode cX7_seenNow 109 = .ok (.iload_n 1, 1) := by decide +kernel
theorem dX7_seenNow_110 : decode cX7_seenNow 110 = .ok (.if_icmp .ne 7, 3) := by decide +kernel
theorem dX7_seenNow_113 : decode cX7_seenNow 113 = .ok (.iconst 1, 1) := by decide +kernel
theorem dX7_seenNow_114 : decode cX7_seenNow 114 = .ok (.goto 4, 3) := by decide +kernel
theorem dX7_seenNow_117 : decode cX7_seenNow 117 = .ok (.iconst 0, 1) := by decide +kernel
theorem dX7_seenNow_118 : decode cX7_seenNow 118 = .ok (.iadd, 1) := by decide +kernel
theorem dX7_seenNow_119 : decode cX7_seenNow 119 = .ok (.istore_n 2, 1) := by decide +kernel
theorem dX7_seenNow_120 : decode cX7_seenNow 120 = .ok (.goto (-39), 3) := by decide +kernel
theorem dX7_seenNow_123 : decode cX7_seenNow 123 = .ok (.iinc 5 1, 3) := by decide +kernel
theorem dX7_seenNow_126 : decode cX7_seenNow 126 = .ok (.goto (-112), 3) := by decide +kernel
theorem dX7_seenNow_129 : decode cX7_seenNow 129 = .ok (.iload_n 2, 1) := by decide +kernel
theorem dX7_seenNow_130 : decode cX7_seenNow 130 = .ok (.ireturn, 1) := by decide +kernel
def f_X7_seenNow_14 (n : Nat) (i1 : Int32) (i2 : Int32) (a3 : Nat) (i4 : Int32) (i5 : Int32) (M : zM) : Option (Int32 × zM) := match n with
  | 0 => none
  | n + 1 =>
    if i4 ≤ i5 then
    some (i2, M)
    else
    (lQ 2 M a3 i5).bind fun v1 =>
    (gR 12 3 M v1).bind fun v2 =>
    none
set_option maxRecDepth 20000 in
set_option maxHeartbeats 4000000 in
theorem s_X7_seenNow_14 {L : zL} {X : zX} {M0 : zM} {N : Nat × Nat} {Q : State → Prop} {r : Int32 × zM} (hq : vQ L X M0 N Q (some (.int r.1)) r.2) {n : Nat} {i1 : Int32} {i2 : Int32} {a3 : Nat} {i4 : Int32} {i5 : Int32} {M : zM} : f_X7_seenNow_14 n i1 i2 a3 i4 i5 M = some r → V L X yX7_seenNow cX7_seenNow 9 (some FieldType.int) 3 M0 N Q M 14 [(1, .int (i1)), (2, .int (i2)), (3, .ref (zad L (a3))), (4, .int (i4)), (5, .int (i5))] [] := by
  induction n generalizing i1 i2 a3 i4 i5 M with
  | zero =>
    intro h
    rw [f_X7_seenNow_14] at h
    cases h
  | succ n ih0 =>
    intro h
    have ih : ∀ (i1 : Int32) (i2 : Int32) (a3 : Nat) (i4 : Int32) (i5 : Int32) (M : zM), f_X7_seenNow_14 n i1 i2 a3 i4 i5 M = some r → V L X yX7_seenNow cX7_seenNow 9 (some FieldType.int) 3 M0 N Q M 14 [(1, .int (i1)), (2, .int (i2)), (3, .ref (zad L (a3))), (4, .int (i4)), (5, .int (i5))] [] := fun i1 i2 a3 i4 i5 M h => ih0 h
    rw [f_X7_seenNow_14] at h
    refine V_iload dX7_seenNow_14 4 rfl ?_
    refine V_iload dX7_seenNow_16 3 rfl ?_
    refine V_icmp_ge (tgt := 129) dX7_seenNow_18 (by decide) (fun c3 => ?_) (fun c3 => ?_)
    · replace h := (oi h).1 c3
      refine V_iload_n dX7_seenNow_129 rfl 1 rfl ?_
      cases h
      exact V_iret rfl hq dX7_seenNow_130
    · replace h := (oi h).2 c3
      refine V_aload_n dX7_seenNow_21 rfl 2 rfl ?_
      refine V_iload dX7_seenNow_22 4 rfl ?_
      replace h := ob h
      obtain ⟨v1, e_v1, h⟩ := h
      refine V_aald (by decide) e_v1 dX7_seenNow_24 ?_
      refine V_pc (pc' := 25) rfl ?_
      refine V_astore (ls' := [(6, .ref (zad L (v1))), (1, .int (i1)), (2, .int (i2)), (3, .ref (zad L (a3))), (4, .int (i4)), (5, .int (i5))]) dX7_seenNow_25 (by decide) rfl ?_
      refine V_aload dX7_seenNow_27 0 rfl ?_
      replace h := ob h
      obtain ⟨v2, e_v2, h⟩ := h
      refine V_getR zf_12_3 zl_X7_183 e_v2 dX7_seenNow_29 ?_
      refine V_pc (pc' := 32) rfl ?_
      cases h
def f_X7_seenNow_0 (a0 : Nat) (i1 : Int32) (M : zM) : Option (Int32 × zM) :=
  (gR 13 1 M a0).bind fun v1 =>
  (gL M v1).bind fun v2 =>
  f_X7_seenNow_14 zN i1 ((0 : Int32)) v1 v2 ((0 : Int32)) M
set_option maxRecDepth 20000 in
set_option maxHeartbeats 4000000 in
theorem s_X7_seenNow_0 {L : zL} {X : zX} {M0 : zM} {N : Nat × Nat} {Q : State → Prop} {r : Int32 × zM} (hq : vQ L X M0 N Q (some (.int r.1)) r.2) {a0 : Nat} {i1 : Int32} {M : zM} (h : f_X7_seenNow_0 a0 i1 M = some r) : V L X yX7_seenNow cX7_seenNow 9 (some FieldType.int) 3 M0 N Q M 0 [(0, .ref (zad L (a0))), (1, .int (i1))] [] := by
  unfold f_X7_seenNow_0 at h
  refine V_iconst (v := 0) dX7_seenNow_0 (by decide) ?_
  refine V_istore_n (ls' := [(2, .int ((0 : Int32))), (0, .ref (zad L (a0))), (1, .int (i1))]) dX7_seenNow_1 rfl (by decide) rfl ?_
  refine V_aload_n dX7_seenNow_2 rfl 1 rfl ?_
  replace h := ob h
  obtain ⟨v1, e_v1, h⟩ := h
  refine V_getR zf_13_1 zl_X7_38 e_v1 dX7_seenNow_3 ?_
  refine V_pc (pc' := 6) rfl ?_
  refine V_astore_n (ls' := [(3, .ref (zad L (v1))), (2, .int ((0 : Int32))), (0, .ref (zad L (a0))), (1, .int (i1))]) dX7_seenNow_6 rfl (by decide) rfl ?_
  refine V_aload_n dX7_seenNow_7 rfl 0 rfl ?_
  replace h := ob h
  obtain ⟨v2, e_v2, h⟩ := h
  refine V_alen e_v2 dX7_seenNow_8 ?_
  refine V_pc (pc' := 9) rfl ?_
  refine V_istore (ls' := [(4, .int (v2)), (3, .ref (zad L (v1))), (2, .int ((0 : Int32))), (0, .ref (zad L (a0))), (1, .int (i1))]) dX7_seenNow_9 (by decide) rfl ?_
  refine V_iconst (v := 0) dX7_seenNow_11 (by decide) ?_
  refine V_istore (ls' := [(5, .int ((0 : Int32))), (4, .int (v2)), (3, .ref (zad L (v1))), (2, .int ((0 : Int32))), (0, .ref (zad L (a0))), (1, .int (i1))]) dX7_seenNow_12 (by decide) rfl ?_
  refine V_sub [5, 3, 2, 1, 0] rfl ?_
  exact s_X7_seenNow_14 hq h
def f_X7_seenNow (a0 : Nat) (i1 : Int32) (M : zM) : Option (Int32 × zM) := f_X7_seenNow_0 a0 i1 M
theorem c_X7_seenNow {L : zL} {l : Launch} {a0 : Nat} {i1 : Int32} {M : zM} {r : Int32 × zM} (h : f_X7_seenNow a0 i1 M = some r) : CP L l yX7_seenNow cX7_seenNow 9 (some FieldType.int) 3 M [.ref (zad L (a0)), .int (i1)] (some (.int r.1)) r.2 :=
  CP.of ⟨by decide +kernel, by decide +kernel⟩ (Nat.le_of_ble_eq_true rfl) fun X Q hq => s_X7_seenNow_0 hq h
/-! WindsparlourModel.seen(I)I -/
theorem dX7_seen_0 : decode cX7_seen 0 = .ok (.aload_n 0, 1) := by decide +kernel
theorem dX7_seen_1 : decode cX7_seen 1 = .ok (.iload_n 1, 1) := by decide +kernel
theorem dX7_seen_2 : decode cX7_seen 2 = .ok (.invokestatic 147, 3) := by decide +kernel
theorem dX7_seen_5 : decode cX7_seen 5 = .ok (.ifCond .ne 7, 3) := by decide +kernel
theorem dX7_seen_8 : decode cX7_seen 8 = .ok (.iconst 1, 1) := by decide +kernel
theorem dX7_seen_9 : decode cX7_seen 9 = .ok (.goto 4, 3) := by decide +kernel
theorem dX7_seen_12 : decode cX7_seen 12 = .ok (.iconst 0, 1) := by decide +kernel
theorem dX7_seen_13 : decode cX7_seen 13 = .ok (.iconst 1, 1) := by decide +kernel
theorem dX7_seen_14 : decode cX7_seen 14 = .ok (.invokevirtual 85, 3) := by decide +kernel
theorem dX7_seen_17 : decode cX7_seen 17 = .ok (.ifCond .eq 7, 3) := by decide +kernel
theorem dX7_seen_20 : decode cX7_seen 20 = .ok (.iconst 0, 1) := by decide +kernel
theorem dX7_seen_21 : decode cX7_seen 21 = .ok (.goto 8, 3) := by decide +kernel
theorem dX7_seen_24 : decode cX7_seen 24 = .ok (.aload_n 0, 1) := by decide +kernel
theorem dX7_seen_25 : decode cX7_seen 25 = .ok (.iload_n 1, 1) := by decide +kernel
theorem dX7_seen_26 : decode cX7_seen 26 = .ok (.invokevirtual 287, 3) := by decide +kernel
theorem dX7_seen_29 : decode cX7_seen 29 = .ok (.ireturn, 1) := by decide +kernel
def f_X7_seen_13 (a0 : Nat) (i1 : Int32) (i_0 : Int32) (a_1 : Nat) (M : zM) : Option (Int32 × zM) :=
  if mK M a_1 = 13 then
  (f_X7_start a_1 i_0 ((1 : Int32)) M).bind fun r1 =>
  if r1.1 = 0 then
  if mK r1.2 a0 = 13 then
  (f_X7_seenNow a0 i1 r1.2).bind fun r3 =>
  some (r3.1, r3.2)
  else none
  else
  some ((0 : Int32), r1.2)
  else none
set_option maxRecDepth 20000 in
set_option maxHeartbeats 4000000 in
theorem s_X7_seen_13 {L : zL} {X : zX} {M0 : zM} {N : Nat × Nat} {Q : State → Prop} {r : Int32 × zM} (hq : vQ L X M0 N Q (some (.int r.1)) r.2) {a0 : Nat} {i1 : Int32} {i_0 : Int32} {a_1 : Nat} {M : zM} (h : f_X7_seen_13 a0 i1 i_0 a_1 M = some r) : V L X yX7_seen cX7_seen 2 (some FieldType.int) 4 M0 N Q M 13 [(0, .ref (zad L (a0))), (1, .int (i1))] [.int (i_0), .ref (zad L (a_1))] := by
  unfold f_X7_seen_13 at h
  refine V_iconst (v := 1) dX7_seen_13 (by decide) ?_
  replace h := ox h
  obtain ⟨c2, h⟩ := h
  replace h := ob h
  obtain ⟨r1, e_r1, h⟩ := h
  refine V_callV_I (As := [.int (i_0), .int ((1 : Int32))]) (rest := []) (c_X7_start e_r1) zc_X7_start rfl (by decide) rfl (by decide) (Or.inl c2) zm_X7_85 (Nat.le_of_ble_eq_true rfl) rfl dX7_seen_14 ?_
  refine V_pc (pc' := 17) rfl ?_
  refine V_if_eq (tgt := 24) dX7_seen_17 (by decide) (fun c5 => ?_) (fun c5 => ?_)
  · replace h := (oi h).1 c5
    refine V_aload_n dX7_seen_24 rfl 0 rfl ?_
    refine V_iload_n dX7_seen_25 rfl 1 rfl ?_
    replace h := ox h
    obtain ⟨c4, h⟩ := h
    replace h := ob h
    obtain ⟨r3, e_r3, h⟩ := h
    refine V_callV_I (As := [.int (i1)]) (rest := []) (c_X7_seenNow e_r3) zc_X7_seenNow rfl (by decide) rfl (by decide) (Or.inl c4) zm_X7_287 (Nat.le_of_ble_eq_true rfl) rfl dX7_seen_26 ?_
    refine V_pc (pc' := 29) rfl ?_
    cases h
    exact V_iret rfl hq dX7_seen_29
  · replace h := (oi h).2 c5
    refine V_iconst (v := 0) dX7_seen_20 (by decide) ?_
    refine V_goto (tgt := 29) dX7_seen_21 (by decide) ?_
    cases h
    exact V_iret rfl hq dX7_seen_29
def f_X7_seen_0 (a0 : Nat) (i1 : Int32) (M : zM) : Option (Int32 × zM) :=
  (f_X7_isKind i1 M).bind fun r1 =>
  if r1.1 = 0 then
  f_X7_seen_13 a0 i1 ((1 : Int32)) a0 r1.2
  else
  f_X7_seen_13 a0 i1 ((0 : Int32)) a0 r1.2
set_option maxRecDepth 20000 in
set_option maxHeartbeats 4000000 in
theorem s_X7_seen_0 {L : zL} {X : zX} {M0 : zM} {N : Nat × Nat} {Q : State → Prop} {r : Int32 × zM} (hq : vQ L X M0 N Q (some (.int r.1)) r.2) {a0 : Nat} {i1 : Int32} {M : zM} (h : f_X7_seen_0 a0 i1 M = some r) : V L X yX7_seen cX7_seen 2 (some FieldType.int) 4 M0 N Q M 0 [(0, .ref (zad L (a0))), (1, .int (i1))] [] := by
  unfold f_X7_seen_0 at h
  refine V_aload_n dX7_seen_0 rfl 0 rfl ?_
  refine V_iload_n dX7_seen_1 rfl 1 rfl ?_
  replace h := ob h
  obtain ⟨r1, e_r1, h⟩ := h
  refine V_callS_I (As := [.int (i1)]) (rest := [.ref (zad L (a0))]) (c_X7_isKind e_r1) zc_X7_isKind rfl (by decide) zm_X7_147 (Nat.le_of_ble_eq_true rfl) rfl dX7_seen_2 ?_
  refine V_pc (pc' := 5) rfl ?_
  refine V_if_ne (tgt := 12) dX7_seen_5 (by decide) (fun c2 => ?_) (fun c2 => ?_)
  · replace h := (oi h).2 c2
    refine V_iconst (v := 0) dX7_seen_12 (by decide) ?_
    exact s_X7_seen_13 hq h
  · replace h := (oi h).1 c2
    refine V_iconst (v := 1) dX7_seen_8 (by decide) ?_
    refine V_goto (tgt := 13) dX7_seen_9 (by decide) ?_
    exact s_X7_seen_13 hq h
def f_X7_seen (a0 : Nat) (i1 : Int32) (M : zM) : Option (Int32 × zM) := f_X7_seen_0 a0 i1 M
theorem c_X7_seen {L : zL} {l : Launch} {a0 : Nat} {i1 : Int32} {M : zM} {r : Int32 × zM} (h : f_X7_seen a0 i1 M = some r) : CP L l yX7_seen cX7_seen 2 (some FieldType.int) 4 M [.ref (zad L (a0)), .int (i1)] (some (.int r.1)) r.2 :=
  CP.of ⟨by decide +kernel, by decide +kernel⟩ (Nat.le_of_ble_eq_true rfl) fun X Q hq => s_X7_seen_0 hq h
/-! WindsparlourModel.waits(I)J -/
theorem dX7_waits_0 : decode cX7_waits 0 = .ok (.aload_n 0, 1) := by decide +kernel
theorem dX7_waits_1 : decode cX7_waits 1 = .ok (.iload_n 1, 1) := by decide +kernel
theorem dX7_waits_2 : decode cX7_waits 2 = .ok (.invokestatic 174, 3) := by decide +kernel
theorem dX7_waits_5 : decode cX7_waits 5 = .ok (.iconst 1, 1) := by decide +kernel
theorem dX7_waits_6 : decode cX7_waits 6 = .ok (.invokevirtual 85, 3) := by decide +kernel
theorem dX7_waits_9 : decode cX7_waits 9 = .ok (.ifCond .eq 7, 3) := by decide +kernel
theorem dX7_waits_12 : decode cX7_waits 12 = .ok (.lconst 0, 1) := by decide +kernel
theorem dX7_waits_13 : decode cX7_waits 13 = .ok (.goto 12, 3) := by decide +kernel
theorem dX7_waits_16 : decode cX7_waits 16 = .ok (.aload_n 0, 1) := by decide +kernel
theorem dX7_waits_17 : decode cX7_waits 17 = .ok (.getfield 38, 3) := by decide +kernel
theorem dX7_waits_20 : decode cX7_waits 20 = .ok (.iload_n 1, 1) := by decide +kernel
theorem dX7_waits_21 : decode cX7_waits 21 = .ok (.aaload, 1) := by decide +kernel
theorem dX7_waits_22 : decode cX7_waits 22 = .ok (.invokevirtual 248, 3) := by decide +kernel
theorem dX7_waits_25 : decode cX7_waits 25 = .ok (.lreturn, 1) := by decide +kernel
def f_X7_waits_0 (a0 : Nat) (i1 : Int32) (M : zM) : Option (Int64 × zM) :=
  (f_X7_isNoPlayer i1 M).bind fun r1 =>
  if mK r1.2 a0 = 13 then
  (f_X7_start a0 r1.1 ((1 : Int32)) r1.2).bind fun r2 =>
  if r2.1 = 0 then
  (gR 13 1 r2.2 a0).bind fun v4 =>
  (lQ 2 r2.2 v4 i1).bind fun v5 =>
  if mK r2.2 v5 = 12 then
  (f_X6_waits v5 r2.2).bind fun r6 =>
  some (r6.1, r6.2)
  else none
  else
  some ((0 : Int64), r2.2)
  else none
set_option maxRecDepth 20000 in
set_option maxHeartbeats 4000000 in
theorem s_X7_waits_0 {L : zL} {X : zX} {M0 : zM} {N : Nat × Nat} {Q : State → Prop} {r : Int64 × zM} (hq : vQ L X M0 N Q (some (.long r.1)) r.2) {a0 : Nat} {i1 : Int32} {M : zM} (h : f_X7_waits_0 a0 i1 M = some r) : V L X yX7_waits cX7_waits 2 (some FieldType.long) 69 M0 N Q M 0 [(0, .ref (zad L (a0))), (1, .int (i1))] [] := by
  unfold f_X7_waits_0 at h
  refine V_aload_n dX7_waits_0 rfl 0 rfl ?_
  refine V_iload_n dX7_waits_1 rfl 1 rfl ?_
  replace h := ob h
  obtain ⟨r1, e_r1, h⟩ := h
  refine V_callS_I (As := [.int (i1)]) (rest := [.ref (zad L (a0))]) (c_X7_isNoPlayer e_r1) zc_X7_isNoPlayer rfl (by decide) zm_X7_174 (Nat.le_of_ble_eq_true rfl) rfl dX7_waits_2 ?_
  refine V_pc (pc' := 5) rfl ?_
  refine V_iconst (v := 1) dX7_waits_5 (by decide) ?_
  replace h := ox h
  obtain ⟨c3, h⟩ := h
  replace h := ob h
  obtain ⟨r2, e_r2, h⟩ := h
  refine V_callV_I (As := [.int (r1.1), .int ((1 : Int32))]) (rest := []) (c_X7_start e_r2) zc_X7_start rfl (by decide) rfl (by decide) (Or.inl c3) zm_X7_85 (Nat.le_of_ble_eq_true rfl) rfl dX7_waits_6 ?_
  refine V_pc (pc' := 9) rfl ?_
  refine V_if_eq (tgt := 16) dX7_waits_9 (by decide) (fun c8 => ?_) (fun c8 => ?_)
  · replace h := (oi h).1 c8
    refine V_aload_n dX7_waits_16 rfl 0 rfl ?_
    replace h := ob h
    obtain ⟨v4, e_v4, h⟩ := h
    refine V_getR zf_13_1 zl_X7_38 e_v4 dX7_waits_17 ?_
    refine V_pc (pc' := 20) rfl ?_
    refine V_iload_n dX7_waits_20 rfl 1 rfl ?_
    replace h := ob h
    obtain ⟨v5, e_v5, h⟩ := h
    refine V_aald (by decide) e_v5 dX7_waits_21 ?_
    refine V_pc (pc' := 22) rfl ?_
    replace h := ox h
    obtain ⟨c7, h⟩ := h
    replace h := ob h
    obtain ⟨r6, e_r6, h⟩ := h
    refine V_callV_J (As := []) (rest := []) (c_X6_waits e_r6) zc_X6_waits rfl (by decide) rfl (by decide) (Or.inl c7) zm_X7_248 (Nat.le_of_ble_eq_true rfl) rfl dX7_waits_22 ?_
    refine V_pc (pc' := 25) rfl ?_
    cases h
    exact V_lret rfl hq dX7_waits_25
  · replace h := (oi h).2 c8
    refine V_lconst (v := 0) dX7_waits_12 (by decide) ?_
    refine V_goto (tgt := 25) dX7_waits_13 (by decide) ?_
    cases h
    exact V_lret rfl hq dX7_waits_25
def f_X7_waits (a0 : Nat) (i1 : Int32) (M : zM) : Option (Int64 × zM) := f_X7_waits_0 a0 i1 M
theorem c_X7_waits {L : zL} {l : Launch} {a0 : Nat} {i1 : Int32} {M : zM} {r : Int64 × zM} (h : f_X7_waits a0 i1 M = some r) : CP L l yX7_waits cX7_waits 2 (some FieldType.long) 69 M [.ref (zad L (a0)), .int (i1)] (some (.long r.1)) r.2 :=
  CP.of ⟨by decide +kernel, by decide +kernel⟩ (Nat.le_of_ble_eq_true rfl) fun X Q hq => s_X7_waits_0 hq h
/-! WindsparlourModel.hand(I)Ljava/lang/String; -/
theorem dX7_hand_0 : decode cX7_hand 0 = .ok (.aload_n 0, 1) := by decide +kernel
theorem dX7_hand_1 : decode cX7_hand 1 = .ok (.iload_n 1, 1) := by decide +kernel
theorem dX7_hand_2 : decode cX7_hand 2 = .ok (.invokestatic 174, 3) := by decide +kernel
theorem dX7_hand_5 : decode cX7_hand 5 = .ok (.iconst 1, 1) := by decide +kernel
theorem dX7_hand_6 : decode cX7_hand 6 = .ok (.invokevirtual 85, 3) := by decide +kernel
theorem dX7_hand_9 : decode cX7_hand 9 = .ok (.ifCond .eq 7, 3) := by decide +kernel
theorem dX7_hand_12 : decode cX7_hand 12 = .ok (.ldc_w 290, 3) := by decide +kernel
theorem dX7_hand_15 : decode cX7_hand 15 = .ok (.areturn, 1) := by decide +kernel
theorem dX7_hand_16 : decode cX7_hand 16 = .ok (.new 292, 3) := by decide +kernel
theorem dX7_hand_19 : decode cX7_hand 19 = .ok (.dup, 1) := by decide +kernel
theorem dX7_hand_20 : decode cX7_hand 20 = .ok (.invokespecial 294, 3) := by decide +kernel
theorem dX7_hand_23 : decode cX7_hand 23 = .ok (.astore_n 2, 1) := by decide +kernel
theorem dX7_hand_24 : decode cX7_hand 24 = .ok (.aload_n 0, 1) := by decide +kernel
theorem dX7_hand_25 : decode cX7_hand 25 = .ok (.getfield 38, 3) := by decide +kernel
theorem dX7_hand_28 : decode cX7_hand 28 = .ok (.iload_n 1, 1) := by decide +kernel
theorem dX7_hand_29 : decode cX7_hand 29 = .ok (.aaload, 1) := by decide +kernel
theorem dX7_hand_30 : decode cX7_hand 30 = .ok (.getfield 94, 3) := by decide +kernel
theorem dX7_hand_33 : decode cX7_hand 33 = .ok (.astore_n 3, 1) := by decide +kernel
theorem dX7_hand_34 : decode cX7_hand 34 = .ok (.iconst 0, 1) := by decide +kernel
theorem dX7_hand_35 : decode cX7_hand 35 = .ok (.istore 4, 2) := by decide +kernel
theorem dX7_hand_37 : decode cX7_hand 37 = .ok (.iload 4, 2) := by decide +kernel
theorem dX7_hand_39 : decode cX7_hand 39 = .ok (.bipush 25, 2) := by decide +kernel
theorem dX7_hand_41 : decode cX7_hand 41 = .ok (.if_icmp .ge 119, 3) := by decide +kernel
theorem dX7_hand_44 : decode cX7_hand 44 = .ok (.iconst 0, 1) := by decide +kernel
theorem dX7_hand_45 : decode cX7_hand 45 = .ok (.istore 5, 2) := by decide +kernel
theorem dX7_hand_47 : decode cX7_hand 47 = .ok (.iload 5, 2) := by decide +kernel
theorem dX7_hand_49 : decode cX7_hand 49 = .ok (.aload_n 3, 1) := by decide +kernel
theorem dX7_hand_50 : decode cX7_hand 50 = .ok (.iload 4, 2) := by decide +kernel
theorem dX7_hand_52 : decode cX7_hand 52 = .ok (.iaload, 1) := by decide +kernel
theorem dX7_hand_53 : decode cX7_hand 53 = .ok (.if_icmp .ge 44, 3) := by decide +kernel
theorem dX7_hand_56 : decode cX7_hand 56 = .ok (.aload_n 2, 1) := by decide +kernel
theorem dX7_hand_57 : decode cX7_hand 57 = .ok (.iload 4, 2) := by decide +kernel
theorem dX7_hand_59 : decode cX7_hand 59 = .ok (.bipush 18, 2) := by decide +kernel
theorem dX7_hand_61 : decode cX7_hand 61 = .ok (.if_icmp .ge 15, 3) := by decide +kernel
theorem dX7_hand_64 : decode cX7_hand 64 = .ok (.bipush 49, 2) := by decide +kernel
theorem dX7_hand_66 : decode cX7_hand 66 = .ok (.iload 4, 2) := by decide +kernel
theorem dX7_hand_68 : decode cX7_hand 68 = .ok (.bipush 9, 2) := by decide +kernel
theorem dX7_hand_70 : decode cX7_hand 70 = .ok (.irem, 1) := by decide +kernel
theorem dX7_hand_71 : decode cX7_hand 71 = .ok (.iadd, 1) := by decide +kernel
theorem dX7_hand_72 : decode cX7_hand 72 = .ok (.i2c, 1) := by decide +kernel
theorem dX7_hand_73 : decode cX7_hand 73 = .ok (.goto 14, 3) := by decide +kernel
theorem dX7_hand_76 : decode cX7_hand 76 = .ok (.ldc_w 295, 3) := by decide +kernel
theorem dX7_hand_79 : decode cX7_hand 79 = .ok (.iload 4, 2) := by decide +kernel
theorem dX7_hand_81 : decode cX7_hand 81 = .ok (.bipush 18, 2) := by decide +kernel
theorem dX7_hand_83 : decode cX7_hand 83 = .ok (.isub, 1) := by decide +kernel
theorem dX7_hand_84 : decode cX7_hand 84 = .ok (.invokevirtual 297, 3) := by decide +kernel
theorem dX7_hand_87 : decode cX7_hand 87 = .ok (.invokevirtual 303, 3) := by decide +kernel
theorem dX7_hand_90 : decode cX7_hand 90 = .ok (.pop, 1) := by decide +kernel
theorem dX7_hand_91 : decode cX7_hand 91 = .ok (.iinc 5 1, 3) := by decide +kernel
theorem dX7_hand_94 : decode cX7_hand 94 = .ok (.goto (-47), 3) := by decide +kernel
theorem dX7_hand_97 : decode cX7_hand 97 = .ok (.iload 4, 2) := by decide +kernel
theorem dX7_hand_99 : decode cX7_hand 99 = .ok (.bipush 8, 2) := by decide +kernel
theorem dX7_hand_101 : decode cX7_hand 101 = .ok (.if_icmp .ne 17, 3) := by decide +kernel
theorem dX7_hand_104 : decode cX7_hand 104 = .ok (.aload_n 2, 1) := by decide +kernel
theorem dX7_hand_105 : decode cX7_hand 105 = .ok (.invokevirtual 307, 3) := by decide +kernel
theorem dX7_hand_108 : decode cX7_hand 108 = .ok (.ifCond .le 10, 3) := by decide +kernel
theorem dX7_hand_111 : decode cX7_hand 111 = .ok (.aload_n 2, 1) := by decide +kernel
theorem dX7_hand_112 : decode cX7_hand 112 = .ok (.bipush 100, 2) := by decide +kernel
theorem dX7_hand_114 : decode cX7_hand 114 = .ok (.invokevirtual 303, 3) := by decide +kernel
theorem dX7_hand_117 : decode cX7_hand 117 = .ok (.pop, 1) := by decide +kernel
theorem dX7_hand_118 : decode cX7_hand 118 = .ok (.iload 4, 2) := by decide +kernel
theorem dX7_hand_120 : decode cX7_hand 120 = .ok (.bipush 17, 2) := by decide +kernel
theorem dX7_hand_122 : decode cX7_hand 122 = .ok (.if_icmp .ne 32, 3) := by decide +kernel
theorem dX7_hand_125 : decode cX7_hand 125 = .ok (.aload_n 2, 1) := by decide +kernel
theorem dX7_hand_126 : decode cX7_hand 126 = .ok (.invokevirtual 307, 3) := by decide +kernel
theorem dX7_hand_129 : decode cX7_hand 129 = .ok (.ifCond .le 25, 3) := by decide +kernel
theorem dX7_hand_132 : decode cX7_hand 132 = .ok (.aload_n 2, 1) := by decide +kernel
theorem dX7_hand_133 : decode cX7_hand 133 = .ok (.aload_n 2, 1) := by decide +kernel
theorem dX7_hand_134 : decode cX7_hand 134 = .ok (.invokevirtual 307, 3) := by decide +kernel
theorem dX7_hand_137 : decode cX7_hand 137 = .ok (.iconst 1, 1) := by decide +kernel
theorem dX7_hand_138 : decode cX7_hand 138 = .ok (.isub, 1) := by decide +kernel
theorem dX7_hand_139 : decode cX7_hand 139 = .ok (.invokevirtual 310, 3) := by decide +kernel
theorem dX7_hand_142 : decode cX7_hand 142 = .ok (.bipush 100, 2) := by decide +kernel
theorem dX7_hand_144 : decode cX7_hand 144 = .ok (.if_icmp .eq 10, 3) := by decide +kernel
theorem dX7_hand_147 : decode cX7_hand 147 = .ok (.aload_n 2, 1) := by decide +kernel
theorem dX7_hand_148 : decode cX7_hand 148 = .ok (.bipush 98, 2) := by decide +kernel
theorem dX7_hand_150 : decode cX7_hand 150 = .ok (.invokevirtual 303, 3) := by decide +kernel
theorem dX7_hand_153 : decode cX7_hand 153 = .ok (.pop, 1) := by decide +kernel
theorem dX7_hand_154 : decode cX7_hand 154 = .ok (.iinc 4 1, 3) := by decide +kernel
theorem dX7_hand_157 : decode cX7_hand 157 = .ok (.goto (-120), 3) := by decide +kernel
theorem dX7_hand_160 : decode cX7_hand 160 = .ok (.aload_n 2, 1) := by decide +kernel
theorem dX7_hand_161 : decode cX7_hand 161 = .ok (.invokevirtual 311, 3) := by decide +kernel
theorem dX7_hand_164 : decode cX7_hand 164 = .ok (.areturn, 1) := by decide +kernel
def f_X7_hand_0 (a0 : Nat) (i1 : Int32) (M : zM) : Option (Nat × zM) :=
  (f_X7_isNoPlayer i1 M).bind fun r1 =>
  if mK r1.2 a0 = 13 then
  (f_X7_start a0 r1.1 ((1 : Int32)) r1.2).bind fun r2 =>
  if r2.1 = 0 then
  none
  else
  none
  else none
set_option maxRecDepth 20000 in
set_option maxHeartbeats 4000000 in
theorem s_X7_hand_0 {L : zL} {X : zX} {M0 : zM} {N : Nat × Nat} {Q : State → Prop} {r : Nat × zM} (hq : vQ L X M0 N Q (some (.ref (zad L r.1))) r.2) {a0 : Nat} {i1 : Int32} {M : zM} (h : f_X7_hand_0 a0 i1 M = some r) : V L X yX7_hand cX7_hand 6 (Option.some (FieldType.object "java/lang/String")) 3 M0 N Q M 0 [(0, .ref (zad L (a0))), (1, .int (i1))] [] := by
  unfold f_X7_hand_0 at h
  refine V_aload_n dX7_hand_0 rfl 0 rfl ?_
  refine V_iload_n dX7_hand_1 rfl 1 rfl ?_
  replace h := ob h
  obtain ⟨r1, e_r1, h⟩ := h
  refine V_callS_I (As := [.int (i1)]) (rest := [.ref (zad L (a0))]) (c_X7_isNoPlayer e_r1) zc_X7_isNoPlayer rfl (by decide) zm_X7_174 (Nat.le_of_ble_eq_true rfl) rfl dX7_hand_2 ?_
  refine V_pc (pc' := 5) rfl ?_
  refine V_iconst (v := 1) dX7_hand_5 (by decide) ?_
  replace h := ox h
  obtain ⟨c3, h⟩ := h
  replace h := ob h
  obtain ⟨r2, e_r2, h⟩ := h
  refine V_callV_I (As := [.int (r1.1), .int ((1 : Int32))]) (rest := []) (c_X7_start e_r2) zc_X7_start rfl (by decide) rfl (by decide) (Or.inl c3) zm_X7_85 (Nat.le_of_ble_eq_true rfl) rfl dX7_hand_6 ?_
  refine V_pc (pc' := 9) rfl ?_
  refine V_if_eq (tgt := 16) dX7_hand_9 (by decide) (fun c4 => ?_) (fun c4 => ?_)
  · replace h := (oi h).1 c4
    refine V_new (by decide) rfl zin2 zty2 zdf2 zn_X7_292 dX7_hand_16 ?_
    refine V_dup dX7_hand_19 rfl ?_
    cases h
  · replace h := (oi h).2 c4
    cases h
def f_X7_hand (a0 : Nat) (i1 : Int32) (M : zM) : Option (Nat × zM) := f_X7_hand_0 a0 i1 M
theorem c_X7_hand {L : zL} {l : Launch} {a0 : Nat} {i1 : Int32} {M : zM} {r : Nat × zM} (h : f_X7_hand a0 i1 M = some r) : CP L l yX7_hand cX7_hand 6 (Option.some (FieldType.object "java/lang/String")) 3 M [.ref (zad L (a0)), .int (i1)] (some (.ref (zad L r.1))) r.2 :=
  CP.of ⟨by decide +kernel, by decide +kernel⟩ (Nat.le_of_ble_eq_true rfl) fun X Q hq => s_X7_hand_0 hq h
/-! WindsparlourModel.manyNow(I)I -/
theorem dX7_manyNow_0 : decode cX7_manyNow 0 = .ok (.bipush 10, 2) := by decide +kernel
theorem dX7_manyNow_2 : decode cX7_manyNow 2 = .ok (.newarray .int, 2) := by decide +kernel
theorem dX7_manyNow_4 : decode cX7_manyNow 4 = .ok (.dup, 1) := by decide +kernel
theorem dX7_manyNow_5 : decode cX7_manyNow 5 = .ok (.iconst 0, 1) := by decide +kernel
theorem dX7_manyNow_6 : decode cX7_manyNow 6 = .ok (.aload_n 0, 1) := by decide +kernel
theorem dX7_manyNow_7 : decode cX7_manyNow 7 = .ok (.getfield 50, 3) := by decide +kernel
theorem dX7_manyNow_10 : decode cX7_manyNow 10 = .ok (.iastore, 1) := by decide +kernel
theorem dX7_manyNow_11 : decode cX7_manyNow 11 = .ok (.dup, 1) := by decide +kernel
theorem dX7_manyNow_12 : decode cX7_manyNow 12 = .ok (.iconst 1, 1) := by decide +kernel
theorem dX7_manyNow_13 : decode cX7_manyNow 13 = .ok (.aload_n 0, 1) := by decide +kernel
theorem dX7_manyNow_14 : decode cX7_manyNow 14 = .ok (.getfield 50, 3) := by decide +kernel
theorem dX7_manyNow_17 : decode cX7_manyNow 17 = .ok (.iconst 3, 1) := by decide +kernel
theorem dX7_manyNow_18 : decode cX7_manyNow 18 = .ok (.if_icmp .ne 7, 3) := by decide +kernel
theorem dX7_manyNow_21 : decode cX7_manyNow 21 = .ok (.iconst (-1), 1) := by decide +kernel
theorem dX7_manyNow_22 : decode cX7_manyNow 22 = .ok (.goto 7, 3) := by decide +kernel
theorem dX7_manyNow_25 : decode cX7_manyNow 25 = .ok (.aload_n 0, 1) := by decide +kernel
theorem dX7_manyNow_26 : decode cX7_manyNow 26 = .ok (.getfield 82, 3) := by decide +kernel
theorem dX7_manyNow_29 : decode cX7_manyNow 29 = .ok (.iastore, 1) := by decide +kernel
theorem dX7_manyNow_30 : decode cX7_manyNow 30 = .ok (.dup, 1) := by decide +kernel
theorem dX7_manyNow_31 : decode cX7_manyNow 31 = .ok (.iconst 2, 1) := by decide +kernel
theorem dX7_manyNow_32 : decode cX7_manyNow 32 = .ok (.aload_n 0, 1) := by decide +kernel
theorem dX7_manyNow_33 : decode cX7_manyNow 33 = .ok (.invokevirtual 78, 3) := by decide +kernel
theorem dX7_manyNow_36 : decode cX7_manyNow 36 = .ok (.iastore, 1) := by decide +kernel
theorem dX7_manyNow_37 : decode cX7_manyNow 37 = .ok (.dup, 1) := by decide +kernel
theorem dX7_manyNow_38 : decode cX7_manyNow 38 = .ok (.iconst 3, 1) := by decide +kernel
theorem dX7_manyNow_39 : decode cX7_manyNow 39 = .ok (.aload_n 0, 1) := by decide +kernel
theorem dX7_manyNow_40 : decode cX7_manyNow 40 = .ok (.getfield 46, 3) := by decide +kernel
theorem dX7_manyNow_43 : decode cX7_manyNow 43 = .ok (.iastore, 1) := by decide +kernel
theorem dX7_manyNow_44 : decode cX7_manyNow 44 = .ok (.dup, 1) := by decide +kernel
theorem dX7_manyNow_45 : decode cX7_manyNow 45 = .ok (.iconst 4, 1) := by decide +kernel
theorem dX7_manyNow_46 : decode cX7_manyNow 46 = .ok (.aload_n 0, 1) := by decide +kernel
theorem dX7_manyNow_47 : decode cX7_manyNow 47 = .ok (.getfield 50, 3) := by decide +kernel
theorem dX7_manyNow_50 : decode cX7_manyNow 50 = .ok (.iconst 2, 1) := by decide +kernel
theorem dX7_manyNow_51 : decode cX7_manyNow 51 = .ok (.if_icmp .ne 10, 3) := by decide +kernel
theorem dX7_manyNow_54 : decode cX7_manyNow 54 = .ok (.aload_n 0, 1) := by decide +kernel
theorem dX7_manyNow_55 : decode cX7_manyNow 55 = .ok (.getfield 62, 3) := by decide +kernel
theorem dX7_manyNow_58 : decode cX7_manyNow 58 = .ok (.goto 4, 3) := by decide +kernel
theorem dX7_manyNow_61 : decode cX7_manyNow 61 = .ok (.iconst (-1), 1) := by decide +kernel
theorem dX7_manyNow_62 : decode cX7_manyNow 62 = .ok (.iastore, 1) := by decide +kernel
theorem dX7_manyNow_63 : decode cX7_manyNow 63 = .ok (.dup, 1) := by decide +kernel
theorem dX7_manyNow_64 : decode cX7_manyNow 64 = .ok (.iconst 5, 1) := by decide +kernel
theorem dX7_manyNow_65 : decode cX7_manyNow 65 = .ok (.aload_n 0, 1) := by decide +kernel
theorem dX7_manyNow_66 : decode cX7_manyNow 66 = .ok (.getfield 101, 3) := by decide +kernel
theorem dX7_manyNow_69 : decode cX7_manyNow 69 = .ok (.iastore, 1) := by decide +kernel
theorem dX7_manyNow_70 : decode cX7_manyNow 70 = .ok (.dup, 1) := by decide +kernel
theorem dX7_manyNow_71 : decode cX7_manyNow 71 = .ok (.bipush 6, 2) := by decide +kernel
theorem dX7_manyNow_73 : decode cX7_manyNow 73 = .ok (.aload_n 0, 1) := by decide +kernel
theorem dX7_manyNow_74 : decode cX7_manyNow 74 = .ok (.getfield 164, 3) := by decide +kernel
theorem dX7_manyNow_77 : decode cX7_manyNow 77 = .ok (.iastore, 1) := by decide +kernel
theorem dX7_manyNow_78 : decode cX7_manyNow 78 = .ok (.dup, 1) := by decide +kernel
theorem dX7_manyNow_79 : decode cX7_manyNow 79 = .ok (.bipush 7, 2) := by decide +kernel
theorem dX7_manyNow_81 : decode cX7_manyNow 81 = .ok (.aload_n 0, 1) := by decide +kernel
theorem dX7_manyNow_82 : decode cX7_manyNow 82 = .ok (.getfield 88, 3) := by decide +kernel
theorem dX7_manyNow_85 : decode cX7_manyNow 85 = .ok (.iastore, 1) := by decide +kernel
theorem dX7_manyNow_86 : decode cX7_manyNow 86 = .ok (.dup, 1) := by decide +kernel
theorem dX7_manyNow_87 : decode cX7_manyNow 87 = .ok (.bipush 8, 2) := by decide +kernel
theorem dX7_manyNow_89 : decode cX7_manyNow 89 = .ok (.aload_n 0, 1) := by decide +kernel
theorem dX7_manyNow_90 : decode cX7_manyNow 90 = .ok (.getfield 53, 3) := by decide +kernel
theorem dX7_manyNow_93 : decode cX7_manyNow 93 = .ok (.iastore, 1) := by decide +kernel
theorem dX7_manyNow_94 : decode cX7_manyNow 94 = .ok (.dup, 1) := by decide +kernel
theorem dX7_manyNow_95 : decode cX7_manyNow 95 = .ok (.bipush 9, 2) := by decide +kernel
theorem dX7_manyNow_97 : decode cX7_manyNow 97 = .ok (.aload_n 0, 1) := by decide +kernel
theorem dX7_manyNow_98 : decode cX7_manyNow 98 = .ok (.getfield 56, 3) := by decide +kernel
theorem dX7_manyNow_101 : decode cX7_manyNow 101 = .ok (.iastore, 1) := by decide +kernel
theorem dX7_manyNow_102 : decode cX7_manyNow 102 = .ok (.astore_n 2, 1) := by decide +kernel
theorem dX7_manyNow_103 : decode cX7_manyNow 103 = .ok (.aload_n 2, 1) := by decide +kernel
theorem dX7_manyNow_104 : decode cX7_manyNow 104 = .ok (.iload_n 1, 1) := by decide +kernel
theorem dX7_manyNow_105 : decode cX7_manyNow 105 = .ok (.iaload, 1) := by decide +kernel
theorem dX7_manyNow_106 : decode cX7_manyNow 106 = .ok (.ireturn, 1) := by decide +kernel
def f_X7_manyNow_62 (a0 : Nat) (i1 : Int32) (i_0 : Int32) (i_1 : Int32) (a_2 : Nat) (a_3 : Nat) (M : zM) : Option (Int32 × zM) :=
  (tA M a_2 i_1 i_0).bind fun M1 =>
  (gI 13 10 M1 a0).bind fun v2 =>
  (tA M1 a_3 ((5 : Int32)) v2).bind fun M3 =>
  (gI 13 11 M3 a0).bind fun v4 =>
  (tA M3 a_3 ((6 : Int32)) v4).bind fun M5 =>
  (gI 13 9 M5 a0).bind fun v6 =>
  (tA M5 a_3 ((7 : Int32)) v6).bind fun M7 =>
  (gI 13 8 M7 a0).bind fun v8 =>
  (tA M7 a_3 ((8 : Int32)) v8).bind fun M9 =>
  (gI 13 12 M9 a0).bind fun v10 =>
  (tA M9 a_3 ((9 : Int32)) v10).bind fun M11 =>
  (lA 0 M11 a_3 i1).bind fun v12 =>
  some (v12, M11)
set_option maxRecDepth 20000 in
set_option maxHeartbeats 4000000 in
theorem s_X7_manyNow_62 {L : zL} {X : zX} {M0 : zM} {N : Nat × Nat} {Q : State → Prop} {r : Int32 × zM} (hq : vQ L X M0 N Q (some (.int r.1)) r.2) {a0 : Nat} {i1 : Int32} {i_0 : Int32} {i_1 : Int32} {a_2 : Nat} {a_3 : Nat} {M : zM} (h : f_X7_manyNow_62 a0 i1 i_0 i_1 a_2 a_3 M = some r) : V L X yX7_manyNow cX7_manyNow 3 (some FieldType.int) 2 M0 N Q M 62 [(0, .ref (zad L (a0))), (1, .int (i1))] [.int (i_0), .int (i_1), .ref (zad L (a_2)), .ref (zad L (a_3))] := by
  unfold f_X7_manyNow_62 at h
  replace h := ob h
  obtain ⟨M1, e_M1, h⟩ := h
  refine V_iast e_M1 dX7_manyNow_62 ?_
  refine V_dup dX7_manyNow_63 rfl ?_
  refine V_iconst (v := 5) dX7_manyNow_64 (by decide) ?_
  refine V_aload_n dX7_manyNow_65 rfl 0 rfl ?_
  replace h := ob h
  obtain ⟨v2, e_v2, h⟩ := h
  refine V_getI zf_13_10 zl_X7_101 e_v2 dX7_manyNow_66 ?_
  refine V_pc (pc' := 69) rfl ?_
  replace h := ob h
  obtain ⟨M3, e_M3, h⟩ := h
  refine V_iast e_M3 dX7_manyNow_69 ?_
  refine V_dup dX7_manyNow_70 rfl ?_
  refine V_bipush (v := 6) dX7_manyNow_71 (by decide) ?_
  refine V_aload_n dX7_manyNow_73 rfl 0 rfl ?_
  replace h := ob h
  obtain ⟨v4, e_v4, h⟩ := h
  refine V_getI zf_13_11 zl_X7_164 e_v4 dX7_manyNow_74 ?_
  refine V_pc (pc' := 77) rfl ?_
  replace h := ob h
  obtain ⟨M5, e_M5, h⟩ := h
  refine V_iast e_M5 dX7_manyNow_77 ?_
  refine V_dup dX7_manyNow_78 rfl ?_
  refine V_bipush (v := 7) dX7_manyNow_79 (by decide) ?_
  refine V_aload_n dX7_manyNow_81 rfl 0 rfl ?_
  replace h := ob h
  obtain ⟨v6, e_v6, h⟩ := h
  refine V_getI zf_13_9 zl_X7_88 e_v6 dX7_manyNow_82 ?_
  refine V_pc (pc' := 85) rfl ?_
  replace h := ob h
  obtain ⟨M7, e_M7, h⟩ := h
  refine V_iast e_M7 dX7_manyNow_85 ?_
  refine V_dup dX7_manyNow_86 rfl ?_
  refine V_bipush (v := 8) dX7_manyNow_87 (by decide) ?_
  refine V_aload_n dX7_manyNow_89 rfl 0 rfl ?_
  replace h := ob h
  obtain ⟨v8, e_v8, h⟩ := h
  refine V_getI zf_13_8 zl_X7_53 e_v8 dX7_manyNow_90 ?_
  refine V_pc (pc' := 93) rfl ?_
  replace h := ob h
  obtain ⟨M9, e_M9, h⟩ := h
  refine V_iast e_M9 dX7_manyNow_93 ?_
  refine V_dup dX7_manyNow_94 rfl ?_
  refine V_bipush (v := 9) dX7_manyNow_95 (by decide) ?_
  refine V_aload_n dX7_manyNow_97 rfl 0 rfl ?_
  replace h := ob h
  obtain ⟨v10, e_v10, h⟩ := h
  refine V_getI zf_13_12 zl_X7_56 e_v10 dX7_manyNow_98 ?_
  refine V_pc (pc' := 101) rfl ?_
  replace h := ob h
  obtain ⟨M11, e_M11, h⟩ := h
  refine V_iast e_M11 dX7_manyNow_101 ?_
  refine V_astore_n (ls' := [(2, .ref (zad L (a_3))), (0, .ref (zad L (a0))), (1, .int (i1))]) dX7_manyNow_102 rfl (by decide) rfl ?_
  refine V_aload_n dX7_manyNow_103 rfl 0 rfl ?_
  refine V_iload_n dX7_manyNow_104 rfl 2 rfl ?_
  replace h := ob h
  obtain ⟨v12, e_v12, h⟩ := h
  refine V_iald e_v12 dX7_manyNow_105 ?_
  refine V_pc (pc' := 106) rfl ?_
  cases h
  exact V_iret rfl hq dX7_manyNow_106
def f_X7_manyNow_29 (a0 : Nat) (i1 : Int32) (i_0 : Int32) (i_1 : Int32) (a_2 : Nat) (a_3 : Nat) (M : zM) : Option (Int32 × zM) :=
  (tA M a_2 i_1 i_0).bind fun M1 =>
  if mK M1 a0 = 13 then
  (f_X7_left a0 M1).bind fun r2 =>
  (tA r2.2 a_3 ((2 : Int32)) r2.1).bind fun M4 =>
  (gI 13 5 M4 a0).bind fun v5 =>
  (tA M4 a_3 ((3 : Int32)) v5).bind fun M6 =>
  (gI 13 6 M6 a0).bind fun v7 =>
  if v7 = ((2 : Int32)) then
  (gI 13 14 M6 a0).bind fun v8 =>
  f_X7_manyNow_62 a0 i1 v8 ((4 : Int32)) a_3 a_3 M6
  else
  f_X7_manyNow_62 a0 i1 ((-1 : Int32)) ((4 : Int32)) a_3 a_3 M6
  else none
set_option maxRecDepth 20000 in
set_option maxHeartbeats 4000000 in
theorem s_X7_manyNow_29 {L : zL} {X : zX} {M0 : zM} {N : Nat × Nat} {Q : State → Prop} {r : Int32 × zM} (hq : vQ L X M0 N Q (some (.int r.1)) r.2) {a0 : Nat} {i1 : Int32} {i_0 : Int32} {i_1 : Int32} {a_2 : Nat} {a_3 : Nat} {M : zM} (h : f_X7_manyNow_29 a0 i1 i_0 i_1 a_2 a_3 M = some r) : V L X yX7_manyNow cX7_manyNow 3 (some FieldType.int) 2 M0 N Q M 29 [(0, .ref (zad L (a0))), (1, .int (i1))] [.int (i_0), .int (i_1), .ref (zad L (a_2)), .ref (zad L (a_3))] := by
  unfold f_X7_manyNow_29 at h
  replace h := ob h
  obtain ⟨M1, e_M1, h⟩ := h
  refine V_iast e_M1 dX7_manyNow_29 ?_
  refine V_dup dX7_manyNow_30 rfl ?_
  refine V_iconst (v := 2) dX7_manyNow_31 (by decide) ?_
  refine V_aload_n dX7_manyNow_32 rfl 0 rfl ?_
  replace h := ox h
  obtain ⟨c3, h⟩ := h
  replace h := ob h
  obtain ⟨r2, e_r2, h⟩ := h
  refine V_callV_I (As := []) (rest := [.int ((2 : Int32)), .ref (zad L (a_3)), .ref (zad L (a_3))]) (c_X7_left e_r2) zc_X7_left rfl (by decide) rfl (by decide) (Or.inl c3) zm_X7_78 (Nat.le_of_ble_eq_true rfl) rfl dX7_manyNow_33 ?_
  refine V_pc (pc' := 36) rfl ?_
  replace h := ob h
  obtain ⟨M4, e_M4, h⟩ := h
  refine V_iast e_M4 dX7_manyNow_36 ?_
  refine V_dup dX7_manyNow_37 rfl ?_
  refine V_iconst (v := 3) dX7_manyNow_38 (by decide) ?_
  refine V_aload_n dX7_manyNow_39 rfl 0 rfl ?_
  replace h := ob h
  obtain ⟨v5, e_v5, h⟩ := h
  refine V_getI zf_13_5 zl_X7_46 e_v5 dX7_manyNow_40 ?_
  refine V_pc (pc' := 43) rfl ?_
  replace h := ob h
  obtain ⟨M6, e_M6, h⟩ := h
  refine V_iast e_M6 dX7_manyNow_43 ?_
  refine V_dup dX7_manyNow_44 rfl ?_
  refine V_iconst (v := 4) dX7_manyNow_45 (by decide) ?_
  refine V_aload_n dX7_manyNow_46 rfl 0 rfl ?_
  replace h := ob h
  obtain ⟨v7, e_v7, h⟩ := h
  refine V_getI zf_13_6 zl_X7_50 e_v7 dX7_manyNow_47 ?_
  refine V_pc (pc' := 50) rfl ?_
  refine V_iconst (v := 2) dX7_manyNow_50 (by decide) ?_
  refine V_icmp_ne (tgt := 61) dX7_manyNow_51 (by decide) (fun c9 => ?_) (fun c9 => ?_)
  · replace h := (oi h).2 c9
    refine V_iconst (v := -1) dX7_manyNow_61 (by decide) ?_
    exact s_X7_manyNow_62 hq h
  · replace h := (oi h).1 c9
    refine V_aload_n dX7_manyNow_54 rfl 0 rfl ?_
    replace h := ob h
    obtain ⟨v8, e_v8, h⟩ := h
    refine V_getI zf_13_14 zl_X7_62 e_v8 dX7_manyNow_55 ?_
    refine V_pc (pc' := 58) rfl ?_
    refine V_goto (tgt := 62) dX7_manyNow_58 (by decide) ?_
    exact s_X7_manyNow_62 hq h
def f_X7_manyNow_0 (a0 : Nat) (i1 : Int32) (M : zM) : Option (Int32 × zM) :=
  (aA 0 M ((10 : Int32))).bind fun r1 =>
  (gI 13 6 r1.2 a0).bind fun v2 =>
  (tA r1.2 r1.1 ((0 : Int32)) v2).bind fun M3 =>
  (gI 13 6 M3 a0).bind fun v4 =>
  if v4 = ((3 : Int32)) then
  f_X7_manyNow_29 a0 i1 ((-1 : Int32)) ((1 : Int32)) r1.1 r1.1 M3
  else
  (gI 13 7 M3 a0).bind fun v5 =>
  f_X7_manyNow_29 a0 i1 v5 ((1 : Int32)) r1.1 r1.1 M3
set_option maxRecDepth 20000 in
set_option maxHeartbeats 4000000 in
theorem s_X7_manyNow_0 {L : zL} {X : zX} {M0 : zM} {N : Nat × Nat} {Q : State → Prop} {r : Int32 × zM} (hq : vQ L X M0 N Q (some (.int r.1)) r.2) {a0 : Nat} {i1 : Int32} {M : zM} (h : f_X7_manyNow_0 a0 i1 M = some r) : V L X yX7_manyNow cX7_manyNow 3 (some FieldType.int) 2 M0 N Q M 0 [(0, .ref (zad L (a0))), (1, .int (i1))] [] := by
  unfold f_X7_manyNow_0 at h
  refine V_bipush (v := 10) dX7_manyNow_0 (by decide) ?_
  replace h := ob h
  obtain ⟨r1, e_r1, h⟩ := h
  refine V_newa (t := 0) (by decide) rfl zna_0 e_r1 dX7_manyNow_2 ?_
  refine V_pc (pc' := 4) rfl ?_
  refine V_dup dX7_manyNow_4 rfl ?_
  refine V_iconst (v := 0) dX7_manyNow_5 (by decide) ?_
  refine V_aload_n dX7_manyNow_6 rfl 0 rfl ?_
  replace h := ob h
  obtain ⟨v2, e_v2, h⟩ := h
  refine V_getI zf_13_6 zl_X7_50 e_v2 dX7_manyNow_7 ?_
  refine V_pc (pc' := 10) rfl ?_
  replace h := ob h
  obtain ⟨M3, e_M3, h⟩ := h
  refine V_iast e_M3 dX7_manyNow_10 ?_
  refine V_dup dX7_manyNow_11 rfl ?_
  refine V_iconst (v := 1) dX7_manyNow_12 (by decide) ?_
  refine V_aload_n dX7_manyNow_13 rfl 0 rfl ?_
  replace h := ob h
  obtain ⟨v4, e_v4, h⟩ := h
  refine V_getI zf_13_6 zl_X7_50 e_v4 dX7_manyNow_14 ?_
  refine V_pc (pc' := 17) rfl ?_
  refine V_iconst (v := 3) dX7_manyNow_17 (by decide) ?_
  refine V_icmp_ne (tgt := 25) dX7_manyNow_18 (by decide) (fun c6 => ?_) (fun c6 => ?_)
  · replace h := (oi h).2 c6
    refine V_aload_n dX7_manyNow_25 rfl 0 rfl ?_
    replace h := ob h
    obtain ⟨v5, e_v5, h⟩ := h
    refine V_getI zf_13_7 zl_X7_82 e_v5 dX7_manyNow_26 ?_
    refine V_pc (pc' := 29) rfl ?_
    exact s_X7_manyNow_29 hq h
  · replace h := (oi h).1 c6
    refine V_iconst (v := -1) dX7_manyNow_21 (by decide) ?_
    refine V_goto (tgt := 29) dX7_manyNow_22 (by decide) ?_
    exact s_X7_manyNow_29 hq h
def f_X7_manyNow (a0 : Nat) (i1 : Int32) (M : zM) : Option (Int32 × zM) := f_X7_manyNow_0 a0 i1 M
theorem c_X7_manyNow {L : zL} {l : Launch} {a0 : Nat} {i1 : Int32} {M : zM} {r : Int32 × zM} (h : f_X7_manyNow a0 i1 M = some r) : CP L l yX7_manyNow cX7_manyNow 3 (some FieldType.int) 2 M [.ref (zad L (a0)), .int (i1)] (some (.int r.1)) r.2 :=
  CP.of ⟨by decide +kernel, by decide +kernel⟩ (Nat.le_of_ble_eq_true rfl) fun X Q hq => s_X7_manyNow_0 hq h
/-! WindsparlourModel.many(I)I -/
theorem dX7_many_0 : decode cX7_many 0 = .ok (.aload_n 0, 1) := by decide +kernel
theorem dX7_many_1 : decode cX7_many 1 = .ok (.iload_n 1, 1) := by decide +kernel
theorem dX7_many_2 : decode cX7_many 2 = .ok (.iconst 0, 1) := by decide +kernel
theorem dX7_many_3 : decode cX7_many 3 = .ok (.bipush 9, 2) := by decide +kernel
theorem dX7_many_5 : decode cX7_many 5 = .ok (.invokestatic 3, 3) := by decide +kernel
theorem dX7_many_8 : decode cX7_many 8 = .ok (.ifCond .ne 7, 3) := by decide +kernel
theorem dX7_many_11 : decode cX7_many 11 = .ok (.iconst 1, 1) := by decide +kernel
theorem dX7_many_12 : decode cX7_many 12 = .ok (.goto 4, 3) := by decide +kernel
theorem dX7_many_15 : decode cX7_many 15 = .ok (.iconst 0, 1) := by decide +kernel
theorem dX7_many_16 : decode cX7_many 16 = .ok (.iconst 1, 1) := by decide +kernel
theorem dX7_many_17 : decode cX7_many 17 = .ok (.invokevirtual 85, 3) := by decide +kernel
theorem dX7_many_20 : decode cX7_many 20 = .ok (.ifCond .eq 7, 3) := by decide +kernel
theorem dX7_many_23 : decode cX7_many 23 = .ok (.iconst 0, 1) := by decide +kernel
theorem dX7_many_24 : decode cX7_many 24 = .ok (.goto 8, 3) := by decide +kernel
theorem dX7_many_27 : decode cX7_many 27 = .ok (.aload_n 0, 1) := by decide +kernel
theorem dX7_many_28 : decode cX7_many 28 = .ok (.iload_n 1, 1) := by decide +kernel
theorem dX7_many_29 : decode cX7_many 29 = .ok (.invokevirtual 315, 3) := by decide +kernel
theorem dX7_many_32 : decode cX7_many 32 = .ok (.ireturn, 1) := by decide +kernel
def f_X7_many_16 (a0 : Nat) (i1 : Int32) (i_0 : Int32) (a_1 : Nat) (M : zM) : Option (Int32 × zM) :=
  if mK M a_1 = 13 then
  (f_X7_start a_1 i_0 ((1 : Int32)) M).bind fun r1 =>
  if r1.1 = 0 then
  if mK r1.2 a0 = 13 then
  (f_X7_manyNow a0 i1 r1.2).bind fun r3 =>
  some (r3.1, r3.2)
  else none
  else
  some ((0 : Int32), r1.2)
  else none
set_option maxRecDepth 20000 in
set_option maxHeartbeats 4000000 in
theorem s_X7_many_16 {L : zL} {X : zX} {M0 : zM} {N : Nat × Nat} {Q : State → Prop} {r : Int32 × zM} (hq : vQ L X M0 N Q (some (.int r.1)) r.2) {a0 : Nat} {i1 : Int32} {i_0 : Int32} {a_1 : Nat} {M : zM} (h : f_X7_many_16 a0 i1 i_0 a_1 M = some r) : V L X yX7_many cX7_many 2 (some FieldType.int) 3 M0 N Q M 16 [(0, .ref (zad L (a0))), (1, .int (i1))] [.int (i_0), .ref (zad L (a_1))] := by
  unfold f_X7_many_16 at h
  refine V_iconst (v := 1) dX7_many_16 (by decide) ?_
  replace h := ox h
  obtain ⟨c2, h⟩ := h
  replace h := ob h
  obtain ⟨r1, e_r1, h⟩ := h
  refine V_callV_I (As := [.int (i_0), .int ((1 : Int32))]) (rest := []) (c_X7_start e_r1) zc_X7_start rfl (by decide) rfl (by decide) (Or.inl c2) zm_X7_85 (Nat.le_of_ble_eq_true rfl) rfl dX7_many_17 ?_
  refine V_pc (pc' := 20) rfl ?_
  refine V_if_eq (tgt := 27) dX7_many_20 (by decide) (fun c5 => ?_) (fun c5 => ?_)
  · replace h := (oi h).1 c5
    refine V_aload_n dX7_many_27 rfl 0 rfl ?_
    refine V_iload_n dX7_many_28 rfl 1 rfl ?_
    replace h := ox h
    obtain ⟨c4, h⟩ := h
    replace h := ob h
    obtain ⟨r3, e_r3, h⟩ := h
    refine V_callV_I (As := [.int (i1)]) (rest := []) (c_X7_manyNow e_r3) zc_X7_manyNow rfl (by decide) rfl (by decide) (Or.inl c4) zm_X7_315 (Nat.le_of_ble_eq_true rfl) rfl dX7_many_29 ?_
    refine V_pc (pc' := 32) rfl ?_
    cases h
    exact V_iret rfl hq dX7_many_32
  · replace h := (oi h).2 c5
    refine V_iconst (v := 0) dX7_many_23 (by decide) ?_
    refine V_goto (tgt := 32) dX7_many_24 (by decide) ?_
    cases h
    exact V_iret rfl hq dX7_many_32
def f_X7_many_0 (a0 : Nat) (i1 : Int32) (M : zM) : Option (Int32 × zM) :=
  (f_X7_isIn i1 ((0 : Int32)) ((9 : Int32)) M).bind fun r1 =>
  if r1.1 = 0 then
  f_X7_many_16 a0 i1 ((1 : Int32)) a0 r1.2
  else
  f_X7_many_16 a0 i1 ((0 : Int32)) a0 r1.2
set_option maxRecDepth 20000 in
set_option maxHeartbeats 4000000 in
theorem s_X7_many_0 {L : zL} {X : zX} {M0 : zM} {N : Nat × Nat} {Q : State → Prop} {r : Int32 × zM} (hq : vQ L X M0 N Q (some (.int r.1)) r.2) {a0 : Nat} {i1 : Int32} {M : zM} (h : f_X7_many_0 a0 i1 M = some r) : V L X yX7_many cX7_many 2 (some FieldType.int) 3 M0 N Q M 0 [(0, .ref (zad L (a0))), (1, .int (i1))] [] := by
  unfold f_X7_many_0 at h
  refine V_aload_n dX7_many_0 rfl 0 rfl ?_
  refine V_iload_n dX7_many_1 rfl 1 rfl ?_
  refine V_iconst (v := 0) dX7_many_2 (by decide) ?_
  refine V_bipush (v := 9) dX7_many_3 (by decide) ?_
  replace h := ob h
  obtain ⟨r1, e_r1, h⟩ := h
  refine V_callS_I (As := [.int (i1), .int ((0 : Int32)), .int ((9 : Int32))]) (rest := [.ref (zad L (a0))]) (c_X7_isIn e_r1) zc_X7_isIn rfl (by decide) zm_X7_3 (Nat.le_of_ble_eq_true rfl) rfl dX7_many_5 ?_
  refine V_pc (pc' := 8) rfl ?_
  refine V_if_ne (tgt := 15) dX7_many_8 (by decide) (fun c2 => ?_) (fun c2 => ?_)
  · replace h := (oi h).2 c2
    refine V_iconst (v := 0) dX7_many_15 (by decide) ?_
    exact s_X7_many_16 hq h
  · replace h := (oi h).1 c2
    refine V_iconst (v := 1) dX7_many_11 (by decide) ?_
    refine V_goto (tgt := 16) dX7_many_12 (by decide) ?_
    exact s_X7_many_16 hq h
def f_X7_many (a0 : Nat) (i1 : Int32) (M : zM) : Option (Int32 × zM) := f_X7_many_0 a0 i1 M
theorem c_X7_many {L : zL} {l : Launch} {a0 : Nat} {i1 : Int32} {M : zM} {r : Int32 × zM} (h : f_X7_many a0 i1 M = some r) : CP L l yX7_many cX7_many 2 (some FieldType.int) 3 M [.ref (zad L (a0)), .int (i1)] (some (.int r.1)) r.2 :=
  CP.of ⟨by decide +kernel, by decide +kernel⟩ (Nat.le_of_ble_eq_true rfl) fun X Q hq => s_X7_many_0 hq h
/-! WindsparlourModel.leadNow(I)D -/
theorem dX7_leadNow_0 : decode cX7_leadNow 0 = .ok (.iconst 0, 1) := by decide +kernel
theorem dX7_leadNow_1 : decode cX7_leadNow 1 = .ok (.istore_n 2, 1) := by decide +kernel
theorem dX7_leadNow_2 : decode cX7_leadNow 2 = .ok (.aload_n 0, 1) := by decide +kernel
theorem dX7_leadNow_3 : decode cX7_leadNow 3 = .ok (.getfield 38, 3) := by decide +kernel
theorem dX7_leadNow_6 : decode cX7_leadNow 6 = .ok (.astore_n 3, 1) := by decide +kernel
theorem dX7_leadNow_7 : decode cX7_leadNow 7 = .ok (.aload_n 3, 1) := by decide +kernel
theorem dX7_leadNow_8 : decode cX7_leadNow 8 = .ok (.arraylength, 1) := by decide +kernel
theorem dX7_leadNow_9 : decode cX7_leadNow 9 = .ok (.istore 4, 2) := by decide +kernel
theorem dX7_leadNow_11 : decode cX7_leadNow 11 = .ok (.iconst 0, 1) := by decide +kernel
theorem dX7_leadNow_12 : decode cX7_leadNow 12 = .ok (.istore 5, 2) := by decide +kernel
theorem dX7_leadNow_14 : decode cX7_leadNow 14 = .ok (.iload 5, 2) := by decide +kernel
theorem dX7_leadNow_16 : decode cX7_leadNow 16 = .ok (.iload 4, 2) := by decide +kernel
theorem dX7_leadNow_18 : decode cX7_leadNow 18 = .ok (.if_icmp .ge 23, 3) := by decide +kernel
theorem dX7_leadNow_21 : decode cX7_leadNow 21 = .ok (.aload_n 3, 1) := by decide +kernel
theorem dX7_leadNow_22 : decode cX7_leadNow 22 = .ok (.iload 5, 2) := by decide +kernel
theorem dX7_leadNow_24 : decode cX7_leadNow 24 = .ok (.aaload, 1) := by decide +kernel
theorem dX7_leadNow_25 : decode cX7_leadNow 25 = .ok (.astore 6, 2) := by decide +kernel
theorem dX7_leadNow_27 : decode cX7_leadNow 27 = .ok (.iload_n 2, 1) := by decide +kernel
theorem dX7_leadNow_28 : decode cX7_leadNow 28 = .ok (.aload 6, 2) := by decide +kernel
theorem dX7_leadNow_30 : decode cX7_leadNow 30 = .ok (.getfield 112, 3) := by decide +kernel
theorem dX7_leadNow_33 : decode cX7_leadNow 33 = .ok (.iadd, 1) := by decide +kernel
theorem dX7_leadNow_34 : decode cX7_leadNow 34 = .ok (.istore_n 2, 1) := by decide +kernel
theorem dX7_leadNow_35 : decode cX7_leadNow 35 = .ok (.iinc 5 1, 3) := by decide +kernel
theorem dX7_leadNow_38 : decode cX7_leadNow 38 = .ok (.goto (-24), 3) := by decide +kernel
theorem dX7_leadNow_41 : decode cX7_leadNow 41 = .ok (.aload_n 0, 1) := by decide +kernel
theorem dX7_leadNow_42 : decode cX7_leadNow 42 = .ok (.getfield 38, 3) := by decide +kernel
theorem dX7_leadNow_45 : decode cX7_leadNow 45 = .ok (.iload_n 1, 1) := by decide +kernel
theorem dX7_leadNow_46 : decode cX7_leadNow 46 = .ok (.aaload, 1) := by decide +kernel
theorem dX7_leadNow_47 : decode cX7_leadNow 47 = .ok (.getfield 112, 3) := by decide +kernel
theorem dX7_leadNow_50 : decode cX7_leadNow 50 = .ok (.i2d, 1) := by decide +kernel
theorem dX7_leadNow_51 : decode cX7_leadNow 51 = .ok (.iload_n 2, 1) := by decide +kernel
theorem dX7_leadNow_52 : decode cX7_leadNow 52 = .ok (.i2d, 1) := by decide +kernel
theorem dX7_leadNow_53 : decode cX7_leadNow 53 = .ok (.ldc2_w 318, 3) := by decide +kernel
theorem dX7_leadNow_56 : decode cX7_leadNow 56 = .ok (.ddiv, 1) := by decide +kernel
theorem dX7_leadNow_57 : decode cX7_leadNow 57 = .ok (.dsub, 1) := by decide +kernel
theorem dX7_leadNow_58 : decode cX7_leadNow 58 = .ok (.dreturn, 1) := by decide +kernel
def f_X7_leadNow_14 (n : Nat) (a0 : Nat) (i1 : Int32) (i2 : Int32) (a3 : Nat) (i4 : Int32) (i5 : Int32) (M : zM) : Option (UInt64 × zM) := match n with
  | 0 => none
  | n + 1 =>
    if i4 ≤ i5 then
    (gR 13 1 M a0).bind fun v1 =>
    (lQ 2 M v1 i1).bind fun v2 =>
    (gI 12 0 M v2).bind fun v3 =>
    if (FP.ddiv ((FP.i2d i2)) ((4616189618054758400 : UInt64))) &&& 0x7fffffffffffffff ≤ 0x7ff0000000000000 then
    if (FP.dsub ((FP.i2d v3)) ((FP.ddiv ((FP.i2d i2)) ((4616189618054758400 : UInt64))))) &&& 0x7fffffffffffffff ≤ 0x7ff0000000000000 then
    some ((FP.dsub ((FP.i2d v3)) ((FP.ddiv ((FP.i2d i2)) ((4616189618054758400 : UInt64))))), M)
    else none
    else none
    else
    (lQ 2 M a3 i5).bind fun v6 =>
    (gI 12 0 M v6).bind fun v7 =>
    f_X7_leadNow_14 n a0 i1 ((i2 + v7)) a3 i4 ((i5 + (1 : Int32))) M
set_option maxRecDepth 20000 in
set_option maxHeartbeats 4000000 in
theorem s_X7_leadNow_14 {L : zL} {X : zX} {M0 : zM} {N : Nat × Nat} {Q : State → Prop} {r : UInt64 × zM} (hq : vQ L X M0 N Q (some (.double r.1)) r.2) {n : Nat} {a0 : Nat} {i1 : Int32} {i2 : Int32} {a3 : Nat} {i4 : Int32} {i5 : Int32} {M : zM} : f_X7_leadNow_14 n a0 i1 i2 a3 i4 i5 M = some r → V L X yX7_leadNow cX7_leadNow 7 (some FieldType.double) 1 M0 N Q M 14 [(0, .ref (zad L (a0))), (1, .int (i1)), (2, .int (i2)), (3, .ref (zad L (a3))), (4, .int (i4)), (5, .int (i5))] [] := by
  induction n generalizing a0 i1 i2 a3 i4 i5 M with
  | zero =>
    intro h
    rw [f_X7_leadNow_14] at h
    cases h
  | succ n ih0 =>
    intro h
    have ih : ∀ (a0 : Nat) (i1 : Int32) (i2 : Int32) (a3 : Nat) (i4 : Int32) (i5 : Int32) (M : zM), f_X7_leadNow_14 n a0 i1 i2 a3 i4 i5 M = some r → V L X yX7_leadNow cX7_leadNow 7 (some FieldType.double) 1 M0 N Q M 14 [(0, .ref (zad L (a0))), (1, .int (i1)), (2, .int (i2)), (3, .ref (zad L (a3))), (4, .int (i4)), (5, .int (i5))] [] := fun a0 i1 i2 a3 i4 i5 M h => ih0 h
    rw [f_X7_leadNow_14] at h
    refine V_iload dX7_leadNow_14 5 rfl ?_
    refine V_iload dX7_leadNow_16 4 rfl ?_
    refine V_icmp_ge (tgt := 41) dX7_leadNow_18 (by decide) (fun c8 => ?_) (fun c8 => ?_)
    · replace h := (oi h).1 c8
      refine V_aload_n dX7_leadNow_41 rfl 0 rfl ?_
      replace h := ob h
      obtain ⟨v1, e_v1, h⟩ := h
      refine V_getR zf_13_1 zl_X7_38 e_v1 dX7_leadNow_42 ?_
      refine V_pc (pc' := 45) rfl ?_
      refine V_iload_n dX7_leadNow_45 rfl 1 rfl ?_
      replace h := ob h
      obtain ⟨v2, e_v2, h⟩ := h
      refine V_aald (by decide) e_v2 dX7_leadNow_46 ?_
      refine V_pc (pc' := 47) rfl ?_
      replace h := ob h
      obtain ⟨v3, e_v3, h⟩ := h
      refine V_getI zf_12_0 zl_X7_112 e_v3 dX7_leadNow_47 ?_
      refine V_pc (pc' := 50) rfl ?_
      refine V_i2d dX7_leadNow_50 ?_
      refine V_iload_n dX7_leadNow_51 rfl 2 rfl ?_
      refine V_i2d dX7_leadNow_52 ?_
      refine V_ldc2d zcn_X7_318 dX7_leadNow_53 ?_
      replace h := ox h
      obtain ⟨c5, h⟩ := h
      refine V_ddiv dX7_leadNow_56 c5 ?_
      replace h := ox h
      obtain ⟨c4, h⟩ := h
      refine V_dsub dX7_leadNow_57 c4 ?_
      cases h
      exact V_dret rfl hq dX7_leadNow_58
    · replace h := (oi h).2 c8
      refine V_aload_n dX7_leadNow_21 rfl 3 rfl ?_
      refine V_iload dX7_leadNow_22 5 rfl ?_
      replace h := ob h
      obtain ⟨v6, e_v6, h⟩ := h
      refine V_aald (by decide) e_v6 dX7_leadNow_24 ?_
      refine V_pc (pc' := 25) rfl ?_
      refine V_astore (ls' := [(6, .ref (zad L (v6))), (0, .ref (zad L (a0))), (1, .int (i1)), (2, .int (i2)), (3, .ref (zad L (a3))), (4, .int (i4)), (5, .int (i5))]) dX7_leadNow_25 (by decide) rfl ?_
      refine V_iload_n dX7_leadNow_27 rfl 3 rfl ?_
      refine V_aload dX7_leadNow_28 0 rfl ?_
      replace h := ob h
      obtain ⟨v7, e_v7, h⟩ := h
      refine V_getI zf_12_0 zl_X7_112 e_v7 dX7_leadNow_30 ?_
      refine V_pc (pc' := 33) rfl ?_
      refine V_iadd dX7_leadNow_33 ?_
      refine V_istore_n (ls' := [(2, .int ((i2 + v7))), (6, .ref (zad L (v6))), (0, .ref (zad L (a0))), (1, .int (i1)), (3, .ref (zad L (a3))), (4, .int (i4)), (5, .int (i5))]) dX7_leadNow_34 rfl (by decide) rfl ?_
      refine V_iinc (v := i5 + (1 : Int32)) (ls' := [(5, .int ((i5 + (1 : Int32)))), (2, .int ((i2 + v7))), (6, .ref (zad L (v6))), (0, .ref (zad L (a0))), (1, .int (i1)), (3, .ref (zad L (a3))), (4, .int (i4))]) dX7_leadNow_35 6 rfl (by rfl) (by decide) rfl ?_
      refine V_goto (tgt := 14) dX7_leadNow_38 (by decide) ?_
      refine V_sub [3, 4, 1, 5, 6, 0] rfl ?_
      exact ih _ _ _ _ _ _ _ h
def f_X7_leadNow_0 (a0 : Nat) (i1 : Int32) (M : zM) : Option (UInt64 × zM) :=
  (gR 13 1 M a0).bind fun v1 =>
  (gL M v1).bind fun v2 =>
  f_X7_leadNow_14 zN a0 i1 ((0 : Int32)) v1 v2 ((0 : Int32)) M
set_option maxRecDepth 20000 in
set_option maxHeartbeats 4000000 in
theorem s_X7_leadNow_0 {L : zL} {X : zX} {M0 : zM} {N : Nat × Nat} {Q : State → Prop} {r : UInt64 × zM} (hq : vQ L X M0 N Q (some (.double r.1)) r.2) {a0 : Nat} {i1 : Int32} {M : zM} (h : f_X7_leadNow_0 a0 i1 M = some r) : V L X yX7_leadNow cX7_leadNow 7 (some FieldType.double) 1 M0 N Q M 0 [(0, .ref (zad L (a0))), (1, .int (i1))] [] := by
  unfold f_X7_leadNow_0 at h
  refine V_iconst (v := 0) dX7_leadNow_0 (by decide) ?_
  refine V_istore_n (ls' := [(2, .int ((0 : Int32))), (0, .ref (zad L (a0))), (1, .int (i1))]) dX7_leadNow_1 rfl (by decide) rfl ?_
  refine V_aload_n dX7_leadNow_2 rfl 1 rfl ?_
  replace h := ob h
  obtain ⟨v1, e_v1, h⟩ := h
  refine V_getR zf_13_1 zl_X7_38 e_v1 dX7_leadNow_3 ?_
  refine V_pc (pc' := 6) rfl ?_
  refine V_astore_n (ls' := [(3, .ref (zad L (v1))), (2, .int ((0 : Int32))), (0, .ref (zad L (a0))), (1, .int (i1))]) dX7_leadNow_6 rfl (by decide) rfl ?_
  refine V_aload_n dX7_leadNow_7 rfl 0 rfl ?_
  replace h := ob h
  obtain ⟨v2, e_v2, h⟩ := h
  refine V_alen e_v2 dX7_leadNow_8 ?_
  refine V_pc (pc' := 9) rfl ?_
  refine V_istore (ls' := [(4, .int (v2)), (3, .ref (zad L (v1))), (2, .int ((0 : Int32))), (0, .ref (zad L (a0))), (1, .int (i1))]) dX7_leadNow_9 (by decide) rfl ?_
  refine V_iconst (v := 0) dX7_leadNow_11 (by decide) ?_
  refine V_istore (ls' := [(5, .int ((0 : Int32))), (4, .int (v2)), (3, .ref (zad L (v1))), (2, .int ((0 : Int32))), (0, .ref (zad L (a0))), (1, .int (i1))]) dX7_leadNow_12 (by decide) rfl ?_
  refine V_sub [4, 5, 3, 2, 1, 0] rfl ?_
  exact s_X7_leadNow_14 hq h
def f_X7_leadNow (a0 : Nat) (i1 : Int32) (M : zM) : Option (UInt64 × zM) := f_X7_leadNow_0 a0 i1 M
theorem c_X7_leadNow {L : zL} {l : Launch} {a0 : Nat} {i1 : Int32} {M : zM} {r : UInt64 × zM} (h : f_X7_leadNow a0 i1 M = some r) : CP L l yX7_leadNow cX7_leadNow 7 (some FieldType.double) 1 M [.ref (zad L (a0)), .int (i1)] (some (.double r.1)) r.2 :=
  CP.of ⟨by decide +kernel, by decide +kernel⟩ (Nat.le_of_ble_eq_true rfl) fun X Q hq => s_X7_leadNow_0 hq h
/-! WindsparlourModel.lead(I)D -/
theorem dX7_lead_0 : decode cX7_lead 0 = .ok (.aload_n 0, 1) := by decide +kernel
theorem dX7_lead_1 : decode cX7_lead 1 = .ok (.iload_n 1, 1) := by decide +kernel
theorem dX7_lead_2 : decode cX7_lead 2 = .ok (.invokestatic 174, 3) := by decide +kernel
theorem dX7_lead_5 : decode cX7_lead 5 = .ok (.iconst 1, 1) := by decide +kernel
theorem dX7_lead_6 : decode cX7_lead 6 = .ok (.invokevirtual 85, 3) := by decide +kernel
theorem dX7_lead_9 : decode cX7_lead 9 = .ok (.ifCond .eq 7, 3) := by decide +kernel
theorem dX7_lead_12 : decode cX7_lead 12 = .ok (.dconst 0, 1) := by decide +kernel
theorem dX7_lead_13 : decode cX7_lead 13 = .ok (.goto 8, 3) := by decide +kernel
theorem dX7_lead_16 : decode cX7_lead 16 = .ok (.aload_n 0, 1) := by decide +kernel
theorem dX7_lead_17 : decode cX7_lead 17 = .ok (.iload_n 1, 1) := by decide +kernel
theorem dX7_lead_18 : decode cX7_lead 18 = .ok (.invokevirtual 320, 3) := by decide +kernel
theorem dX7_lead_21 : decode cX7_lead 21 = .ok (.dreturn, 1) := by decide +kernel
def f_X7_lead_0 (a0 : Nat) (i1 : Int32) (M : zM) : Option (UInt64 × zM) :=
  (f_X7_isNoPlayer i1 M).bind fun r1 =>
  if mK r1.2 a0 = 13 then
  (f_X7_start a0 r1.1 ((1 : Int32)) r1.2).bind fun r2 =>
  if r2.1 = 0 then
  if mK r2.2 a0 = 13 then
  (f_X7_leadNow a0 i1 r2.2).bind fun r4 =>
  some (r4.1, r4.2)
  else none
  else
  some (FP.dconst0, r2.2)
  else none
set_option maxRecDepth 20000 in
set_option maxHeartbeats 4000000 in
theorem s_X7_lead_0 {L : zL} {X : zX} {M0 : zM} {N : Nat × Nat} {Q : State → Prop} {r : UInt64 × zM} (hq : vQ L X M0 N Q (some (.double r.1)) r.2) {a0 : Nat} {i1 : Int32} {M : zM} (h : f_X7_lead_0 a0 i1 M = some r) : V L X yX7_lead cX7_lead 2 (some FieldType.double) 3 M0 N Q M 0 [(0, .ref (zad L (a0))), (1, .int (i1))] [] := by
  unfold f_X7_lead_0 at h
  refine V_aload_n dX7_lead_0 rfl 0 rfl ?_
  refine V_iload_n dX7_lead_1 rfl 1 rfl ?_
  replace h := ob h
  obtain ⟨r1, e_r1, h⟩ := h
  refine V_callS_I (As := [.int (i1)]) (rest := [.ref (zad L (a0))]) (c_X7_isNoPlayer e_r1) zc_X7_isNoPlayer rfl (by decide) zm_X7_174 (Nat.le_of_ble_eq_true rfl) rfl dX7_lead_2 ?_
  refine V_pc (pc' := 5) rfl ?_
  refine V_iconst (v := 1) dX7_lead_5 (by decide) ?_
  replace h := ox h
  obtain ⟨c3, h⟩ := h
  replace h := ob h
  obtain ⟨r2, e_r2, h⟩ := h
  refine V_callV_I (As := [.int (r1.1), .int ((1 : Int32))]) (rest := []) (c_X7_start e_r2) zc_X7_start rfl (by decide) rfl (by decide) (Or.inl c3) zm_X7_85 (Nat.le_of_ble_eq_true rfl) rfl dX7_lead_6 ?_
  refine V_pc (pc' := 9) rfl ?_
  refine V_if_eq (tgt := 16) dX7_lead_9 (by decide) (fun c6 => ?_) (fun c6 => ?_)
  · replace h := (oi h).1 c6
    refine V_aload_n dX7_lead_16 rfl 0 rfl ?_
    refine V_iload_n dX7_lead_17 rfl 1 rfl ?_
    replace h := ox h
    obtain ⟨c5, h⟩ := h
    replace h := ob h
    obtain ⟨r4, e_r4, h⟩ := h
    refine V_callV_D (As := [.int (i1)]) (rest := []) (c_X7_leadNow e_r4) zc_X7_leadNow rfl (by decide) rfl (by decide) (Or.inl c5) zm_X7_320 (Nat.le_of_ble_eq_true rfl) rfl dX7_lead_18 ?_
    refine V_pc (pc' := 21) rfl ?_
    cases h
    exact V_dret rfl hq dX7_lead_21
  · replace h := (oi h).2 c6
    refine V_dconst0 dX7_lead_12 ?_
    refine V_goto (tgt := 21) dX7_lead_13 (by decide) ?_
    cases h
    exact V_dret rfl hq dX7_lead_21
def f_X7_lead (a0 : Nat) (i1 : Int32) (M : zM) : Option (UInt64 × zM) := f_X7_lead_0 a0 i1 M
theorem c_X7_lead {L : zL} {l : Launch} {a0 : Nat} {i1 : Int32} {M : zM} {r : UInt64 × zM} (h : f_X7_lead a0 i1 M = some r) : CP L l yX7_lead cX7_lead 2 (some FieldType.double) 3 M [.ref (zad L (a0)), .int (i1)] (some (.double r.1)) r.2 :=
  CP.of ⟨by decide +kernel, by decide +kernel⟩ (Nat.le_of_ble_eq_true rfl) fun X Q hq => s_X7_lead_0 hq h
/-! WindsparlourModel.worth(II)I -/
theorem dX7_worth_0 : decode cX7_worth 0 = .ok (.aload_n 0, 1) := by decide +kernel
theorem dX7_worth_1 : decode cX7_worth 1 = .ok (.iload_n 1, 1) := by decide +kernel
theorem dX7_worth_2 : decode cX7_worth 2 = .ok (.invokestatic 174, 3) := by decide +kernel
theorem dX7_worth_5 : decode cX7_worth 5 = .ok (.iconst 1, 1) := by decide +kernel
theorem dX7_worth_6 : decode cX7_worth 6 = .ok (.invokevirtual 85, 3) := by decide +kernel
theorem dX7_worth_9 : decode cX7_worth 9 = .ok (.ifCond .ne 23, 3) := by decide +kernel
theorem dX7_worth_12 : decode cX7_worth 12 = .ok (.aload_n 0, 1) := by decide +kernel
theorem dX7_worth_13 : decode cX7_worth 13 = .ok (.iload_n 2, 1) := by decide +kernel
theorem dX7_worth_14 : decode cX7_worth 14 = .ok (.invokestatic 147, 3) := by decide +kernel
theorem dX7_worth_17 : decode cX7_worth 17 = .ok (.ifCond .ne 7, 3) := by decide +kernel
theorem dX7_worth_20 : decode cX7_worth 20 = .ok (.iconst 1, 1) := by decide +kernel
theorem dX7_worth_21 : decode cX7_worth 21 = .ok (.goto 4, 3) := by decide +kernel
theorem dX7_worth_24 : decode cX7_worth 24 = .ok (.iconst 0, 1) := by decide +kernel
theorem dX7_worth_25 : decode cX7_worth 25 = .ok (.iconst 2, 1) := by decide +kernel
theorem dX7_worth_26 : decode cX7_worth 26 = .ok (.invokevirtual 68, 3) := by decide +kernel
theorem dX7_worth_29 : decode cX7_worth 29 = .ok (.ifCond .eq 5, 3) := by decide +kernel
theorem dX7_worth_32 : decode cX7_worth 32 = .ok (.iconst 0, 1) := by decide +kernel
theorem dX7_worth_33 : decode cX7_worth 33 = .ok (.ireturn, 1) := by decide +kernel
theorem dX7_worth_34 : decode cX7_worth 34 = .ok (.aload_n 0, 1) := by decide +kernel
theorem dX7_worth_35 : decode cX7_worth 35 = .ok (.getfield 38, 3) := by decide +kernel
theorem dX7_worth_38 : decode cX7_worth 38 = .ok (.iload_n 1, 1) := by decide +kernel
theorem dX7_worth_39 : decode cX7_worth 39 = .ok (.aaload, 1) := by decide +kernel
theorem dX7_worth_40 : decode cX7_worth 40 = .ok (.astore_n 3, 1) := by decide +kernel
theorem dX7_worth_41 : decode cX7_worth 41 = .ok (.aload_n 3, 1) := by decide +kernel
theorem dX7_worth_42 : decode cX7_worth 42 = .ok (.invokevirtual 248, 3) := by decide +kernel
theorem dX7_worth_45 : decode cX7_worth 45 = .ok (.iload_n 2, 1) := by decide +kernel
theorem dX7_worth_46 : decode cX7_worth 46 = .ok (.lshr, 1) := by decide +kernel
theorem dX7_worth_47 : decode cX7_worth 47 = .ok (.lconst 1, 1) := by decide +kernel
theorem dX7_worth_48 : decode cX7_worth 48 = .ok (.land, 1) := by decide +kernel
theorem dX7_worth_49 : decode cX7_worth 49 = .ok (.lconst 0, 1) := by decide +kernel
theorem dX7_worth_50 : decode cX7_worth 50 = .ok (.lcmp, 1) := by decide +kernel
theorem dX7_worth_51 : decode cX7_worth 51 = .ok (.ifCond .ne 5, 3) := by decide +kernel
theorem dX7_worth_54 : decode cX7_worth 54 = .ok (.iconst (-1), 1) := by decide +kernel
theorem dX7_worth_55 : decode cX7_worth 55 = .ok (.ireturn, 1) := by decide +kernel
theorem dX7_worth_56 : decode cX7_worth 56 = .ok (.aload_n 3, 1) := by decide +kernel
theorem dX7_worth_57 : decode cX7_worth 57 = .ok (.getfield 94, 3) := by decide +kernel
theorem dX7_worth_60 : decode cX7_worth 60 = .ok (.iload_n 2, 1) := by decide +kernel
theorem dX7_worth_61 : decode cX7_worth 61 = .ok (.dup2, 1) := by decide +kernel
theorem dX7_worth_62 : decode cX7_worth 62 = .ok (.iaload, 1) := by decide +kernel
theorem dX7_worth_63 : decode cX7_worth 63 = .ok (.iconst 1, 1) := by decide +kernel
theorem dX7_worth_64 : decode cX7_worth 64 = .ok (.iadd, 1) := by decide +kernel
theorem dX7_worth_65 : decode cX7_worth 65 = .ok (.iastore, 1) := by decide +kernel
theorem dX7_worth_66 : decode cX7_worth 66 = .ok (.aload_n 0, 1) := by decide +kernel
theorem dX7_worth_67 : decode cX7_worth 67 = .ok (.iload_n 1, 1) := by decide +kernel
theorem dX7_worth_68 : decode cX7_worth 68 = .ok (.iconst 0, 1) := by decide +kernel
theorem dX7_worth_69 : decode cX7_worth 69 = .ok (.invokevirtual 262, 3) := by decide +kernel
theorem dX7_worth_72 : decode cX7_worth 72 = .ok (.istore 4, 2) := by decide +kernel
theorem dX7_worth_74 : decode cX7_worth 74 = .ok (.aload_n 3, 1) := by decide +kernel
theorem dX7_worth_75 : decode cX7_worth 75 = .ok (.getfield 94, 3) := by decide +kernel
theorem dX7_worth_78 : decode cX7_worth 78 = .ok (.iload_n 2, 1) := by decide +kernel
theorem dX7_worth_79 : decode cX7_worth 79 = .ok (.dup2, 1) := by decide +kernel
theorem dX7_worth_80 : decode cX7_worth 80 = .ok (.iaload, 1) := by decide +kernel
theorem dX7_worth_81 : decode cX7_worth 81 = .ok (.iconst 1, 1) := by decide +kernel
theorem dX7_worth_82 : decode cX7_worth 82 = .ok (.isub, 1) := by decide +kernel
theorem dX7_worth_83 : decode cX7_worth 83 = .ok (.iastore, 1) := by decide +kernel
theorem dX7_worth_84 : decode cX7_worth 84 = .ok (.iload 4, 2) := by decide +kernel
theorem dX7_worth_86 : decode cX7_worth 86 = .ok (.ireturn, 1) := by decide +kernel
def f_X7_worth_25 (a0 : Nat) (i1 : Int32) (i2 : Int32) (i_0 : Int32) (a_1 : Nat) (M : zM) : Option (Int32 × zM) :=
  if mK M a_1 = 13 then
  (f_X7_refuse a_1 i_0 ((2 : Int32)) M).bind fun r1 =>
  if r1.1 = 0 then
  (gR 13 1 r1.2 a0).bind fun v3 =>
  (lQ 2 r1.2 v3 i1).bind fun v4 =>
  if mK r1.2 v4 = 12 then
  (f_X6_waits v4 r1.2).bind fun r5 =>
  if ((lg_cmp ((((r5.1 >>> (i2.toInt64 &&& 63))) &&& ((1 : Int64)))) ((0 : Int64)))) = 0 then
  some ((-1 : Int32), r5.2)
  else
  (gR 12 2 r5.2 v4).bind fun v7 =>
  (lA 0 r5.2 v7 i2).bind fun v8 =>
  (tA r5.2 v7 i2 ((v8 + ((1 : Int32))))).bind fun M9 =>
  if mK M9 a0 = 13 then
  (f_X7_value a0 i1 ((0 : Int32)) M9).bind fun r10 =>
  (gR 12 2 r10.2 v4).bind fun v12 =>
  (lA 0 r10.2 v12 i2).bind fun v13 =>
  (tA r10.2 v12 i2 ((v13 - ((1 : Int32))))).bind fun M14 =>
  some (r10.1, M14)
  else none
  else none
  else
  some ((0 : Int32), r1.2)
  else none
set_option maxRecDepth 20000 in
set_option maxHeartbeats 4000000 in
theorem s_X7_worth_25 {L : zL} {X : zX} {M0 : zM} {N : Nat × Nat} {Q : State → Prop} {r : Int32 × zM} (hq : vQ L X M0 N Q (some (.int r.1)) r.2) {a0 : Nat} {i1 : Int32} {i2 : Int32} {i_0 : Int32} {a_1 : Nat} {M : zM} (h : f_X7_worth_25 a0 i1 i2 i_0 a_1 M = some r) : V L X yX7_worth cX7_worth 5 (some FieldType.int) 70 M0 N Q M 25 [(0, .ref (zad L (a0))), (1, .int (i1)), (2, .int (i2))] [.int (i_0), .ref (zad L (a_1))] := by
  unfold f_X7_worth_25 at h
  refine V_iconst (v := 2) dX7_worth_25 (by decide) ?_
  replace h := ox h
  obtain ⟨c2, h⟩ := h
  replace h := ob h
  obtain ⟨r1, e_r1, h⟩ := h
  refine V_callV_I (As := [.int (i_0), .int ((2 : Int32))]) (rest := []) (c_X7_refuse e_r1) zc_X7_refuse rfl (by decide) rfl (by decide) (Or.inl c2) zm_X7_68 (Nat.le_of_ble_eq_true rfl) rfl dX7_worth_26 ?_
  refine V_pc (pc' := 29) rfl ?_
  refine V_if_eq (tgt := 34) dX7_worth_29 (by decide) (fun c16 => ?_) (fun c16 => ?_)
  · replace h := (oi h).1 c16
    refine V_aload_n dX7_worth_34 rfl 0 rfl ?_
    replace h := ob h
    obtain ⟨v3, e_v3, h⟩ := h
    refine V_getR zf_13_1 zl_X7_38 e_v3 dX7_worth_35 ?_
    refine V_pc (pc' := 38) rfl ?_
    refine V_iload_n dX7_worth_38 rfl 1 rfl ?_
    replace h := ob h
    obtain ⟨v4, e_v4, h⟩ := h
    refine V_aald (by decide) e_v4 dX7_worth_39 ?_
    refine V_pc (pc' := 40) rfl ?_
    refine V_astore_n (ls' := [(3, .ref (zad L (v4))), (0, .ref (zad L (a0))), (1, .int (i1)), (2, .int (i2))]) dX7_worth_40 rfl (by decide) rfl ?_
    refine V_aload_n dX7_worth_41 rfl 0 rfl ?_
    replace h := ox h
    obtain ⟨c6, h⟩ := h
    replace h := ob h
    obtain ⟨r5, e_r5, h⟩ := h
    refine V_callV_J (As := []) (rest := []) (c_X6_waits e_r5) zc_X6_waits rfl (by decide) rfl (by decide) (Or.inl c6) zm_X7_248 (Nat.le_of_ble_eq_true rfl) rfl dX7_worth_42 ?_
    refine V_pc (pc' := 45) rfl ?_
    refine V_iload_n dX7_worth_45 rfl 3 rfl ?_
    refine V_lshr dX7_worth_46 ?_
    refine V_lconst (v := 1) dX7_worth_47 (by decide) ?_
    refine V_land dX7_worth_48 ?_
    refine V_lconst (v := 0) dX7_worth_49 (by decide) ?_
    refine V_lcmp dX7_worth_50 ?_
    refine V_if_ne (tgt := 56) dX7_worth_51 (by decide) (fun c15 => ?_) (fun c15 => ?_)
    · replace h := (oi h).2 c15
      refine V_aload_n dX7_worth_56 rfl 0 rfl ?_
      replace h := ob h
      obtain ⟨v7, e_v7, h⟩ := h
      refine V_getR zf_12_2 zl_X7_94 e_v7 dX7_worth_57 ?_
      refine V_pc (pc' := 60) rfl ?_
      refine V_iload_n dX7_worth_60 rfl 3 rfl ?_
      refine V_dup2 dX7_worth_61 rfl rfl ?_
      replace h := ob h
      obtain ⟨v8, e_v8, h⟩ := h
      refine V_iald e_v8 dX7_worth_62 ?_
      refine V_pc (pc' := 63) rfl ?_
      refine V_iconst (v := 1) dX7_worth_63 (by decide) ?_
      refine V_iadd dX7_worth_64 ?_
      replace h := ob h
      obtain ⟨M9, e_M9, h⟩ := h
      refine V_iast e_M9 dX7_worth_65 ?_
      refine V_aload_n dX7_worth_66 rfl 1 rfl ?_
      refine V_iload_n dX7_worth_67 rfl 2 rfl ?_
      refine V_iconst (v := 0) dX7_worth_68 (by decide) ?_
      replace h := ox h
      obtain ⟨c11, h⟩ := h
      replace h := ob h
      obtain ⟨r10, e_r10, h⟩ := h
      refine V_callV_I (As := [.int (i1), .int ((0 : Int32))]) (rest := []) (c_X7_value e_r10) zc_X7_value rfl (by decide) rfl (by decide) (Or.inl c11) zm_X7_262 (Nat.le_of_ble_eq_true rfl) rfl dX7_worth_69 ?_
      refine V_pc (pc' := 72) rfl ?_
      refine V_istore (ls' := [(4, .int (r10.1)), (3, .ref (zad L (v4))), (0, .ref (zad L (a0))), (1, .int (i1)), (2, .int (i2))]) dX7_worth_72 (by decide) rfl ?_
      refine V_aload_n dX7_worth_74 rfl 1 rfl ?_
      replace h := ob h
      obtain ⟨v12, e_v12, h⟩ := h
      refine V_getR zf_12_2 zl_X7_94 e_v12 dX7_worth_75 ?_
      refine V_pc (pc' := 78) rfl ?_
      refine V_iload_n dX7_worth_78 rfl 4 rfl ?_
      refine V_dup2 dX7_worth_79 rfl rfl ?_
      replace h := ob h
      obtain ⟨v13, e_v13, h⟩ := h
      refine V_iald e_v13 dX7_worth_80 ?_
      refine V_pc (pc' := 81) rfl ?_
      refine V_iconst (v := 1) dX7_worth_81 (by decide) ?_
      refine V_isub dX7_worth_82 ?_
      replace h := ob h
      obtain ⟨M14, e_M14, h⟩ := h
      refine V_iast e_M14 dX7_worth_83 ?_
      refine V_iload dX7_worth_84 0 rfl ?_
      cases h
      exact V_iret rfl hq dX7_worth_86
    · replace h := (oi h).1 c15
      refine V_iconst (v := -1) dX7_worth_54 (by decide) ?_
      cases h
      exact V_iret rfl hq dX7_worth_55
  · replace h := (oi h).2 c16
    refine V_iconst (v := 0) dX7_worth_32 (by decide) ?_
    cases h
    exact V_iret rfl hq dX7_worth_33
def f_X7_worth_0 (a0 : Nat) (i1 : Int32) (i2 : Int32) (M : zM) : Option (Int32 × zM) :=
  (f_X7_isNoPlayer i1 M).bind fun r1 =>
  if mK r1.2 a0 = 13 then
  (f_X7_start a0 r1.1 ((1 : Int32)) r1.2).bind fun r2 =>
  if r2.1 = 0 then
  (f_X7_isKind i2 r2.2).bind fun r4 =>
  if r4.1 = 0 then
  f_X7_worth_25 a0 i1 i2 ((1 : Int32)) a0 r4.2
  else
  f_X7_worth_25 a0 i1 i2 ((0 : Int32)) a0 r4.2
  else
  some ((0 : Int32), r2.2)
  else none
set_option maxRecDepth 20000 in
set_option maxHeartbeats 4000000 in
theorem s_X7_worth_0 {L : zL} {X : zX} {M0 : zM} {N : Nat × Nat} {Q : State → Prop} {r : Int32 × zM} (hq : vQ L X M0 N Q (some (.int r.1)) r.2) {a0 : Nat} {i1 : Int32} {i2 : Int32} {M : zM} (h : f_X7_worth_0 a0 i1 i2 M = some r) : V L X yX7_worth cX7_worth 5 (some FieldType.int) 70 M0 N Q M 0 [(0, .ref (zad L (a0))), (1, .int (i1)), (2, .int (i2))] [] := by
  unfold f_X7_worth_0 at h
  refine V_aload_n dX7_worth_0 rfl 0 rfl ?_
  refine V_iload_n dX7_worth_1 rfl 1 rfl ?_
  replace h := ob h
  obtain ⟨r1, e_r1, h⟩ := h
  refine V_callS_I (As := [.int (i1)]) (rest := [.ref (zad L (a0))]) (c_X7_isNoPlayer e_r1) zc_X7_isNoPlayer rfl (by decide) zm_X7_174 (Nat.le_of_ble_eq_true rfl) rfl dX7_worth_2 ?_
  refine V_pc (pc' := 5) rfl ?_
  refine V_iconst (v := 1) dX7_worth_5 (by decide) ?_
  replace h := ox h
  obtain ⟨c3, h⟩ := h
  replace h := ob h
  obtain ⟨r2, e_r2, h⟩ := h
  refine V_callV_I (As := [.int (r1.1), .int ((1 : Int32))]) (rest := []) (c_X7_start e_r2) zc_X7_start rfl (by decide) rfl (by decide) (Or.inl c3) zm_X7_85 (Nat.le_of_ble_eq_true rfl) rfl dX7_worth_6 ?_
  refine V_pc (pc' := 9) rfl ?_
  refine V_if_ne (tgt := 32) dX7_worth_9 (by decide) (fun c6 => ?_) (fun c6 => ?_)
  · replace h := (oi h).2 c6
    refine V_iconst (v := 0) dX7_worth_32 (by decide) ?_
    cases h
    exact V_iret rfl hq dX7_worth_33
  · replace h := (oi h).1 c6
    refine V_aload_n dX7_worth_12 rfl 0 rfl ?_
    refine V_iload_n dX7_worth_13 rfl 2 rfl ?_
    replace h := ob h
    obtain ⟨r4, e_r4, h⟩ := h
    refine V_callS_I (As := [.int (i2)]) (rest := [.ref (zad L (a0))]) (c_X7_isKind e_r4) zc_X7_isKind rfl (by decide) zm_X7_147 (Nat.le_of_ble_eq_true rfl) rfl dX7_worth_14 ?_
    refine V_pc (pc' := 17) rfl ?_
    refine V_if_ne (tgt := 24) dX7_worth_17 (by decide) (fun c5 => ?_) (fun c5 => ?_)
    · replace h := (oi h).2 c5
      refine V_iconst (v := 0) dX7_worth_24 (by decide) ?_
      exact s_X7_worth_25 hq h
    · replace h := (oi h).1 c5
      refine V_iconst (v := 1) dX7_worth_20 (by decide) ?_
      refine V_goto (tgt := 25) dX7_worth_21 (by decide) ?_
      exact s_X7_worth_25 hq h
def f_X7_worth (a0 : Nat) (i1 : Int32) (i2 : Int32) (M : zM) : Option (Int32 × zM) := f_X7_worth_0 a0 i1 i2 M
theorem c_X7_worth {L : zL} {l : Launch} {a0 : Nat} {i1 : Int32} {i2 : Int32} {M : zM} {r : Int32 × zM} (h : f_X7_worth a0 i1 i2 M = some r) : CP L l yX7_worth cX7_worth 5 (some FieldType.int) 70 M [.ref (zad L (a0)), .int (i1), .int (i2)] (some (.int r.1)) r.2 :=
  CP.of ⟨by decide +kernel, by decide +kernel⟩ (Nat.le_of_ble_eq_true rfl) fun X Q hq => s_X7_worth_0 hq h
/-! WindsparlourModel.bestNow()I -/
theorem dX7_bestNow_0 : decode cX7_bestNow 0 = .ok (.aload_n 0, 1) := by decide +kernel
theorem dX7_bestNow_1 : decode cX7_bestNow 1 = .ok (.getfield 50, 3) := by decide +kernel
theorem dX7_bestNow_4 : decode cX7_bestNow 4 = .ok (.iconst 1, 1) := by decide +kernel
theorem dX7_bestNow_5 : decode cX7_bestNow 5 = .ok (.if_icmp .eq 5, 3) := by decide +kernel
theorem dX7_bestNow_8 : decode cX7_bestNow 8 = .ok (.iconst (-1), 1) := by decide +kernel
theorem dX7_bestNow_9 : decode cX7_bestNow 9 = .ok (.ireturn, 1) := by decide +kernel
theorem dX7_bestNow_10 : decode cX7_bestNow 10 = .ok (.iconst (-1), 1) := by decide +kernel
theorem dX7_bestNow_11 : decode cX7_bestNow 11 = .ok (.istore_n 1, 1) := by decide +kernel
theorem dX7_bestNow_12 : decode cX7_bestNow 12 = .ok (.iconst 0, 1) := by decide +kernel
theorem dX7_bestNow_13 : decode cX7_bestNow 13 = .ok (.istore_n 2, 1) := by decide +kernel
theorem dX7_bestNow_14 : decode cX7_bestNow 14 = .ok (.aload_n 0, 1) := by decide +kernel
theorem dX7_bestNow_15 : decode cX7_bestNow 15 = .ok (.invokevirtual 104, 3) := by decide +kernel
theorem dX7_bestNow_18 : decode cX7_bestNow 18 = .ok (.getfield 94, 3) := by decide +kernel
theorem dX7_bestNow_21 : decode cX7_bestNow 21 = .ok (.astore_n 3, 1) := by decide +kernel
theorem dX7_bestNow_22 : decode cX7_bestNow 22 = .ok (.iconst 0, 1) := by decide +kernel
theorem dX7_bestNow_23 : decode cX7_bestNow 23 = .ok (.istore 4, 2) := by decide +kernel
theorem dX7_bestNow_25 : decode cX7_bestNow 25 = .ok (.iload 4, 2) := by decide +kernel
theorem dX7_bestNow_27 : decode cX7_bestNow 27 = .ok (.bipush 25, 2) := by decide +kernel
theorem dX7_bestNow_29 : decode cX7_bestNow 29 = .ok (.if_icmp .ge 67, 3) := by decide +kernel
theorem dX7_bestNow_32 : decode cX7_bestNow 32 = .ok (.aload_n 3, 1) := by decide +kernel
theorem dX7_bestNow_33 : decode cX7_bestNow 33 = .ok (.iload 4, 2) := by decide +kernel
theorem dX7_bestNow_35 : decode cX7_bestNow 35 = .ok (.iaload, 1) := by decide +kernel
theorem dX7_bestNow_36 : decode cX7_bestNow 36 = .ok (.ifCond .ne 6, 3) := by decide +kernel
theorem dX7_bestNow_39 : decode cX7_bestNow 39 = .ok (.goto 51, 3) := by decide +kernel
theorem dX7_bestNow_42 : decode cX7_bestNow 42 = .ok (.aload_n 0, 1) := by decide +kernel
theorem dX7_bestNow_43 : decode cX7_bestNow 43 = .ok (.invokevirtual 104, 3) := by decide +kernel
theorem dX7_bestNow_46 : decode cX7_bestNow 46 = .ok (.iload 4, 2) := by decide +kernel
theorem dX7_bestNow_48 : decode cX7_bestNow 48 = .ok (.iconst (-1), 1) := by decide +kernel
theorem dX7_bestNow_49 : decode cX7_bestNow 49 = .ok (.invokevirtual 324, 3) := by decide +kernel
theorem dX7_bestNow_52 : decode cX7_bestNow 52 = .ok (.istore 5, 2) := by decide +kernel
theorem dX7_bestNow_54 : decode cX7_bestNow 54 = .ok (.iload_n 1, 1) := by decide +kernel
theorem dX7_bestNow_55 : decode cX7_bestNow 55 = .ok (.iconst (-1), 1) := by decide +kernel
theorem dX7_bestNow_56 : decode cX7_bestNow 56 = .ok (.if_icmp .eq 28, 3) := by decide +kernel
theorem dX7_bestNow_59 : decode cX7_bestNow 59 = .ok (.iload 5, 2) := by decide +kernel
theorem dX7_bestNow_61 : decode cX7_bestNow 61 = .ok (.iload_n 2, 1) := by decide +kernel
theorem dX7_bestNow_62 : decode cX7_bestNow 62 = .ok (.if_icmp .gt 28, 3) := by decide +kernel
theorem dX7_bestNow_65 : decode cX7_bestNow 65 = .ok (.iload 5, 2) := by decide +kernel
theorem dX7_bestNow_67 : decode cX7_bestNow 67 = .ok (.iload_n 2, 1) := by decide +kernel
theorem dX7_bestNow_68 : decode cX7_bestNow 68 = .ok (.if_icmp .ne 16, 3) := by decide +kernel
theorem dX7_bestNow_71 : decode cX7_bestNow 71 = .ok (.aload_n 3, 1) := by decide +kernel
theorem dX7_bestNow_72 : decode cX7_bestNow 72 = .ok (.iload 4, 2) := by decide +kernel
theorem dX7_bestNow_74 : decode cX7_bestNow 74 = .ok (.iaload, 1) := by decide +kernel
theorem dX7_bestNow_75 : decode cX7_bestNow 75 = .ok (.aload_n 3, 1) := by decide +kernel
theorem dX7_bestNow_76 : decode cX7_bestNow 76 = .ok (.iload_n 1, 1) := by decide +kernel
theorem dX7_bestNow_77 : decode cX7_bestNow 77 = .ok (.iaload, 1) := by decide +kernel
theorem dX7_bestNow_78 : decode cX7_bestNow 78 = .ok (.if_icmp .lt 6, 3) := by decide +kernel
theorem dX7_bestNow_81 : decode cX7_bestNow 81 = .ok (.goto 9, 3) := by decide +kernel
theorem dX7_bestNow_84 : decode cX7_bestNow 84 = .ok (.iload 4, 2) := by decide +kernel
theorem dX7_bestNow_86 : decode cX7_bestNow 86 = .ok (.istore_n 1, 1) := by decide +kernel
theorem dX7_bestNow_87 : decode cX7_bestNow 87 = .ok (.iload 5, 2) := by decide +kernel
theorem dX7_bestNow_89 : decode cX7_bestNow 89 = .ok (.istore_n 2, 1) := by decide +kernel
theorem dX7_bestNow_90 : decode cX7_bestNow 90 = .ok (.iinc 4 1, 3) := by decide +kernel
theorem dX7_bestNow_93 : decode cX7_bestNow 93 = .ok (.goto (-68), 3) := by decide +kernel
theorem dX7_bestNow_96 : decode cX7_bestNow 96 = .ok (.iload_n 1, 1) := by decide +kernel
theorem dX7_bestNow_97 : decode cX7_bestNow 97 = .ok (.ireturn, 1) := by decide +kernel
def f_X7_bestNow_84 (K25 : Nat → Int32 → Int32 → Nat → Int32 → zM → Option (Int32 × zM)) (a0 : Nat) (a3 : Nat) (i4 : Int32) (i5 : Int32) (M : zM) : Option (Int32 × zM) :=
  K25 a0 i4 i5 a3 ((i4 + (1 : Int32))) M
set_option maxRecDepth 20000 in
set_option maxHeartbeats 4000000 in
theorem s_X7_bestNow_84 {L : zL} {X : zX} {M0 : zM} {N : Nat × Nat} {Q : State → Prop} {r : Int32 × zM} {K25 : Nat → Int32 → Int32 → Nat → Int32 → zM → Option (Int32 × zM)} (hK25 : ∀ (a0 : Nat) (i1 : Int32) (i2 : Int32) (a3 : Nat) (i4 : Int32) (M : zM), K25 a0 i1 i2 a3 i4 M = some r → V L X yX7_bestNow cX7_bestNow 6 (some FieldType.int) 133 M0 N Q M 25 [(0, .ref (zad L (a0))), (1, .int (i1)), (2, .int (i2)), (3, .ref (zad L (a3))), (4, .int (i4))] []) (hq : vQ L X M0 N Q (some (.int r.1)) r.2) {a0 : Nat} {a3 : Nat} {i4 : Int32} {i5 : Int32} {M : zM} (h : f_X7_bestNow_84 K25 a0 a3 i4 i5 M = some r) : V L X yX7_bestNow cX7_bestNow 6 (some FieldType.int) 133 M0 N Q M 84 [(0, .ref (zad L (a0))), (3, .ref (zad L (a3))), (4, .int (i4)), (5, .int (i5))] [] := by
  unfold f_X7_bestNow_84 at h
  refine V_iload dX7_bestNow_84 2 rfl ?_
  refine V_istore_n (ls' := [(1, .int (i4)), (0, .ref (zad L (a0))), (3, .ref (zad L (a3))), (4, .int (i4)), (5, .int (i5))]) dX7_bestNow_86 rfl (by decide) rfl ?_
  refine V_iload dX7_bestNow_87 4 rfl ?_
  refine V_istore_n (ls' := [(2, .int (i5)), (1, .int (i4)), (0, .ref (zad L (a0))), (3, .ref (zad L (a3))), (4, .int (i4)), (5, .int (i5))]) dX7_bestNow_89 rfl (by decide) rfl ?_
  refine V_iinc (v := i4 + (1 : Int32)) (ls' := [(4, .int ((i4 + (1 : Int32)))), (2, .int (i5)), (1, .int (i4)), (0, .ref (zad L (a0))), (3, .ref (zad L (a3))), (5, .int (i5))]) dX7_bestNow_90 4 rfl (by rfl) (by decide) rfl ?_
  refine V_goto (tgt := 25) dX7_bestNow_93 (by decide) ?_
  refine V_sub [3, 2, 1, 4, 0] rfl ?_
  exact hK25 _ _ _ _ _ _ h
def f_X7_bestNow_25 (n : Nat) (a0 : Nat) (i1 : Int32) (i2 : Int32) (a3 : Nat) (i4 : Int32) (M : zM) : Option (Int32 × zM) := match n with
  | 0 => none
  | n + 1 =>
    if ((25 : Int32)) ≤ i4 then
    some (i1, M)
    else
    (lA 0 M a3 i4).bind fun v1 =>
    if v1 = 0 then
    f_X7_bestNow_25 n a0 i1 i2 a3 ((i4 + (1 : Int32))) M
    else
    if mK M a0 = 13 then
    (f_X7_its a0 M).bind fun r2 =>
    if mK r2.2 r2.1 = 12 then
    (f_X6_farWith r2.1 i4 ((-1 : Int32)) r2.2).bind fun r4 =>
    if i1 = ((-1 : Int32)) then
    f_X7_bestNow_84 (f_X7_bestNow_25 n) a0 a3 i4 r4.1 r4.2
    else
    if i2 < r4.1 then
    f_X7_bestNow_25 n a0 i1 i2 a3 ((i4 + (1 : Int32))) r4.2
    else
    if r4.1 = i2 then
    (lA 0 r4.2 a3 i4).bind fun v6 =>
    (lA 0 r4.2 a3 i1).bind fun v7 =>
    if v6 < v7 then
    f_X7_bestNow_84 (f_X7_bestNow_25 n) a0 a3 i4 r4.1 r4.2
    else
    f_X7_bestNow_25 n a0 i1 i2 a3 ((i4 + (1 : Int32))) r4.2
    else
    f_X7_bestNow_84 (f_X7_bestNow_25 n) a0 a3 i4 r4.1 r4.2
    else none
    else none
set_option maxRecDepth 20000 in
set_option maxHeartbeats 4000000 in
theorem s_X7_bestNow_25 {L : zL} {X : zX} {M0 : zM} {N : Nat × Nat} {Q : State → Prop} {r : Int32 × zM} (hq : vQ L X M0 N Q (some (.int r.1)) r.2) {n : Nat} {a0 : Nat} {i1 : Int32} {i2 : Int32} {a3 : Nat} {i4 : Int32} {M : zM} : f_X7_bestNow_25 n a0 i1 i2 a3 i4 M = some r → V L X yX7_bestNow cX7_bestNow 6 (some FieldType.int) 133 M0 N Q M 25 [(0, .ref (zad L (a0))), (1, .int (i1)), (2, .int (i2)), (3, .ref (zad L (a3))), (4, .int (i4))] [] := by
  induction n generalizing a0 i1 i2 a3 i4 M with
  | zero =>
    intro h
    rw [f_X7_bestNow_25] at h
    cases h
  | succ n ih0 =>
    intro h
    have ih : ∀ (a0 : Nat) (i1 : Int32) (i2 : Int32) (a3 : Nat) (i4 : Int32) (M : zM), f_X7_bestNow_25 n a0 i1 i2 a3 i4 M = some r → V L X yX7_bestNow cX7_bestNow 6 (some FieldType.int) 133 M0 N Q M 25 [(0, .ref (zad L (a0))), (1, .int (i1)), (2, .int (i2)), (3, .ref (zad L (a3))), (4, .int (i4))] [] := fun a0 i1 i2 a3 i4 M h => ih0 h
    rw [f_X7_bestNow_25] at h
    refine V_iload dX7_bestNow_25 4 rfl ?_
    refine V_bipush (v := 25) dX7_bestNow_27 (by decide) ?_
    refine V_icmp_ge (tgt := 96) dX7_bestNow_29 (by decide) (fun c13 => ?_) (fun c13 => ?_)
    · replace h := (oi h).1 c13
      refine V_iload_n dX7_bestNow_96 rfl 1 rfl ?_
      cases h
      exact V_iret rfl hq dX7_bestNow_97
    · replace h := (oi h).2 c13
      refine V_aload_n dX7_bestNow_32 rfl 3 rfl ?_
      refine V_iload dX7_bestNow_33 4 rfl ?_
      replace h := ob h
      obtain ⟨v1, e_v1, h⟩ := h
      refine V_iald e_v1 dX7_bestNow_35 ?_
      refine V_pc (pc' := 36) rfl ?_
      refine V_if_ne (tgt := 42) dX7_bestNow_36 (by decide) (fun c12 => ?_) (fun c12 => ?_)
      · replace h := (oi h).2 c12
        refine V_aload_n dX7_bestNow_42 rfl 0 rfl ?_
        replace h := ox h
        obtain ⟨c3, h⟩ := h
        replace h := ob h
        obtain ⟨r2, e_r2, h⟩ := h
        refine V_callV_A (As := []) (rest := []) (c_X7_its e_r2) zc_X7_its rfl (by decide) rfl (by decide) (Or.inl c3) zm_X7_104 (Nat.le_of_ble_eq_true rfl) rfl dX7_bestNow_43 ?_
        refine V_pc (pc' := 46) rfl ?_
        refine V_iload dX7_bestNow_46 4 rfl ?_
        refine V_iconst (v := -1) dX7_bestNow_48 (by decide) ?_
        replace h := ox h
        obtain ⟨c5, h⟩ := h
        replace h := ob h
        obtain ⟨r4, e_r4, h⟩ := h
        refine V_callV_I (As := [.int (i4), .int ((-1 : Int32))]) (rest := []) (c_X6_farWith e_r4) zc_X6_farWith rfl (by decide) rfl (by decide) (Or.inl c5) zm_X7_324 (Nat.le_of_ble_eq_true rfl) rfl dX7_bestNow_49 ?_
        refine V_pc (pc' := 52) rfl ?_
        refine V_istore (ls' := [(5, .int (r4.1)), (0, .ref (zad L (a0))), (1, .int (i1)), (2, .int (i2)), (3, .ref (zad L (a3))), (4, .int (i4))]) dX7_bestNow_52 (by decide) rfl ?_
        refine V_iload_n dX7_bestNow_54 rfl 2 rfl ?_
        refine V_iconst (v := -1) dX7_bestNow_55 (by decide) ?_
        refine V_icmp_eq (tgt := 84) dX7_bestNow_56 (by decide) (fun c11 => ?_) (fun c11 => ?_)
        · replace h := (oi h).1 c11
          refine V_sub [1, 4, 5, 0] rfl ?_
          exact s_X7_bestNow_84 ih hq h
        · replace h := (oi h).2 c11
          refine V_iload dX7_bestNow_59 0 rfl ?_
          refine V_iload_n dX7_bestNow_61 rfl 3 rfl ?_
          refine V_icmp_gt (tgt := 90) dX7_bestNow_62 (by decide) (fun c10 => ?_) (fun c10 => ?_)
          · replace h := (oi h).1 c10
            refine V_iinc (v := i4 + (1 : Int32)) (ls' := [(4, .int ((i4 + (1 : Int32)))), (5, .int (r4.1)), (0, .ref (zad L (a0))), (1, .int (i1)), (2, .int (i2)), (3, .ref (zad L (a3)))]) dX7_bestNow_90 5 rfl (by rfl) (by decide) rfl ?_
            refine V_goto (tgt := 25) dX7_bestNow_93 (by decide) ?_
            refine V_sub [2, 3, 4, 5, 0] rfl ?_
            exact ih _ _ _ _ _ _ h
          · replace h := (oi h).2 c10
            refine V_iload dX7_bestNow_65 0 rfl ?_
            refine V_iload_n dX7_bestNow_67 rfl 3 rfl ?_
            refine V_icmp_ne (tgt := 84) dX7_bestNow_68 (by decide) (fun c9 => ?_) (fun c9 => ?_)
            · replace h := (oi h).2 c9
              refine V_sub [1, 4, 5, 0] rfl ?_
              exact s_X7_bestNow_84 ih hq h
            · replace h := (oi h).1 c9
              refine V_aload_n dX7_bestNow_71 rfl 4 rfl ?_
              refine V_iload dX7_bestNow_72 5 rfl ?_
              replace h := ob h
              obtain ⟨v6, e_v6, h⟩ := h
              refine V_iald e_v6 dX7_bestNow_74 ?_
              refine V_pc (pc' := 75) rfl ?_
              refine V_aload_n dX7_bestNow_75 rfl 4 rfl ?_
              refine V_iload_n dX7_bestNow_76 rfl 2 rfl ?_
              replace h := ob h
              obtain ⟨v7, e_v7, h⟩ := h
              refine V_iald e_v7 dX7_bestNow_77 ?_
              refine V_pc (pc' := 78) rfl ?_
              refine V_icmp_lt (tgt := 84) dX7_bestNow_78 (by decide) (fun c8 => ?_) (fun c8 => ?_)
              · replace h := (oi h).1 c8
                refine V_sub [1, 4, 5, 0] rfl ?_
                exact s_X7_bestNow_84 ih hq h
              · replace h := (oi h).2 c8
                refine V_goto (tgt := 90) dX7_bestNow_81 (by decide) ?_
                refine V_iinc (v := i4 + (1 : Int32)) (ls' := [(4, .int ((i4 + (1 : Int32)))), (5, .int (r4.1)), (0, .ref (zad L (a0))), (1, .int (i1)), (2, .int (i2)), (3, .ref (zad L (a3)))]) dX7_bestNow_90 5 rfl (by rfl) (by decide) rfl ?_
                refine V_goto (tgt := 25) dX7_bestNow_93 (by decide) ?_
                refine V_sub [2, 3, 4, 5, 0] rfl ?_
                exact ih _ _ _ _ _ _ h
      · replace h := (oi h).1 c12
        refine V_goto (tgt := 90) dX7_bestNow_39 (by decide) ?_
        refine V_iinc (v := i4 + (1 : Int32)) (ls' := [(4, .int ((i4 + (1 : Int32)))), (0, .ref (zad L (a0))), (1, .int (i1)), (2, .int (i2)), (3, .ref (zad L (a3)))]) dX7_bestNow_90 4 rfl (by rfl) (by decide) rfl ?_
        refine V_goto (tgt := 25) dX7_bestNow_93 (by decide) ?_
        refine V_sub [1, 2, 3, 4, 0] rfl ?_
        exact ih _ _ _ _ _ _ h
def f_X7_bestNow_0 (a0 : Nat) (M : zM) : Option (Int32 × zM) :=
  (gI 13 6 M a0).bind fun v1 =>
  if v1 = ((1 : Int32)) then
  if mK M a0 = 13 then
  (f_X7_its a0 M).bind fun r2 =>
  (gR 12 2 r2.2 r2.1).bind fun v4 =>
  f_X7_bestNow_25 zN a0 ((-1 : Int32)) ((0 : Int32)) v4 ((0 : Int32)) r2.2
  else none
  else
  some ((-1 : Int32), M)
set_option maxRecDepth 20000 in
set_option maxHeartbeats 4000000 in
theorem s_X7_bestNow_0 {L : zL} {X : zX} {M0 : zM} {N : Nat × Nat} {Q : State → Prop} {r : Int32 × zM} (hq : vQ L X M0 N Q (some (.int r.1)) r.2) {a0 : Nat} {M : zM} (h : f_X7_bestNow_0 a0 M = some r) : V L X yX7_bestNow cX7_bestNow 6 (some FieldType.int) 133 M0 N Q M 0 [(0, .ref (zad L (a0)))] [] := by
  unfold f_X7_bestNow_0 at h
  refine V_aload_n dX7_bestNow_0 rfl 0 rfl ?_
  replace h := ob h
  obtain ⟨v1, e_v1, h⟩ := h
  refine V_getI zf_13_6 zl_X7_50 e_v1 dX7_bestNow_1 ?_
  refine V_pc (pc' := 4) rfl ?_
  refine V_iconst (v := 1) dX7_bestNow_4 (by decide) ?_
  refine V_icmp_eq (tgt := 10) dX7_bestNow_5 (by decide) (fun c5 => ?_) (fun c5 => ?_)
  · replace h := (oi h).1 c5
    refine V_iconst (v := -1) dX7_bestNow_10 (by decide) ?_
    refine V_istore_n (ls' := [(1, .int ((-1 : Int32))), (0, .ref (zad L (a0)))]) dX7_bestNow_11 rfl (by decide) rfl ?_
    refine V_iconst (v := 0) dX7_bestNow_12 (by decide) ?_
    refine V_istore_n (ls' := [(2, .int ((0 : Int32))), (1, .int ((-1 : Int32))), (0, .ref (zad L (a0)))]) dX7_bestNow_13 rfl (by decide) rfl ?_
    refine V_aload_n dX7_bestNow_14 rfl 2 rfl ?_
    replace h := ox h
    obtain ⟨c3, h⟩ := h
    replace h := ob h
    obtain ⟨r2, e_r2, h⟩ := h
    refine V_callV_A (As := []) (rest := []) (c_X7_its e_r2) zc_X7_its rfl (by decide) rfl (by decide) (Or.inl c3) zm_X7_104 (Nat.le_of_ble_eq_true rfl) rfl dX7_bestNow_15 ?_
    refine V_pc (pc' := 18) rfl ?_
    replace h := ob h
    obtain ⟨v4, e_v4, h⟩ := h
    refine V_getR zf_12_2 zl_X7_94 e_v4 dX7_bestNow_18 ?_
    refine V_pc (pc' := 21) rfl ?_
    refine V_astore_n (ls' := [(3, .ref (zad L (v4))), (2, .int ((0 : Int32))), (1, .int ((-1 : Int32))), (0, .ref (zad L (a0)))]) dX7_bestNow_21 rfl (by decide) rfl ?_
    refine V_iconst (v := 0) dX7_bestNow_22 (by decide) ?_
    refine V_istore (ls' := [(4, .int ((0 : Int32))), (3, .ref (zad L (v4))), (2, .int ((0 : Int32))), (1, .int ((-1 : Int32))), (0, .ref (zad L (a0)))]) dX7_bestNow_23 (by decide) rfl ?_
    refine V_sub [4, 3, 2, 1, 0] rfl ?_
    exact s_X7_bestNow_25 hq h
  · replace h := (oi h).2 c5
    refine V_iconst (v := -1) dX7_bestNow_8 (by decide) ?_
    cases h
    exact V_iret rfl hq dX7_bestNow_9
def f_X7_bestNow (a0 : Nat) (M : zM) : Option (Int32 × zM) := f_X7_bestNow_0 a0 M
theorem c_X7_bestNow {L : zL} {l : Launch} {a0 : Nat} {M : zM} {r : Int32 × zM} (h : f_X7_bestNow a0 M = some r) : CP L l yX7_bestNow cX7_bestNow 6 (some FieldType.int) 133 M [.ref (zad L (a0))] (some (.int r.1)) r.2 :=
  CP.of ⟨by decide +kernel, by decide +kernel⟩ (Nat.le_of_ble_eq_true rfl) fun X Q hq => s_X7_bestNow_0 hq h
/-! WindsparlourModel.best()I -/
theorem dX7_best_0 : decode cX7_best 0 = .ok (.aload_n 0, 1) := by decide +kernel
theorem dX7_best_1 : decode cX7_best 1 = .ok (.iconst 0, 1) := by decide +kernel
theorem dX7_best_2 : decode cX7_best 2 = .ok (.putfield 65, 3) := by decide +kernel
theorem dX7_best_5 : decode cX7_best 5 = .ok (.aload_n 0, 1) := by decide +kernel
theorem dX7_best_6 : decode cX7_best 6 = .ok (.invokevirtual 327, 3) := by decide +kernel
theorem dX7_best_9 : decode cX7_best 9 = .ok (.ireturn, 1) := by decide +kernel
def f_X7_best_0 (a0 : Nat) (M : zM) : Option (Int32 × zM) :=
  (pI 13 0 M a0 ((0 : Int32))).bind fun M1 =>
  if mK M1 a0 = 13 then
  (f_X7_bestNow a0 M1).bind fun r2 =>
  some (r2.1, r2.2)
  else none
set_option maxRecDepth 20000 in
set_option maxHeartbeats 4000000 in
theorem s_X7_best_0 {L : zL} {X : zX} {M0 : zM} {N : Nat × Nat} {Q : State → Prop} {r : Int32 × zM} (hq : vQ L X M0 N Q (some (.int r.1)) r.2) {a0 : Nat} {M : zM} (h : f_X7_best_0 a0 M = some r) : V L X yX7_best cX7_best 1 (some FieldType.int) 134 M0 N Q M 0 [(0, .ref (zad L (a0)))] [] := by
  unfold f_X7_best_0 at h
  refine V_aload_n dX7_best_0 rfl 0 rfl ?_
  refine V_iconst (v := 0) dX7_best_1 (by decide) ?_
  replace h := ob h
  obtain ⟨M1, e_M1, h⟩ := h
  refine V_putI zf_13_0 zl_X7_65 (Or.inl rfl) rfl e_M1 dX7_best_2 ?_
  refine V_pc (pc' := 5) rfl ?_
  refine V_aload_n dX7_best_5 rfl 0 rfl ?_
  replace h := ox h
  obtain ⟨c3, h⟩ := h
  replace h := ob h
  obtain ⟨r2, e_r2, h⟩ := h
  refine V_callV_I (As := []) (rest := []) (c_X7_bestNow e_r2) zc_X7_bestNow rfl (by decide) rfl (by decide) (Or.inl c3) zm_X7_327 (Nat.le_of_ble_eq_true rfl) rfl dX7_best_6 ?_
  refine V_pc (pc' := 9) rfl ?_
  cases h
  exact V_iret rfl hq dX7_best_9
def f_X7_best (a0 : Nat) (M : zM) : Option (Int32 × zM) := f_X7_best_0 a0 M
theorem c_X7_best {L : zL} {l : Launch} {a0 : Nat} {M : zM} {r : Int32 × zM} (h : f_X7_best a0 M = some r) : CP L l yX7_best cX7_best 1 (some FieldType.int) 134 M [.ref (zad L (a0))] (some (.int r.1)) r.2 :=
  CP.of ⟨by decide +kernel, by decide +kernel⟩ (Nat.le_of_ble_eq_true rfl) fun X Q hq => s_X7_best_0 hq h
