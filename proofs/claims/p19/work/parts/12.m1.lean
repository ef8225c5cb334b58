/-! ===== METHODS, by program ===== -/
/-! Windsparlour$Parting.changePart([IIII)V -/
theorem dX0_changePart_0 : decode cX0_changePart 0 = .ok (.iload_n 1, 1) := by decide +kernel
theorem dX0_changePart_1 : decode cX0_changePart 1 = .ok (.ifCond .lt 9, 3) := by decide +kernel
theorem dX0_changePart_4 : decode cX0_changePart 4 = .ok (.iload_n 1, 1) := by decide +kernel
theorem dX0_changePart_5 : decode cX0_changePart 5 = .ok (.aload_n 0, 1) := by decide +kernel
theorem dX0_changePart_6 : decode cX0_changePart 6 = .ok (.arraylength, 1) := by decide +kernel
theorem dX0_changePart_7 : decode cX0_changePart 7 = .ok (.if_icmp .lt 4, 3) := by decide +kernel
theorem dX0_changePart_10 : decode cX0_changePart 10 = .ok (.return_, 1) := by decide +kernel
theorem dX0_changePart_11 : decode cX0_changePart 11 = .ok (.aload_n 0, 1) := by decide +kernel
theorem dX0_changePart_12 : decode cX0_changePart 12 = .ok (.iload_n 1, 1) := by decide +kernel
theorem dX0_changePart_13 : decode cX0_changePart 13 = .ok (.dup2, 1) := by decide +kernel
theorem dX0_changePart_14 : decode cX0_changePart 14 = .ok (.iaload, 1) := by decide +kernel
theorem dX0_changePart_15 : decode cX0_changePart 15 = .ok (.iload_n 3, 1) := by decide +kernel
theorem dX0_changePart_16 : decode cX0_changePart 16 = .ok (.getstatic 68, 3) := by decide +kernel
theorem dX0_changePart_19 : decode cX0_changePart 19 = .ok (.iload_n 2, 1) := by decide +kernel
theorem dX0_changePart_20 : decode cX0_changePart 20 = .ok (.iaload, 1) := by decide +kernel
theorem dX0_changePart_21 : decode cX0_changePart 21 = .ok (.imul, 1) := by decide +kernel
theorem dX0_changePart_22 : decode cX0_changePart 22 = .ok (.iadd, 1) := by decide +kernel
theorem dX0_changePart_23 : decode cX0_changePart 23 = .ok (.iastore, 1) := by decide +kernel
theorem dX0_changePart_24 : decode cX0_changePart 24 = .ok (.iload_n 1, 1) := by decide +kernel
theorem dX0_changePart_25 : decode cX0_changePart 25 = .ok (.iconst 1, 1) := by decide +kernel
theorem dX0_changePart_26 : decode cX0_changePart 26 = .ok (.iadd, 1) := by decide +kernel
theorem dX0_changePart_27 : decode cX0_changePart 27 = .ok (.aload_n 0, 1) := by decide +kernel
theorem dX0_changePart_28 : decode cX0_changePart 28 = .ok (.arraylength, 1) := by decide +kernel
theorem dX0_changePart_29 : decode cX0_changePart 29 = .ok (.if_icmp .ge 18, 3) := by decide +kernel
theorem dX0_changePart_32 : decode cX0_changePart 32 = .ok (.aload_n 0, 1) := by decide +kernel
theorem dX0_changePart_33 : decode cX0_changePart 33 = .ok (.iload_n 1, 1) := by decide +kernel
theorem dX0_changePart_34 : decode cX0_changePart 34 = .ok (.iconst 1, 1) := by decide +kernel
theorem dX0_changePart_35 : decode cX0_changePart 35 = .ok (.iadd, 1) := by decide +kernel
theorem dX0_changePart_36 : decode cX0_changePart 36 = .ok (.dup2, 1) := by decide +kernel
theorem dX0_changePart_37 : decode cX0_changePart 37 = .ok (.iaload, 1) := by decide +kernel
theorem dX0_changePart_38 : decode cX0_changePart 38 = .ok (.iload_n 3, 1) := by decide +kernel
theorem dX0_changePart_39 : decode cX0_changePart 39 = .ok (.getstatic 71, 3) := by decide +kernel
theorem dX0_changePart_42 : decode cX0_changePart 42 = .ok (.iload_n 2, 1) := by decide +kernel
theorem dX0_changePart_43 : decode cX0_changePart 43 = .ok (.iaload, 1) := by decide +kernel
theorem dX0_changePart_44 : decode cX0_changePart 44 = .ok (.imul, 1) := by decide +kernel
theorem dX0_changePart_45 : decode cX0_changePart 45 = .ok (.iadd, 1) := by decide +kernel
theorem dX0_changePart_46 : decode cX0_changePart 46 = .ok (.iastore, 1) := by decide +kernel
theorem dX0_changePart_47 : decode cX0_changePart 47 = .ok (.iload_n 1, 1) := by decide +kernel
theorem dX0_changePart_48 : decode cX0_changePart 48 = .ok (.iconst 2, 1) := by decide +kernel
theorem dX0_changePart_49 : decode cX0_changePart 49 = .ok (.iadd, 1) := by decide +kernel
theorem dX0_changePart_50 : decode cX0_changePart 50 = .ok (.aload_n 0, 1) := by decide +kernel
theorem dX0_changePart_51 : decode cX0_changePart 51 = .ok (.arraylength, 1) := by decide +kernel
theorem dX0_changePart_52 : decode cX0_changePart 52 = .ok (.if_icmp .ge 18, 3) := by decide +kernel
theorem dX0_changePart_55 : decode cX0_changePart 55 = .ok (.aload_n 0, 1) := by decide +kernel
theorem dX0_changePart_56 : decode cX0_changePart 56 = .ok (.iload_n 1, 1) := by decide +kernel
theorem dX0_changePart_57 : decode cX0_changePart 57 = .ok (.iconst 2, 1) := by decide +kernel
theorem dX0_changePart_58 : decode cX0_changePart 58 = .ok (.iadd, 1) := by decide +kernel
theorem dX0_changePart_59 : decode cX0_changePart 59 = .ok (.dup2, 1) := by decide +kernel
theorem dX0_changePart_60 : decode cX0_changePart 60 = .ok (.iaload, 1) := by decide +kernel
theorem dX0_changePart_61 : decode cX0_changePart 61 = .ok (.iload_n 3, 1) := by decide +kernel
theorem dX0_changePart_62 : decode cX0_changePart 62 = .ok (.getstatic 74, 3) := by decide +kernel
theorem dX0_changePart_65 : decode cX0_changePart 65 = .ok (.iload_n 2, 1) := by decide +kernel
theorem dX0_changePart_66 : decode cX0_changePart 66 = .ok (.iaload, 1) := by decide +kernel
theorem dX0_changePart_67 : decode cX0_changePart 67 = .ok (.imul, 1) := by decide +kernel
theorem dX0_changePart_68 : decode cX0_changePart 68 = .ok (.iadd, 1) := by decide +kernel
theorem dX0_changePart_69 : decode cX0_changePart 69 = .ok (.iastore, 1) := by decide +kernel
theorem dX0_changePart_70 : decode cX0_changePart 70 = .ok (.return_, 1) := by decide +kernel
def f_X0_changePart_47 (a0 : Nat) (i1 : Int32) (i2 : Int32) (i3 : Int32) (M : zM) : Option (Unit × zM) :=
  (gL M a0).bind fun v1 =>
  if v1 ≤ ((i1 + ((2 : Int32)))) then
  some ((), M)
  else
  (lA 0 M a0 ((i1 + ((2 : Int32))))).bind fun v2 =>
  (lA 0 M 3 i2).bind fun v3 =>
  (tA M a0 ((i1 + ((2 : Int32)))) ((v2 + ((i3 * v3))))).bind fun M4 =>
  some ((), M4)
set_option maxRecDepth 20000 in
set_option maxHeartbeats 4000000 in
theorem s_X0_changePart_47 {L : zL} {X : zX} {M0 : zM} {N : Nat × Nat} {Q : State → Prop} {r : Unit × zM} (hq : vQ L X M0 N Q none r.2) {a0 : Nat} {i1 : Int32} {i2 : Int32} {i3 : Int32} {M : zM} (h : f_X0_changePart_47 a0 i1 i2 i3 M = some r) : V L X yX0_changePart cX0_changePart 4 (none : Option FieldType) 1 M0 N Q M 47 [(0, .ref (zad L (a0))), (1, .int (i1)), (2, .int (i2)), (3, .int (i3))] [] := by
  unfold f_X0_changePart_47 at h
  refine V_iload_n dX0_changePart_47 rfl 1 rfl ?_
  refine V_iconst (v := 2) dX0_changePart_48 (by decide) ?_
  refine V_iadd dX0_changePart_49 ?_
  refine V_aload_n dX0_changePart_50 rfl 0 rfl ?_
  replace h := ob h
  obtain ⟨v1, e_v1, h⟩ := h
  refine V_alen e_v1 dX0_changePart_51 ?_
  refine V_pc (pc' := 52) rfl ?_
  refine V_icmp_ge (tgt := 70) dX0_changePart_52 (by decide) (fun c5 => ?_) (fun c5 => ?_)
  · replace h := (oi h).1 c5
    obtain rfl := Option.some.inj h
    exact V_vret rfl hq dX0_changePart_70
  · replace h := (oi h).2 c5
    refine V_aload_n dX0_changePart_55 rfl 0 rfl ?_
    refine V_iload_n dX0_changePart_56 rfl 1 rfl ?_
    refine V_iconst (v := 2) dX0_changePart_57 (by decide) ?_
    refine V_iadd dX0_changePart_58 ?_
    refine V_dup2 dX0_changePart_59 rfl rfl ?_
    replace h := ob h
    obtain ⟨v2, e_v2, h⟩ := h
    refine V_iald e_v2 dX0_changePart_60 ?_
    refine V_pc (pc' := 61) rfl ?_
    refine V_iload_n dX0_changePart_61 rfl 3 rfl ?_
    refine V_gets (zst_2 L) zg_X0_74 rfl dX0_changePart_62 ?_
    refine V_iload_n dX0_changePart_65 rfl 2 rfl ?_
    replace h := ob h
    obtain ⟨v3, e_v3, h⟩ := h
    refine V_iald e_v3 dX0_changePart_66 ?_
    refine V_pc (pc' := 67) rfl ?_
    refine V_imul dX0_changePart_67 ?_
    refine V_iadd dX0_changePart_68 ?_
    replace h := ob h
    obtain ⟨M4, e_M4, h⟩ := h
    refine V_iast e_M4 dX0_changePart_69 ?_
    obtain rfl := Option.some.inj h
    exact V_vret rfl hq dX0_changePart_70
def f_X0_changePart_0 (a0 : Nat) (i1 : Int32) (i2 : Int32) (i3 : Int32) (M : zM) : Option (Unit × zM) :=
  if i1 < 0 then
  some ((), M)
  else
  (gL M a0).bind fun v1 =>
  if i1 < v1 then
  (lA 0 M a0 i1).bind fun v2 =>
  (lA 0 M 1 i2).bind fun v3 =>
  (tA M a0 i1 ((v2 + ((i3 * v3))))).bind fun M4 =>
  (gL M4 a0).bind fun v5 =>
  if v5 ≤ ((i1 + ((1 : Int32)))) then
  f_X0_changePart_47 a0 i1 i2 i3 M4
  else
  (lA 0 M4 a0 ((i1 + ((1 : Int32))))).bind fun v6 =>
  (lA 0 M4 2 i2).bind fun v7 =>
  (tA M4 a0 ((i1 + ((1 : Int32)))) ((v6 + ((i3 * v7))))).bind fun M8 =>
  f_X0_changePart_47 a0 i1 i2 i3 M8
  else
  some ((), M)
set_option maxRecDepth 20000 in
set_option maxHeartbeats 4000000 in
theorem s_X0_changePart_0 {L : zL} {X : zX} {M0 : zM} {N : Nat × Nat} {Q : State → Prop} {r : Unit × zM} (hq : vQ L X M0 N Q none r.2) {a0 : Nat} {i1 : Int32} {i2 : Int32} {i3 : Int32} {M : zM} (h : f_X0_changePart_0 a0 i1 i2 i3 M = some r) : V L X yX0_changePart cX0_changePart 4 (none : Option FieldType) 1 M0 N Q M 0 [(0, .ref (zad L (a0))), (1, .int (i1)), (2, .int (i2)), (3, .int (i3))] [] := by
  unfold f_X0_changePart_0 at h
  refine V_iload_n dX0_changePart_0 rfl 1 rfl ?_
  refine V_if_lt (tgt := 10) dX0_changePart_1 (by decide) (fun c11 => ?_) (fun c11 => ?_)
  · replace h := (oi h).1 c11
    obtain rfl := Option.some.inj h
    exact V_vret rfl hq dX0_changePart_10
  · replace h := (oi h).2 c11
    refine V_iload_n dX0_changePart_4 rfl 1 rfl ?_
    refine V_aload_n dX0_changePart_5 rfl 0 rfl ?_
    replace h := ob h
    obtain ⟨v1, e_v1, h⟩ := h
    refine V_alen e_v1 dX0_changePart_6 ?_
    refine V_pc (pc' := 7) rfl ?_
    refine V_icmp_lt (tgt := 11) dX0_changePart_7 (by decide) (fun c10 => ?_) (fun c10 => ?_)
    · replace h := (oi h).1 c10
      refine V_aload_n dX0_changePart_11 rfl 0 rfl ?_
      refine V_iload_n dX0_changePart_12 rfl 1 rfl ?_
      refine V_dup2 dX0_changePart_13 rfl rfl ?_
      replace h := ob h
      obtain ⟨v2, e_v2, h⟩ := h
      refine V_iald e_v2 dX0_changePart_14 ?_
      refine V_pc (pc' := 15) rfl ?_
      refine V_iload_n dX0_changePart_15 rfl 3 rfl ?_
      refine V_gets (zst_0 L) zg_X0_68 rfl dX0_changePart_16 ?_
      refine V_iload_n dX0_changePart_19 rfl 2 rfl ?_
      replace h := ob h
      obtain ⟨v3, e_v3, h⟩ := h
      refine V_iald e_v3 dX0_changePart_20 ?_
      refine V_pc (pc' := 21) rfl ?_
      refine V_imul dX0_changePart_21 ?_
      refine V_iadd dX0_changePart_22 ?_
      replace h := ob h
      obtain ⟨M4, e_M4, h⟩ := h
      refine V_iast e_M4 dX0_changePart_23 ?_
      refine V_iload_n dX0_changePart_24 rfl 1 rfl ?_
      refine V_iconst (v := 1) dX0_changePart_25 (by decide) ?_
      refine V_iadd dX0_changePart_26 ?_
      refine V_aload_n dX0_changePart_27 rfl 0 rfl ?_
      replace h := ob h
      obtain ⟨v5, e_v5, h⟩ := h
      refine V_alen e_v5 dX0_changePart_28 ?_
      refine V_pc (pc' := 29) rfl ?_
      refine V_icmp_ge (tgt := 47) dX0_changePart_29 (by decide) (fun c9 => ?_) (fun c9 => ?_)
      · replace h := (oi h).1 c9
        exact s_X0_changePart_47 hq h
      · replace h := (oi h).2 c9
        refine V_aload_n dX0_changePart_32 rfl 0 rfl ?_
        refine V_iload_n dX0_changePart_33 rfl 1 rfl ?_
        refine V_iconst (v := 1) dX0_changePart_34 (by decide) ?_
        refine V_iadd dX0_changePart_35 ?_
        refine V_dup2 dX0_changePart_36 rfl rfl ?_
        replace h := ob h
        obtain ⟨v6, e_v6, h⟩ := h
        refine V_iald e_v6 dX0_changePart_37 ?_
        refine V_pc (pc' := 38) rfl ?_
        refine V_iload_n dX0_changePart_38 rfl 3 rfl ?_
        refine V_gets (zst_1 L) zg_X0_71 rfl dX0_changePart_39 ?_
        refine V_iload_n dX0_changePart_42 rfl 2 rfl ?_
        replace h := ob h
        obtain ⟨v7, e_v7, h⟩ := h
        refine V_iald e_v7 dX0_changePart_43 ?_
        refine V_pc (pc' := 44) rfl ?_
        refine V_imul dX0_changePart_44 ?_
        refine V_iadd dX0_changePart_45 ?_
        replace h := ob h
        obtain ⟨M8, e_M8, h⟩ := h
        refine V_iast e_M8 dX0_changePart_46 ?_
        exact s_X0_changePart_47 hq h
    · replace h := (oi h).2 c10
      obtain rfl := Option.some.inj h
      exact V_vret rfl hq dX0_changePart_10
def f_X0_changePart (a0 : Nat) (i1 : Int32) (i2 : Int32) (i3 : Int32) (M : zM) : Option (Unit × zM) := f_X0_changePart_0 a0 i1 i2 i3 M
theorem c_X0_changePart {L : zL} {l : Launch} {a0 : Nat} {i1 : Int32} {i2 : Int32} {i3 : Int32} {M : zM} {r : Unit × zM} (h : f_X0_changePart a0 i1 i2 i3 M = some r) : CP L l yX0_changePart cX0_changePart 4 (none : Option FieldType) 1 M [.ref (zad L (a0)), .int (i1), .int (i2), .int (i3)] none r.2 :=
  CP.of ⟨by decide +kernel, by decide +kernel⟩ (Nat.le_of_ble_eq_true rfl) fun X Q hq => s_X0_changePart_0 hq h
/-! Windsparlour$Parting.fits([IIII)Z -/
theorem dX0_fits_0 : decode cX0_fits 0 = .ok (.iload_n 1, 1) := by decide +kernel
theorem dX0_fits_1 : decode cX0_fits 1 = .ok (.ifCond .lt 25, 3) := by decide +kernel
theorem dX0_fits_4 : decode cX0_fits 4 = .ok (.iload_n 1, 1) := by decide +kernel
theorem dX0_fits_5 : decode cX0_fits 5 = .ok (.iload_n 2, 1) := by decide +kernel
theorem dX0_fits_6 : decode cX0_fits 6 = .ok (.if_icmp .ge 20, 3) := by decide +kernel
theorem dX0_fits_9 : decode cX0_fits 9 = .ok (.iload_n 2, 1) := by decide +kernel
theorem dX0_fits_10 : decode cX0_fits 10 = .ok (.aload_n 0, 1) := by decide +kernel
theorem dX0_fits_11 : decode cX0_fits 11 = .ok (.arraylength, 1) := by decide +kernel
theorem dX0_fits_12 : decode cX0_fits 12 = .ok (.if_icmp .gt 14, 3) := by decide +kernel
theorem dX0_fits_15 : decode cX0_fits 15 = .ok (.aload_n 0, 1) := by decide +kernel
theorem dX0_fits_16 : decode cX0_fits 16 = .ok (.iload_n 1, 1) := by decide +kernel
theorem dX0_fits_17 : decode cX0_fits 17 = .ok (.iaload, 1) := by decide +kernel
theorem dX0_fits_18 : decode cX0_fits 18 = .ok (.getstatic 68, 3) := by decide +kernel
theorem dX0_fits_21 : decode cX0_fits 21 = .ok (.iload_n 3, 1) := by decide +kernel
theorem dX0_fits_22 : decode cX0_fits 22 = .ok (.iaload, 1) := by decide +kernel
theorem dX0_fits_23 : decode cX0_fits 23 = .ok (.if_icmp .ge 5, 3) := by decide +kernel
theorem dX0_fits_26 : decode cX0_fits 26 = .ok (.iconst 0, 1) := by decide +kernel
theorem dX0_fits_27 : decode cX0_fits 27 = .ok (.ireturn, 1) := by decide +kernel
theorem dX0_fits_28 : decode cX0_fits 28 = .ok (.getstatic 71, 3) := by decide +kernel
theorem dX0_fits_31 : decode cX0_fits 31 = .ok (.iload_n 3, 1) := by decide +kernel
theorem dX0_fits_32 : decode cX0_fits 32 = .ok (.iaload, 1) := by decide +kernel
theorem dX0_fits_33 : decode cX0_fits 33 = .ok (.getstatic 74, 3) := by decide +kernel
theorem dX0_fits_36 : decode cX0_fits 36 = .ok (.iload_n 3, 1) := by decide +kernel
theorem dX0_fits_37 : decode cX0_fits 37 = .ok (.iaload, 1) := by decide +kernel
theorem dX0_fits_38 : decode cX0_fits 38 = .ok (.iadd, 1) := by decide +kernel
theorem dX0_fits_39 : decode cX0_fits 39 = .ok (.ifCond .ne 5, 3) := by decide +kernel
theorem dX0_fits_42 : decode cX0_fits 42 = .ok (.iconst 1, 1) := by decide +kernel
theorem dX0_fits_43 : decode cX0_fits 43 = .ok (.ireturn, 1) := by decide +kernel
theorem dX0_fits_44 : decode cX0_fits 44 = .ok (.iload_n 1, 1) := by decide +kernel
theorem dX0_fits_45 : decode cX0_fits 45 = .ok (.bipush 18, 2) := by decide +kernel
theorem dX0_fits_47 : decode cX0_fits 47 = .ok (.if_icmp .lt 5, 3) := by decide +kernel
theorem dX0_fits_50 : decode cX0_fits 50 = .ok (.iconst 0, 1) := by decide +kernel
theorem dX0_fits_51 : decode cX0_fits 51 = .ok (.ireturn, 1) := by decide +kernel
theorem dX0_fits_52 : decode cX0_fits 52 = .ok (.iload_n 1, 1) := by decide +kernel
theorem dX0_fits_53 : decode cX0_fits 53 = .ok (.iconst 1, 1) := by decide +kernel
theorem dX0_fits_54 : decode cX0_fits 54 = .ok (.iadd, 1) := by decide +kernel
theorem dX0_fits_55 : decode cX0_fits 55 = .ok (.iload_n 2, 1) := by decide +kernel
theorem dX0_fits_56 : decode cX0_fits 56 = .ok (.if_icmp .ge 11, 3) := by decide +kernel
theorem dX0_fits_59 : decode cX0_fits 59 = .ok (.aload_n 0, 1) := by decide +kernel
theorem dX0_fits_60 : decode cX0_fits 60 = .ok (.iload_n 1, 1) := by decide +kernel
theorem dX0_fits_61 : decode cX0_fits 61 = .ok (.iconst 1, 1) := by decide +kernel
theorem dX0_fits_62 : decode cX0_fits 62 = .ok (.iadd, 1) := by decide +kernel
theorem dX0_fits_63 : decode cX0_fits 63 = .ok (.iaload, 1) := by decide +kernel
theorem dX0_fits_64 : decode cX0_fits 64 = .ok (.goto 4, 3) := by decide +kernel
theorem dX0_fits_67 : decode cX0_fits 67 = .ok (.iconst 0, 1) := by decide +kernel
theorem dX0_fits_68 : decode cX0_fits 68 = .ok (.istore 4, 2) := by decide +kernel
theorem dX0_fits_70 : decode cX0_fits 70 = .ok (.iload_n 1, 1) := by decide +kernel
theorem dX0_fits_71 : decode cX0_fits 71 = .ok (.iconst 2, 1) := by decide +kernel
theorem dX0_fits_72 : decode cX0_fits 72 = .ok (.iadd, 1) := by decide +kernel
theorem dX0_fits_73 : decode cX0_fits 73 = .ok (.iload_n 2, 1) := by decide +kernel
theorem dX0_fits_74 : decode cX0_fits 74 = .ok (.if_icmp .ge 11, 3) := by decide +kernel
theorem dX0_fits_77 : decode cX0_fits 77 = .ok (.aload_n 0, 1) := by decide +kernel
theorem dX0_fits_78 : decode cX0_fits 78 = .ok (.iload_n 1, 1) := by decide +kernel
theorem dX0_fits_79 : decode cX0_fits 79 = .ok (.iconst 2, 1) := by decide +kernel
theorem dX0_fits_80 : decode cX0_fits 80 = .ok (.iadd, 1) := by decide +kernel
theorem dX0_fits_81 : decode cX0_fits 81 = .ok (.iaload, 1) := by decide +kernel
theorem dX0_fits_82 : decode cX0_fits 82 = .ok (.goto 4, 3) := by decide +kernel
theorem dX0_fits_85 : decode cX0_fits 85 = .ok (.iconst 0, 1) := by decide +kernel
theorem dX0_fits_86 : decode cX0_fits 86 = .ok (.istore 5, 2) := by decide +kernel
theorem dX0_fits_88 : decode cX0_fits 88 = .ok (.iload 4, 2) := by decide +kernel
theorem dX0_fits_90 : decode cX0_fits 90 = .ok (.getstatic 71, 3) := by decide +kernel
theorem dX0_fits_93 : decode cX0_fits 93 = .ok (.iload_n 3, 1) := by decide +kernel
theorem dX0_fits_94 : decode cX0_fits 94 = .ok (.iaload, 1) := by decide +kernel
theorem dX0_fits_95 : decode cX0_fits 95 = .ok (.if_icmp .lt 17, 3) := by decide +kernel
theorem dX0_fits_98 : decode cX0_fits 98 = .ok (.iload 5, 2) := by decide +kernel
theorem dX0_fits_100 : decode cX0_fits 100 = .ok (.getstatic 74, 3) := by decide +kernel
theorem dX0_fits_103 : decode cX0_fits 103 = .ok (.iload_n 3, 1) := by decide +kernel
theorem dX0_fits_104 : decode cX0_fits 104 = .ok (.iaload, 1) := by decide +kernel
theorem dX0_fits_105 : decode cX0_fits 105 = .ok (.if_icmp .lt 7, 3) := by decide +kernel
theorem dX0_fits_108 : decode cX0_fits 108 = .ok (.iconst 1, 1) := by decide +kernel
theorem dX0_fits_109 : decode cX0_fits 109 = .ok (.goto 4, 3) := by decide +kernel
theorem dX0_fits_112 : decode cX0_fits 112 = .ok (.iconst 0, 1) := by decide +kernel
theorem dX0_fits_113 : decode cX0_fits 113 = .ok (.ireturn, 1) := by decide +kernel
def f_X0_fits_86 (i3 : Int32) (i4 : Int32) (i_0 : Int32) (M : zM) : Option (Int32 × zM) :=
  (lA 0 M 2 i3).bind fun v1 =>
  if i4 < v1 then
  some ((0 : Int32), M)
  else
  (lA 0 M 3 i3).bind fun v2 =>
  if i_0 < v2 then
  some ((0 : Int32), M)
  else
  some ((1 : Int32), M)
set_option maxRecDepth 20000 in
set_option maxHeartbeats 4000000 in
theorem s_X0_fits_86 {L : zL} {X : zX} {M0 : zM} {N : Nat × Nat} {Q : State → Prop} {r : Int32 × zM} (hq : vQ L X M0 N Q (some (.int r.1)) r.2) {i3 : Int32} {i4 : Int32} {i_0 : Int32} {M : zM} (h : f_X0_fits_86 i3 i4 i_0 M = some r) : V L X yX0_fits cX0_fits 6 (some FieldType.boolean) 1 M0 N Q M 86 [(3, .int (i3)), (4, .int (i4))] [.int (i_0)] := by
  unfold f_X0_fits_86 at h
  refine V_istore (ls' := [(5, .int (i_0)), (3, .int (i3)), (4, .int (i4))]) dX0_fits_86 (by decide) rfl ?_
  refine V_iload dX0_fits_88 2 rfl ?_
  refine V_gets (zst_1 L) zg_X0_71 rfl dX0_fits_90 ?_
  refine V_iload_n dX0_fits_93 rfl 1 rfl ?_
  replace h := ob h
  obtain ⟨v1, e_v1, h⟩ := h
  refine V_iald e_v1 dX0_fits_94 ?_
  refine V_pc (pc' := 95) rfl ?_
  refine V_icmp_lt (tgt := 112) dX0_fits_95 (by decide) (fun c4 => ?_) (fun c4 => ?_)
  · replace h := (oi h).1 c4
    refine V_iconst (v := 0) dX0_fits_112 (by decide) ?_
    obtain rfl := Option.some.inj h
    exact V_zret (ty := .boolean) rfl rfl hq dX0_fits_113
  · replace h := (oi h).2 c4
    refine V_iload dX0_fits_98 0 rfl ?_
    refine V_gets (zst_2 L) zg_X0_74 rfl dX0_fits_100 ?_
    refine V_iload_n dX0_fits_103 rfl 1 rfl ?_
    replace h := ob h
    obtain ⟨v2, e_v2, h⟩ := h
    refine V_iald e_v2 dX0_fits_104 ?_
    refine V_pc (pc' := 105) rfl ?_
    refine V_icmp_lt (tgt := 112) dX0_fits_105 (by decide) (fun c3 => ?_) (fun c3 => ?_)
    · replace h := (oi h).1 c3
      refine V_iconst (v := 0) dX0_fits_112 (by decide) ?_
      obtain rfl := Option.some.inj h
      exact V_zret (ty := .boolean) rfl rfl hq dX0_fits_113
    · replace h := (oi h).2 c3
      refine V_iconst (v := 1) dX0_fits_108 (by decide) ?_
      refine V_goto (tgt := 113) dX0_fits_109 (by decide) ?_
      obtain rfl := Option.some.inj h
      exact V_zret (ty := .boolean) rfl rfl hq dX0_fits_113
def f_X0_fits_68 (a0 : Nat) (i1 : Int32) (i2 : Int32) (i3 : Int32) (i_0 : Int32) (M : zM) : Option (Int32 × zM) :=
  if i2 ≤ ((i1 + ((2 : Int32)))) then
  f_X0_fits_86 i3 i_0 ((0 : Int32)) M
  else
  (lA 0 M a0 ((i1 + ((2 : Int32))))).bind fun v1 =>
  f_X0_fits_86 i3 i_0 v1 M
set_option maxRecDepth 20000 in
set_option maxHeartbeats 4000000 in
theorem s_X0_fits_68 {L : zL} {X : zX} {M0 : zM} {N : Nat × Nat} {Q : State → Prop} {r : Int32 × zM} (hq : vQ L X M0 N Q (some (.int r.1)) r.2) {a0 : Nat} {i1 : Int32} {i2 : Int32} {i3 : Int32} {i_0 : Int32} {M : zM} (h : f_X0_fits_68 a0 i1 i2 i3 i_0 M = some r) : V L X yX0_fits cX0_fits 6 (some FieldType.boolean) 1 M0 N Q M 68 [(0, .ref (zad L (a0))), (1, .int (i1)), (2, .int (i2)), (3, .int (i3))] [.int (i_0)] := by
  unfold f_X0_fits_68 at h
  refine V_istore (ls' := [(4, .int (i_0)), (0, .ref (zad L (a0))), (1, .int (i1)), (2, .int (i2)), (3, .int (i3))]) dX0_fits_68 (by decide) rfl ?_
  refine V_iload_n dX0_fits_70 rfl 2 rfl ?_
  refine V_iconst (v := 2) dX0_fits_71 (by decide) ?_
  refine V_iadd dX0_fits_72 ?_
  refine V_iload_n dX0_fits_73 rfl 3 rfl ?_
  refine V_icmp_ge (tgt := 85) dX0_fits_74 (by decide) (fun c2 => ?_) (fun c2 => ?_)
  · replace h := (oi h).1 c2
    refine V_iconst (v := 0) dX0_fits_85 (by decide) ?_
    refine V_sub [4, 0] rfl ?_
    exact s_X0_fits_86 hq h
  · replace h := (oi h).2 c2
    refine V_aload_n dX0_fits_77 rfl 1 rfl ?_
    refine V_iload_n dX0_fits_78 rfl 2 rfl ?_
    refine V_iconst (v := 2) dX0_fits_79 (by decide) ?_
    refine V_iadd dX0_fits_80 ?_
    replace h := ob h
    obtain ⟨v1, e_v1, h⟩ := h
    refine V_iald e_v1 dX0_fits_81 ?_
    refine V_pc (pc' := 82) rfl ?_
    refine V_goto (tgt := 86) dX0_fits_82 (by decide) ?_
    refine V_sub [4, 0] rfl ?_
    exact s_X0_fits_86 hq h
def f_X0_fits_0 (a0 : Nat) (i1 : Int32) (i2 : Int32) (i3 : Int32) (M : zM) : Option (Int32 × zM) :=
  if i1 < 0 then
  some ((0 : Int32), M)
  else
  if i2 ≤ i1 then
  some ((0 : Int32), M)
  else
  (gL M a0).bind fun v1 =>
  if v1 < i2 then
  some ((0 : Int32), M)
  else
  (lA 0 M a0 i1).bind fun v2 =>
  (lA 0 M 1 i3).bind fun v3 =>
  if v3 ≤ v2 then
  (lA 0 M 2 i3).bind fun v4 =>
  (lA 0 M 3 i3).bind fun v5 =>
  if ((v4 + v5)) = 0 then
  some ((1 : Int32), M)
  else
  if i1 < ((18 : Int32)) then
  if i2 ≤ ((i1 + ((1 : Int32)))) then
  f_X0_fits_68 a0 i1 i2 i3 ((0 : Int32)) M
  else
  (lA 0 M a0 ((i1 + ((1 : Int32))))).bind fun v6 =>
  f_X0_fits_68 a0 i1 i2 i3 v6 M
  else
  some ((0 : Int32), M)
  else
  some ((0 : Int32), M)
set_option maxRecDepth 20000 in
set_option maxHeartbeats 4000000 in
theorem s_X0_fits_0 {L : zL} {X : zX} {M0 : zM} {N : Nat × Nat} {Q : State → Prop} {r : Int32 × zM} (hq : vQ L X M0 N Q (some (.int r.1)) r.2) {a0 : Nat} {i1 : Int32} {i2 : Int32} {i3 : Int32} {M : zM} (h : f_X0_fits_0 a0 i1 i2 i3 M = some r) : V L X yX0_fits cX0_fits 6 (some FieldType.boolean) 1 M0 N Q M 0 [(0, .ref (zad L (a0))), (1, .int (i1)), (2, .int (i2)), (3, .int (i3))] [] := by
  unfold f_X0_fits_0 at h
  refine V_iload_n dX0_fits_0 rfl 1 rfl ?_
  refine V_if_lt (tgt := 26) dX0_fits_1 (by decide) (fun c13 => ?_) (fun c13 => ?_)
  · replace h := (oi h).1 c13
    refine V_iconst (v := 0) dX0_fits_26 (by decide) ?_
    obtain rfl := Option.some.inj h
    exact V_zret (ty := .boolean) rfl rfl hq dX0_fits_27
  · replace h := (oi h).2 c13
    refine V_iload_n dX0_fits_4 rfl 1 rfl ?_
    refine V_iload_n dX0_fits_5 rfl 2 rfl ?_
    refine V_icmp_ge (tgt := 26) dX0_fits_6 (by decide) (fun c12 => ?_) (fun c12 => ?_)
    · replace h := (oi h).1 c12
      refine V_iconst (v := 0) dX0_fits_26 (by decide) ?_
      obtain rfl := Option.some.inj h
      exact V_zret (ty := .boolean) rfl rfl hq dX0_fits_27
    · replace h := (oi h).2 c12
      refine V_iload_n dX0_fits_9 rfl 2 rfl ?_
      refine V_aload_n dX0_fits_10 rfl 0 rfl ?_
      replace h := ob h
      obtain ⟨v1, e_v1, h⟩ := h
      refine V_alen e_v1 dX0_fits_11 ?_
      refine V_pc (pc' := 12) rfl ?_
      refine V_icmp_gt (tgt := 26) dX0_fits_12 (by decide) (fun c11 => ?_) (fun c11 => ?_)
      · replace h := (oi h).1 c11
        refine V_iconst (v := 0) dX0_fits_26 (by decide) ?_
        obtain rfl := Option.some.inj h
        exact V_zret (ty := .boolean) rfl rfl hq dX0_fits_27
      · replace h := (oi h).2 c11
        refine V_aload_n dX0_fits_15 rfl 0 rfl ?_
        refine V_iload_n dX0_fits_16 rfl 1 rfl ?_
        replace h := ob h
        obtain ⟨v2, e_v2, h⟩ := h
        refine V_iald e_v2 dX0_fits_17 ?_
        refine V_pc (pc' := 18) rfl ?_
        refine V_gets (zst_0 L) zg_X0_68 rfl dX0_fits_18 ?_
        refine V_iload_n dX0_fits_21 rfl 3 rfl ?_
        replace h := ob h
        obtain ⟨v3, e_v3, h⟩ := h
        refine V_iald e_v3 dX0_fits_22 ?_
        refine V_pc (pc' := 23) rfl ?_
        refine V_icmp_ge (tgt := 28) dX0_fits_23 (by decide) (fun c10 => ?_) (fun c10 => ?_)
        · replace h := (oi h).1 c10
          refine V_gets (zst_1 L) zg_X0_71 rfl dX0_fits_28 ?_
          refine V_iload_n dX0_fits_31 rfl 3 rfl ?_
          replace h := ob h
          obtain ⟨v4, e_v4, h⟩ := h
          refine V_iald e_v4 dX0_fits_32 ?_
          refine V_pc (pc' := 33) rfl ?_
          refine V_gets (zst_2 L) zg_X0_74 rfl dX0_fits_33 ?_
          refine V_iload_n dX0_fits_36 rfl 3 rfl ?_
          replace h := ob h
          obtain ⟨v5, e_v5, h⟩ := h
          refine V_iald e_v5 dX0_fits_37 ?_
          refine V_pc (pc' := 38) rfl ?_
          refine V_iadd dX0_fits_38 ?_
          refine V_if_ne (tgt := 44) dX0_fits_39 (by decide) (fun c9 => ?_) (fun c9 => ?_)
          · replace h := (oi h).2 c9
            refine V_iload_n dX0_fits_44 rfl 1 rfl ?_
            refine V_bipush (v := 18) dX0_fits_45 (by decide) ?_
            refine V_icmp_lt (tgt := 52) dX0_fits_47 (by decide) (fun c8 => ?_) (fun c8 => ?_)
            · replace h := (oi h).1 c8
              refine V_iload_n dX0_fits_52 rfl 1 rfl ?_
              refine V_iconst (v := 1) dX0_fits_53 (by decide) ?_
              refine V_iadd dX0_fits_54 ?_
              refine V_iload_n dX0_fits_55 rfl 2 rfl ?_
              refine V_icmp_ge (tgt := 67) dX0_fits_56 (by decide) (fun c7 => ?_) (fun c7 => ?_)
              · replace h := (oi h).1 c7
                refine V_iconst (v := 0) dX0_fits_67 (by decide) ?_
                exact s_X0_fits_68 hq h
              · replace h := (oi h).2 c7
                refine V_aload_n dX0_fits_59 rfl 0 rfl ?_
                refine V_iload_n dX0_fits_60 rfl 1 rfl ?_
                refine V_iconst (v := 1) dX0_fits_61 (by decide) ?_
                refine V_iadd dX0_fits_62 ?_
                replace h := ob h
                obtain ⟨v6, e_v6, h⟩ := h
                refine V_iald e_v6 dX0_fits_63 ?_
                refine V_pc (pc' := 64) rfl ?_
                refine V_goto (tgt := 68) dX0_fits_64 (by decide) ?_
                exact s_X0_fits_68 hq h
            · replace h := (oi h).2 c8
              refine V_iconst (v := 0) dX0_fits_50 (by decide) ?_
              obtain rfl := Option.some.inj h
              exact V_zret (ty := .boolean) rfl rfl hq dX0_fits_51
          · replace h := (oi h).1 c9
            refine V_iconst (v := 1) dX0_fits_42 (by decide) ?_
            obtain rfl := Option.some.inj h
            exact V_zret (ty := .boolean) rfl rfl hq dX0_fits_43
        · replace h := (oi h).2 c10
          refine V_iconst (v := 0) dX0_fits_26 (by decide) ?_
          obtain rfl := Option.some.inj h
          exact V_zret (ty := .boolean) rfl rfl hq dX0_fits_27
def f_X0_fits (a0 : Nat) (i1 : Int32) (i2 : Int32) (i3 : Int32) (M : zM) : Option (Int32 × zM) := f_X0_fits_0 a0 i1 i2 i3 M
theorem c_X0_fits {L : zL} {l : Launch} {a0 : Nat} {i1 : Int32} {i2 : Int32} {i3 : Int32} {M : zM} {r : Int32 × zM} (h : f_X0_fits a0 i1 i2 i3 M = some r) : CP L l yX0_fits cX0_fits 6 (some FieldType.boolean) 1 M [.ref (zad L (a0)), .int (i1), .int (i2), .int (i3)] (some (.int r.1)) r.2 :=
  CP.of ⟨by decide +kernel, by decide +kernel⟩ (Nat.le_of_ble_eq_true rfl) fun X Q hq => s_X0_fits_0 hq h
/-! Windsparlour$Parting.most([IIII)I -/
theorem dX0_most_0 : decode cX0_most 0 = .ok (.iconst 0, 1) := by decide +kernel
theorem dX0_most_1 : decode cX0_most 1 = .ok (.istore 4, 2) := by decide +kernel
theorem dX0_most_3 : decode cX0_most 3 = .ok (.iload_n 3, 1) := by decide +kernel
theorem dX0_most_4 : decode cX0_most 4 = .ok (.ifCond .le 12, 3) := by decide +kernel
theorem dX0_most_7 : decode cX0_most 7 = .ok (.iload_n 3, 1) := by decide +kernel
theorem dX0_most_8 : decode cX0_most 8 = .ok (.iconst 3, 1) := by decide +kernel
theorem dX0_most_9 : decode cX0_most 9 = .ok (.if_icmp .gt 7, 3) := by decide +kernel
theorem dX0_most_12 : decode cX0_most 12 = .ok (.iload_n 1, 1) := by decide +kernel
theorem dX0_most_13 : decode cX0_most 13 = .ok (.ifCond .ge 5, 3) := by decide +kernel
theorem dX0_most_16 : decode cX0_most 16 = .ok (.iconst 0, 1) := by decide +kernel
theorem dX0_most_17 : decode cX0_most 17 = .ok (.ireturn, 1) := by decide +kernel
theorem dX0_most_18 : decode cX0_most 18 = .ok (.iload_n 1, 1) := by decide +kernel
theorem dX0_most_19 : decode cX0_most 19 = .ok (.istore 5, 2) := by decide +kernel
theorem dX0_most_21 : decode cX0_most 21 = .ok (.iload 5, 2) := by decide +kernel
theorem dX0_most_23 : decode cX0_most 23 = .ok (.iload_n 2, 1) := by decide +kernel
theorem dX0_most_24 : decode cX0_most 24 = .ok (.if_icmp .ge 95, 3) := by decide +kernel
theorem dX0_most_27 : decode cX0_most 27 = .ok (.iload 4, 2) := by decide +kernel
theorem dX0_most_29 : decode cX0_most 29 = .ok (.iconst 2, 1) := by decide +kernel
theorem dX0_most_30 : decode cX0_most 30 = .ok (.iload_n 3, 1) := by decide +kernel
theorem dX0_most_31 : decode cX0_most 31 = .ok (.imul, 1) := by decide +kernel
theorem dX0_most_32 : decode cX0_most 32 = .ok (.if_icmp .ge 87, 3) := by decide +kernel
theorem dX0_most_35 : decode cX0_most 35 = .ok (.iconst 0, 1) := by decide +kernel
theorem dX0_most_36 : decode cX0_most 36 = .ok (.istore 6, 2) := by decide +kernel
theorem dX0_most_38 : decode cX0_most 38 = .ok (.iload 6, 2) := by decide +kernel
theorem dX0_most_40 : decode cX0_most 40 = .ok (.iconst 5, 1) := by decide +kernel
theorem dX0_most_41 : decode cX0_most 41 = .ok (.if_icmp .ge 72, 3) := by decide +kernel
theorem dX0_most_44 : decode cX0_most 44 = .ok (.aload_n 0, 1) := by decide +kernel
theorem dX0_most_45 : decode cX0_most 45 = .ok (.iload 5, 2) := by decide +kernel
theorem dX0_most_47 : decode cX0_most 47 = .ok (.iload_n 2, 1) := by decide +kernel
theorem dX0_most_48 : decode cX0_most 48 = .ok (.iload 6, 2) := by decide +kernel
theorem dX0_most_50 : decode cX0_most 50 = .ok (.invokestatic 60, 3) := by decide +kernel
theorem dX0_most_53 : decode cX0_most 53 = .ok (.ifCond .eq 54, 3) := by decide +kernel
theorem dX0_most_56 : decode cX0_most 56 = .ok (.aload_n 0, 1) := by decide +kernel
theorem dX0_most_57 : decode cX0_most 57 = .ok (.iload 5, 2) := by decide +kernel
theorem dX0_most_59 : decode cX0_most 59 = .ok (.iload 6, 2) := by decide +kernel
theorem dX0_most_61 : decode cX0_most 61 = .ok (.iconst (-1), 1) := by decide +kernel
theorem dX0_most_62 : decode cX0_most 62 = .ok (.invokestatic 64, 3) := by decide +kernel
theorem dX0_most_65 : decode cX0_most 65 = .ok (.iload 6, 2) := by decide +kernel
theorem dX0_most_67 : decode cX0_most 67 = .ok (.iconst 1, 1) := by decide +kernel
theorem dX0_most_68 : decode cX0_most 68 = .ok (.if_icmp .gt 7, 3) := by decide +kernel
theorem dX0_most_71 : decode cX0_most 71 = .ok (.iconst 2, 1) := by decide +kernel
theorem dX0_most_72 : decode cX0_most 72 = .ok (.goto 4, 3) := by decide +kernel
theorem dX0_most_75 : decode cX0_most 75 = .ok (.iconst 1, 1) := by decide +kernel
theorem dX0_most_76 : decode cX0_most 76 = .ok (.istore 7, 2) := by decide +kernel
theorem dX0_most_78 : decode cX0_most 78 = .ok (.iload 4, 2) := by decide +kernel
theorem dX0_most_80 : decode cX0_most 80 = .ok (.iload 7, 2) := by decide +kernel
theorem dX0_most_82 : decode cX0_most 82 = .ok (.aload_n 0, 1) := by decide +kernel
theorem dX0_most_83 : decode cX0_most 83 = .ok (.iload 5, 2) := by decide +kernel
theorem dX0_most_85 : decode cX0_most 85 = .ok (.iload_n 2, 1) := by decide +kernel
theorem dX0_most_86 : decode cX0_most 86 = .ok (.iload_n 3, 1) := by decide +kernel
theorem dX0_most_87 : decode cX0_most 87 = .ok (.iconst 1, 1) := by decide +kernel
theorem dX0_most_88 : decode cX0_most 88 = .ok (.isub, 1) := by decide +kernel
theorem dX0_most_89 : decode cX0_most 89 = .ok (.invokestatic 43, 3) := by decide +kernel
theorem dX0_most_92 : decode cX0_most 92 = .ok (.iadd, 1) := by decide +kernel
theorem dX0_most_93 : decode cX0_most 93 = .ok (.invokestatic 47, 3) := by decide +kernel
theorem dX0_most_96 : decode cX0_most 96 = .ok (.istore 4, 2) := by decide +kernel
theorem dX0_most_98 : decode cX0_most 98 = .ok (.aload_n 0, 1) := by decide +kernel
theorem dX0_most_99 : decode cX0_most 99 = .ok (.iload 5, 2) := by decide +kernel
theorem dX0_most_101 : decode cX0_most 101 = .ok (.iload 6, 2) := by decide +kernel
theorem dX0_most_103 : decode cX0_most 103 = .ok (.iconst 1, 1) := by decide +kernel
theorem dX0_most_104 : decode cX0_most 104 = .ok (.invokestatic 64, 3) := by decide +kernel
theorem dX0_most_107 : decode cX0_most 107 = .ok (.iinc 6 1, 3) := by decide +kernel
theorem dX0_most_110 : decode cX0_most 110 = .ok (.goto (-72), 3) := by decide +kernel
theorem dX0_most_113 : decode cX0_most 113 = .ok (.iinc 5 1, 3) := by decide +kernel
theorem dX0_most_116 : decode cX0_most 116 = .ok (.goto (-95), 3) := by decide +kernel
theorem dX0_most_119 : decode cX0_most 119 = .ok (.iload 4, 2) := by decide +kernel
theorem dX0_most_121 : decode cX0_most 121 = .ok (.ireturn, 1) := by decide +kernel
def f_X0_most_76 (RC_X0_most : Nat → Int32 → Int32 → Int32 → zM → Option (Int32 × zM)) (K21 : Nat → Int32 → Int32 → Int32 → Int32 → zM → Option (Int32 × zM)) (K38 : Nat → Int32 → Int32 → Int32 → Int32 → Int32 → zM → Option (Int32 × zM)) (a0 : Nat) (i2 : Int32) (i3 : Int32) (i4 : Int32) (i5 : Int32) (i6 : Int32) (i_0 : Int32) (M : zM) : Option (Int32 × zM) :=
  (RC_X0_most a0 i5 i2 ((i3 - ((1 : Int32)))) M).bind fun r1 =>
  (f_J9_max_7cf53 i4 ((i_0 + r1.1)) r1.2).bind fun r2 =>
  (f_X0_changePart a0 i5 i6 ((1 : Int32)) r2.2).bind fun r3 =>
  K38 a0 i2 i3 r2.1 i5 ((i6 + (1 : Int32))) r3.2
set_option maxRecDepth 20000 in
set_option maxHeartbeats 4000000 in
theorem s_X0_most_76 {L : zL} {X : zX} {M0 : zM} {N : Nat × Nat} {Q : State → Prop} {r : Int32 × zM} {dd : Nat} {RC_X0_most : Nat → Int32 → Int32 → Int32 → zM → Option (Int32 × zM)} {d_X0_most : Nat} (hRC_X0_most : ∀ (l : Launch) (a0 : Nat) (i1 : Int32) (i2 : Int32) (i3 : Int32) (M : zM) (r : Int32 × zM), RC_X0_most a0 i1 i2 i3 M = some r → CP L l yX0_most cX0_most 8 (some FieldType.int) d_X0_most M [.ref (zad L (a0)), .int (i1), .int (i2), .int (i3)] (some (.int r.1)) r.2) {K21 : Nat → Int32 → Int32 → Int32 → Int32 → zM → Option (Int32 × zM)} (hK21 : ∀ (a0 : Nat) (i2 : Int32) (i3 : Int32) (i4 : Int32) (i5 : Int32) (M : zM), K21 a0 i2 i3 i4 i5 M = some r → V L X yX0_most cX0_most 8 (some FieldType.int) dd M0 N Q M 21 [(0, .ref (zad L (a0))), (2, .int (i2)), (3, .int (i3)), (4, .int (i4)), (5, .int (i5))] []) {K38 : Nat → Int32 → Int32 → Int32 → Int32 → Int32 → zM → Option (Int32 × zM)} (hK38 : ∀ (a0 : Nat) (i2 : Int32) (i3 : Int32) (i4 : Int32) (i5 : Int32) (i6 : Int32) (M : zM), K38 a0 i2 i3 i4 i5 i6 M = some r → V L X yX0_most cX0_most 8 (some FieldType.int) dd M0 N Q M 38 [(0, .ref (zad L (a0))), (2, .int (i2)), (3, .int (i3)), (4, .int (i4)), (5, .int (i5)), (6, .int (i6))] []) (hd : d_X0_most + 1 ≤ dd ∧ 2 ≤ dd) (hq : vQ L X M0 N Q (some (.int r.1)) r.2) {a0 : Nat} {i2 : Int32} {i3 : Int32} {i4 : Int32} {i5 : Int32} {i6 : Int32} {i_0 : Int32} {M : zM} (h : f_X0_most_76 RC_X0_most K21 K38 a0 i2 i3 i4 i5 i6 i_0 M = some r) : V L X yX0_most cX0_most 8 (some FieldType.int) dd M0 N Q M 76 [(0, .ref (zad L (a0))), (2, .int (i2)), (3, .int (i3)), (4, .int (i4)), (5, .int (i5)), (6, .int (i6))] [.int (i_0)] := by
  unfold f_X0_most_76 at h
  refine V_istore (ls' := [(7, .int (i_0)), (0, .ref (zad L (a0))), (2, .int (i2)), (3, .int (i3)), (4, .int (i4)), (5, .int (i5)), (6, .int (i6))]) dX0_most_76 (by decide) rfl ?_
  refine V_iload dX0_most_78 4 rfl ?_
  refine V_iload dX0_most_80 0 rfl ?_
  refine V_aload_n dX0_most_82 rfl 1 rfl ?_
  refine V_iload dX0_most_83 5 rfl ?_
  refine V_iload_n dX0_most_85 rfl 2 rfl ?_
  refine V_iload_n dX0_most_86 rfl 3 rfl ?_
  refine V_iconst (v := 1) dX0_most_87 (by decide) ?_
  refine V_isub dX0_most_88 ?_
  replace h := ob h
  obtain ⟨r1, e_r1, h⟩ := h
  refine V_callS_I (As := [.ref (zad L (a0)), .int (i5), .int (i2), .int ((i3 - ((1 : Int32))))]) (rest := [.int (i_0), .int (i4)]) (hRC_X0_most X.2.1 _ _ _ _ _ _ e_r1) zc_X0_most rfl (by omega) zm_X0_43 (Nat.le_of_ble_eq_true rfl) rfl dX0_most_89 ?_
  refine V_pc (pc' := 92) rfl ?_
  refine V_iadd dX0_most_92 ?_
  replace h := ob h
  obtain ⟨r2, e_r2, h⟩ := h
  refine V_callS_I (As := [.int (i4), .int ((i_0 + r1.1))]) (rest := []) (c_J9_max_7cf53 e_r2) zc_J9_max_7cf53 rfl (by omega) zm_X0_47 (Nat.le_of_ble_eq_true rfl) rfl dX0_most_93 ?_
  refine V_pc (pc' := 96) rfl ?_
  refine V_istore (ls' := [(4, .int (r2.1)), (7, .int (i_0)), (0, .ref (zad L (a0))), (2, .int (i2)), (3, .int (i3)), (5, .int (i5)), (6, .int (i6))]) dX0_most_96 (by decide) rfl ?_
  refine V_aload_n dX0_most_98 rfl 2 rfl ?_
  refine V_iload dX0_most_99 5 rfl ?_
  refine V_iload dX0_most_101 6 rfl ?_
  refine V_iconst (v := 1) dX0_most_103 (by decide) ?_
  replace h := ob h
  obtain ⟨r3, e_r3, h⟩ := h
  refine V_callS_V (As := [.ref (zad L (a0)), .int (i5), .int (i6), .int ((1 : Int32))]) (rest := []) (c_X0_changePart e_r3) zc_X0_changePart rfl (by omega) zm_X0_64 (Nat.le_of_ble_eq_true rfl) rfl dX0_most_104 ?_
  refine V_pc (pc' := 107) rfl ?_
  refine V_iinc (v := i6 + (1 : Int32)) (ls' := [(6, .int ((i6 + (1 : Int32)))), (4, .int (r2.1)), (7, .int (i_0)), (0, .ref (zad L (a0))), (2, .int (i2)), (3, .int (i3)), (5, .int (i5))]) dX0_most_107 6 rfl (by rfl) (by decide) rfl ?_
  refine V_goto (tgt := 38) dX0_most_110 (by decide) ?_
  refine V_sub [3, 4, 5, 1, 6, 0] rfl ?_
  exact hK38 _ _ _ _ _ _ _ h
def f_X0_most_38 (RC_X0_most : Nat → Int32 → Int32 → Int32 → zM → Option (Int32 × zM)) (K21 : Nat → Int32 → Int32 → Int32 → Int32 → zM → Option (Int32 × zM)) (n : Nat) (a0 : Nat) (i2 : Int32) (i3 : Int32) (i4 : Int32) (i5 : Int32) (i6 : Int32) (M : zM) : Option (Int32 × zM) := match n with
  | 0 => none
  | n + 1 =>
    if ((5 : Int32)) ≤ i6 then
    K21 a0 i2 i3 i4 ((i5 + (1 : Int32))) M
    else
    (f_X0_fits a0 i5 i2 i6 M).bind fun r1 =>
    if r1.1 = 0 then
    f_X0_most_38 RC_X0_most K21 n a0 i2 i3 i4 i5 ((i6 + (1 : Int32))) r1.2
    else
    (f_X0_changePart a0 i5 i6 ((-1 : Int32)) r1.2).bind fun r2 =>
    if ((1 : Int32)) < i6 then
    f_X0_most_76 RC_X0_most K21 (f_X0_most_38 RC_X0_most K21 n) a0 i2 i3 i4 i5 i6 ((1 : Int32)) r2.2
    else
    f_X0_most_76 RC_X0_most K21 (f_X0_most_38 RC_X0_most K21 n) a0 i2 i3 i4 i5 i6 ((2 : Int32)) r2.2
set_option maxRecDepth 20000 in
set_option maxHeartbeats 4000000 in
theorem s_X0_most_38 {L : zL} {X : zX} {M0 : zM} {N : Nat × Nat} {Q : State → Prop} {r : Int32 × zM} {dd : Nat} {RC_X0_most : Nat → Int32 → Int32 → Int32 → zM → Option (Int32 × zM)} {d_X0_most : Nat} (hRC_X0_most : ∀ (l : Launch) (a0 : Nat) (i1 : Int32) (i2 : Int32) (i3 : Int32) (M : zM) (r : Int32 × zM), RC_X0_most a0 i1 i2 i3 M = some r → CP L l yX0_most cX0_most 8 (some FieldType.int) d_X0_most M [.ref (zad L (a0)), .int (i1), .int (i2), .int (i3)] (some (.int r.1)) r.2) {K21 : Nat → Int32 → Int32 → Int32 → Int32 → zM → Option (Int32 × zM)} (hK21 : ∀ (a0 : Nat) (i2 : Int32) (i3 : Int32) (i4 : Int32) (i5 : Int32) (M : zM), K21 a0 i2 i3 i4 i5 M = some r → V L X yX0_most cX0_most 8 (some FieldType.int) dd M0 N Q M 21 [(0, .ref (zad L (a0))), (2, .int (i2)), (3, .int (i3)), (4, .int (i4)), (5, .int (i5))] []) (hd : d_X0_most + 1 ≤ dd ∧ 2 ≤ dd) (hq : vQ L X M0 N Q (some (.int r.1)) r.2) {n : Nat} {a0 : Nat} {i2 : Int32} {i3 : Int32} {i4 : Int32} {i5 : Int32} {i6 : Int32} {M : zM} : f_X0_most_38 RC_X0_most K21 n a0 i2 i3 i4 i5 i6 M = some r → V L X yX0_most cX0_most 8 (some FieldType.int) dd M0 N Q M 38 [(0, .ref (zad L (a0))), (2, .int (i2)), (3, .int (i3)), (4, .int (i4)), (5, .int (i5)), (6, .int (i6))] [] := by
  induction n generalizing a0 i2 i3 i4 i5 i6 M with
  | zero =>
    intro h
    rw [f_X0_most_38] at h
    cases h
  | succ n ih0 =>
    intro h
    have ih : ∀ (a0 : Nat) (i2 : Int32) (i3 : Int32) (i4 : Int32) (i5 : Int32) (i6 : Int32) (M : zM), f_X0_most_38 RC_X0_most K21 n a0 i2 i3 i4 i5 i6 M = some r → V L X yX0_most cX0_most 8 (some FieldType.int) dd M0 N Q M 38 [(0, .ref (zad L (a0))), (2, .int (i2)), (3, .int (i3)), (4, .int (i4)), (5, .int (i5)), (6, .int (i6))] [] := fun a0 i2 i3 i4 i5 i6 M h => ih0 h
    rw [f_X0_most_38] at h
    refine V_iload dX0_most_38 5 rfl ?_
    refine V_iconst (v := 5) dX0_most_40 (by decide) ?_
    refine V_icmp_ge (tgt := 113) dX0_most_41 (by decide) (fun c5 => ?_) (fun c5 => ?_)
    · replace h := (oi h).1 c5
      refine V_iinc (v := i5 + (1 : Int32)) (ls' := [(5, .int ((i5 + (1 : Int32)))), (0, .ref (zad L (a0))), (2, .int (i2)), (3, .int (i3)), (4, .int (i4)), (6, .int (i6))]) dX0_most_113 4 rfl (by rfl) (by decide) rfl ?_
      refine V_goto (tgt := 21) dX0_most_116 (by decide) ?_
      refine V_sub [1, 2, 3, 4, 0] rfl ?_
      exact hK21 _ _ _ _ _ _ h
    · replace h := (oi h).2 c5
      refine V_aload_n dX0_most_44 rfl 0 rfl ?_
      refine V_iload dX0_most_45 4 rfl ?_
      refine V_iload_n dX0_most_47 rfl 1 rfl ?_
      refine V_iload dX0_most_48 5 rfl ?_
      replace h := ob h
      obtain ⟨r1, e_r1, h⟩ := h
      refine V_callS_I (As := [.ref (zad L (a0)), .int (i5), .int (i2), .int (i6)]) (rest := []) (c_X0_fits e_r1) zc_X0_fits rfl (by omega) zm_X0_60 (Nat.le_of_ble_eq_true rfl) rfl dX0_most_50 ?_
      refine V_pc (pc' := 53) rfl ?_
      refine V_if_eq (tgt := 107) dX0_most_53 (by decide) (fun c4 => ?_) (fun c4 => ?_)
      · replace h := (oi h).1 c4
        refine V_iinc (v := i6 + (1 : Int32)) (ls' := [(6, .int ((i6 + (1 : Int32)))), (0, .ref (zad L (a0))), (2, .int (i2)), (3, .int (i3)), (4, .int (i4)), (5, .int (i5))]) dX0_most_107 5 rfl (by rfl) (by decide) rfl ?_
        refine V_goto (tgt := 38) dX0_most_110 (by decide) ?_
        refine V_sub [1, 2, 3, 4, 5, 0] rfl ?_
        exact ih _ _ _ _ _ _ _ h
      · replace h := (oi h).2 c4
        refine V_aload_n dX0_most_56 rfl 0 rfl ?_
        refine V_iload dX0_most_57 4 rfl ?_
        refine V_iload dX0_most_59 5 rfl ?_
        refine V_iconst (v := -1) dX0_most_61 (by decide) ?_
        replace h := ob h
        obtain ⟨r2, e_r2, h⟩ := h
        refine V_callS_V (As := [.ref (zad L (a0)), .int (i5), .int (i6), .int ((-1 : Int32))]) (rest := []) (c_X0_changePart e_r2) zc_X0_changePart rfl (by omega) zm_X0_64 (Nat.le_of_ble_eq_true rfl) rfl dX0_most_62 ?_
        refine V_pc (pc' := 65) rfl ?_
        refine V_iload dX0_most_65 5 rfl ?_
        refine V_iconst (v := 1) dX0_most_67 (by decide) ?_
        refine V_icmp_gt (tgt := 75) dX0_most_68 (by decide) (fun c3 => ?_) (fun c3 => ?_)
        · replace h := (oi h).1 c3
          refine V_iconst (v := 1) dX0_most_75 (by decide) ?_
          exact s_X0_most_76 hRC_X0_most hK21 ih hd hq h
        · replace h := (oi h).2 c3
          refine V_iconst (v := 2) dX0_most_71 (by decide) ?_
          refine V_goto (tgt := 76) dX0_most_72 (by decide) ?_
          exact s_X0_most_76 hRC_X0_most hK21 ih hd hq h
def f_X0_most_21 (RC_X0_most : Nat → Int32 → Int32 → Int32 → zM → Option (Int32 × zM)) (n : Nat) (a0 : Nat) (i2 : Int32) (i3 : Int32) (i4 : Int32) (i5 : Int32) (M : zM) : Option (Int32 × zM) := match n with
  | 0 => none
  | n + 1 =>
    if i2 ≤ i5 then
    some (i4, M)
    else
    if ((((2 : Int32)) * i3)) ≤ i4 then
    some (i4, M)
    else
    f_X0_most_38 RC_X0_most (f_X0_most_21 RC_X0_most n) zN a0 i2 i3 i4 i5 ((0 : Int32)) M
set_option maxRecDepth 20000 in
set_option maxHeartbeats 4000000 in
theorem s_X0_most_21 {L : zL} {X : zX} {M0 : zM} {N : Nat × Nat} {Q : State → Prop} {r : Int32 × zM} {dd : Nat} {RC_X0_most : Nat → Int32 → Int32 → Int32 → zM → Option (Int32 × zM)} {d_X0_most : Nat} (hRC_X0_most : ∀ (l : Launch) (a0 : Nat) (i1 : Int32) (i2 : Int32) (i3 : Int32) (M : zM) (r : Int32 × zM), RC_X0_most a0 i1 i2 i3 M = some r → CP L l yX0_most cX0_most 8 (some FieldType.int) d_X0_most M [.ref (zad L (a0)), .int (i1), .int (i2), .int (i3)] (some (.int r.1)) r.2) (hd : d_X0_most + 1 ≤ dd ∧ 2 ≤ dd) (hq : vQ L X M0 N Q (some (.int r.1)) r.2) {n : Nat} {a0 : Nat} {i2 : Int32} {i3 : Int32} {i4 : Int32} {i5 : Int32} {M : zM} : f_X0_most_21 RC_X0_most n a0 i2 i3 i4 i5 M = some r → V L X yX0_most cX0_most 8 (some FieldType.int) dd M0 N Q M 21 [(0, .ref (zad L (a0))), (2, .int (i2)), (3, .int (i3)), (4, .int (i4)), (5, .int (i5))] [] := by
  induction n generalizing a0 i2 i3 i4 i5 M with
  | zero =>
    intro h
    rw [f_X0_most_21] at h
    cases h
  | succ n ih0 =>
    intro h
    have ih : ∀ (a0 : Nat) (i2 : Int32) (i3 : Int32) (i4 : Int32) (i5 : Int32) (M : zM), f_X0_most_21 RC_X0_most n a0 i2 i3 i4 i5 M = some r → V L X yX0_most cX0_most 8 (some FieldType.int) dd M0 N Q M 21 [(0, .ref (zad L (a0))), (2, .int (i2)), (3, .int (i3)), (4, .int (i4)), (5, .int (i5))] [] := fun a0 i2 i3 i4 i5 M h => ih0 h
    rw [f_X0_most_21] at h
    refine V_iload dX0_most_21 4 rfl ?_
    refine V_iload_n dX0_most_23 rfl 1 rfl ?_
    refine V_icmp_ge (tgt := 119) dX0_most_24 (by decide) (fun c2 => ?_) (fun c2 => ?_)
    · replace h := (oi h).1 c2
      refine V_iload dX0_most_119 3 rfl ?_
      obtain rfl := Option.some.inj h
      exact V_iret rfl hq dX0_most_121
    · replace h := (oi h).2 c2
      refine V_iload dX0_most_27 3 rfl ?_
      refine V_iconst (v := 2) dX0_most_29 (by decide) ?_
      refine V_iload_n dX0_most_30 rfl 2 rfl ?_
      refine V_imul dX0_most_31 ?_
      refine V_icmp_ge (tgt := 119) dX0_most_32 (by decide) (fun c1 => ?_) (fun c1 => ?_)
      · replace h := (oi h).1 c1
        refine V_iload dX0_most_119 3 rfl ?_
        obtain rfl := Option.some.inj h
        exact V_iret rfl hq dX0_most_121
      · replace h := (oi h).2 c1
        refine V_iconst (v := 0) dX0_most_35 (by decide) ?_
        refine V_istore (ls' := [(6, .int ((0 : Int32))), (0, .ref (zad L (a0))), (2, .int (i2)), (3, .int (i3)), (4, .int (i4)), (5, .int (i5))]) dX0_most_36 (by decide) rfl ?_
        refine V_sub [1, 2, 3, 4, 5, 0] rfl ?_
        exact s_X0_most_38 hRC_X0_most ih hd hq h
def f_X0_most_0 (RC_X0_most : Nat → Int32 → Int32 → Int32 → zM → Option (Int32 × zM)) (a0 : Nat) (i1 : Int32) (i2 : Int32) (i3 : Int32) (M : zM) : Option (Int32 × zM) :=
  if i3 ≤ 0 then
  some ((0 : Int32), M)
  else
  if ((3 : Int32)) < i3 then
  some ((0 : Int32), M)
  else
  if 0 ≤ i1 then
  f_X0_most_21 RC_X0_most zN a0 i2 i3 ((0 : Int32)) i1 M
  else
  some ((0 : Int32), M)
set_option maxRecDepth 20000 in
set_option maxHeartbeats 4000000 in
theorem s_X0_most_0 {L : zL} {X : zX} {M0 : zM} {N : Nat × Nat} {Q : State → Prop} {r : Int32 × zM} {dd : Nat} {RC_X0_most : Nat → Int32 → Int32 → Int32 → zM → Option (Int32 × zM)} {d_X0_most : Nat} (hRC_X0_most : ∀ (l : Launch) (a0 : Nat) (i1 : Int32) (i2 : Int32) (i3 : Int32) (M : zM) (r : Int32 × zM), RC_X0_most a0 i1 i2 i3 M = some r → CP L l yX0_most cX0_most 8 (some FieldType.int) d_X0_most M [.ref (zad L (a0)), .int (i1), .int (i2), .int (i3)] (some (.int r.1)) r.2) (hd : d_X0_most + 1 ≤ dd ∧ 2 ≤ dd) (hq : vQ L X M0 N Q (some (.int r.1)) r.2) {a0 : Nat} {i1 : Int32} {i2 : Int32} {i3 : Int32} {M : zM} (h : f_X0_most_0 RC_X0_most a0 i1 i2 i3 M = some r) : V L X yX0_most cX0_most 8 (some FieldType.int) dd M0 N Q M 0 [(0, .ref (zad L (a0))), (1, .int (i1)), (2, .int (i2)), (3, .int (i3))] [] := by
  unfold f_X0_most_0 at h
  refine V_iconst (v := 0) dX0_most_0 (by decide) ?_
  refine V_istore (ls' := [(4, .int ((0 : Int32))), (0, .ref (zad L (a0))), (1, .int (i1)), (2, .int (i2)), (3, .int (i3))]) dX0_most_1 (by decide) rfl ?_
  refine V_iload_n dX0_most_3 rfl 4 rfl ?_
  refine V_if_le (tgt := 16) dX0_most_4 (by decide) (fun c3 => ?_) (fun c3 => ?_)
  · replace h := (oi h).1 c3
    refine V_iconst (v := 0) dX0_most_16 (by decide) ?_
    obtain rfl := Option.some.inj h
    exact V_iret rfl hq dX0_most_17
  · replace h := (oi h).2 c3
    refine V_iload_n dX0_most_7 rfl 4 rfl ?_
    refine V_iconst (v := 3) dX0_most_8 (by decide) ?_
    refine V_icmp_gt (tgt := 16) dX0_most_9 (by decide) (fun c2 => ?_) (fun c2 => ?_)
    · replace h := (oi h).1 c2
      refine V_iconst (v := 0) dX0_most_16 (by decide) ?_
      obtain rfl := Option.some.inj h
      exact V_iret rfl hq dX0_most_17
    · replace h := (oi h).2 c2
      refine V_iload_n dX0_most_12 rfl 2 rfl ?_
      refine V_if_ge (tgt := 18) dX0_most_13 (by decide) (fun c1 => ?_) (fun c1 => ?_)
      · replace h := (oi h).1 c1
        refine V_iload_n dX0_most_18 rfl 2 rfl ?_
        refine V_istore (ls' := [(5, .int (i1)), (4, .int ((0 : Int32))), (0, .ref (zad L (a0))), (1, .int (i1)), (2, .int (i2)), (3, .int (i3))]) dX0_most_19 (by decide) rfl ?_
        refine V_sub [2, 4, 5, 1, 0] rfl ?_
        exact s_X0_most_21 hRC_X0_most hd hq h
      · replace h := (oi h).2 c1
        refine V_iconst (v := 0) dX0_most_16 (by decide) ?_
        obtain rfl := Option.some.inj h
        exact V_iret rfl hq dX0_most_17
def f_X0_most (n : Nat) (a0 : Nat) (i1 : Int32) (i2 : Int32) (i3 : Int32) (M : zM) : Option (Int32 × zM) := match n with
  | 0 => none
  | n + 1 => f_X0_most_0 (f_X0_most n) a0 i1 i2 i3 M
theorem cr_X0_most {L : zL} {l : Launch} {n : Nat} {a0 : Nat} {i1 : Int32} {i2 : Int32} {i3 : Int32} {M : zM} {r : Int32 × zM} : f_X0_most n a0 i1 i2 i3 M = some r → CP L l yX0_most cX0_most 8 (some FieldType.int) (n + 2) M [.ref (zad L (a0)), .int (i1), .int (i2), .int (i3)] (some (.int r.1)) r.2 := by
  induction n generalizing l a0 i1 i2 i3 M r with
  | zero =>
    intro h
    rw [f_X0_most] at h
    cases h
  | succ n ih =>
    intro h
    rw [f_X0_most] at h
    exact CP.of ⟨by decide +kernel, by decide +kernel⟩ (Nat.le_of_ble_eq_true rfl) fun X Q hq => s_X0_most_0 (d_X0_most := n + 2) (fun l a0 i1 i2 i3 M r e => ih e) ⟨by omega, by omega⟩ hq h
theorem c_X0_most {L : zL} {l : Launch} {a0 : Nat} {i1 : Int32} {i2 : Int32} {i3 : Int32} {M : zM} {r : Int32 × zM} (h : f_X0_most zR a0 i1 i2 i3 M = some r) : CP L l yX0_most cX0_most 8 (some FieldType.int) 66 M [.ref (zad L (a0)), .int (i1), .int (i2), .int (i3)] (some (.int r.1)) r.2 := by
  have q := cr_X0_most (L := L) (l := l) (n := zR) h
  have e : zR + 2 = 66 := by decide
  rw [e] at q
  exact q
/-! Windsparlour$Parting.join(III)V -/
theorem dX0_join_0 : decode cX0_join 0 = .ok (.iconst 0, 1) := by decide +kernel
theorem dX0_join_1 : decode cX0_join 1 = .ok (.istore 4, 2) := by decide +kernel
theorem dX0_join_3 : decode cX0_join 3 = .ok (.iload 4, 2) := by decide +kernel
theorem dX0_join_5 : decode cX0_join 5 = .ok (.iload_n 3, 1) := by decide +kernel
theorem dX0_join_6 : decode cX0_join 6 = .ok (.if_icmp .gt 47, 3) := by decide +kernel
theorem dX0_join_9 : decode cX0_join 9 = .ok (.iload 4, 2) := by decide +kernel
theorem dX0_join_11 : decode cX0_join 11 = .ok (.iconst 3, 1) := by decide +kernel
theorem dX0_join_12 : decode cX0_join 12 = .ok (.if_icmp .gt 41, 3) := by decide +kernel
theorem dX0_join_15 : decode cX0_join 15 = .ok (.aload_n 0, 1) := by decide +kernel
theorem dX0_join_16 : decode cX0_join 16 = .ok (.getfield 21, 3) := by decide +kernel
theorem dX0_join_19 : decode cX0_join 19 = .ok (.iload 4, 2) := by decide +kernel
theorem dX0_join_21 : decode cX0_join 21 = .ok (.aload_n 0, 1) := by decide +kernel
theorem dX0_join_22 : decode cX0_join 22 = .ok (.getfield 9, 3) := by decide +kernel
theorem dX0_join_25 : decode cX0_join 25 = .ok (.iload_n 1, 1) := by decide +kernel
theorem dX0_join_26 : decode cX0_join 26 = .ok (.iload_n 2, 1) := by decide +kernel
theorem dX0_join_27 : decode cX0_join 27 = .ok (.iload 4, 2) := by decide +kernel
theorem dX0_join_29 : decode cX0_join 29 = .ok (.invokestatic 43, 3) := by decide +kernel
theorem dX0_join_32 : decode cX0_join 32 = .ok (.iastore, 1) := by decide +kernel
theorem dX0_join_33 : decode cX0_join 33 = .ok (.aload_n 0, 1) := by decide +kernel
theorem dX0_join_34 : decode cX0_join 34 = .ok (.getfield 24, 3) := by decide +kernel
theorem dX0_join_37 : decode cX0_join 37 = .ok (.iload 4, 2) := by decide +kernel
theorem dX0_join_39 : decode cX0_join 39 = .ok (.aload_n 0, 1) := by decide +kernel
theorem dX0_join_40 : decode cX0_join 40 = .ok (.getfield 21, 3) := by decide +kernel
theorem dX0_join_43 : decode cX0_join 43 = .ok (.iload 4, 2) := by decide +kernel
theorem dX0_join_45 : decode cX0_join 45 = .ok (.iaload, 1) := by decide +kernel
theorem dX0_join_46 : decode cX0_join 46 = .ok (.iastore, 1) := by decide +kernel
theorem dX0_join_47 : decode cX0_join 47 = .ok (.iinc 4 1, 3) := by decide +kernel
theorem dX0_join_50 : decode cX0_join 50 = .ok (.goto (-47), 3) := by decide +kernel
theorem dX0_join_53 : decode cX0_join 53 = .ok (.iload_n 1, 1) := by decide +kernel
theorem dX0_join_54 : decode cX0_join 54 = .ok (.istore 4, 2) := by decide +kernel
theorem dX0_join_56 : decode cX0_join 56 = .ok (.iload 4, 2) := by decide +kernel
theorem dX0_join_58 : decode cX0_join 58 = .ok (.iload_n 2, 1) := by decide +kernel
theorem dX0_join_59 : decode cX0_join 59 = .ok (.if_icmp .ge 100, 3) := by decide +kernel
theorem dX0_join_62 : decode cX0_join 62 = .ok (.iload 4, 2) := by decide +kernel
theorem dX0_join_64 : decode cX0_join 64 = .ok (.bipush 25, 2) := by decide +kernel
theorem dX0_join_66 : decode cX0_join 66 = .ok (.if_icmp .ge 93, 3) := by decide +kernel
theorem dX0_join_69 : decode cX0_join 69 = .ok (.aload_n 0, 1) := by decide +kernel
theorem dX0_join_70 : decode cX0_join 70 = .ok (.getfield 9, 3) := by decide +kernel
theorem dX0_join_73 : decode cX0_join 73 = .ok (.iload 4, 2) := by decide +kernel
theorem dX0_join_75 : decode cX0_join 75 = .ok (.iaload, 1) := by decide +kernel
theorem dX0_join_76 : decode cX0_join 76 = .ok (.iconst 2, 1) := by decide +kernel
theorem dX0_join_77 : decode cX0_join 77 = .ok (.if_icmp .lt 76, 3) := by decide +kernel
theorem dX0_join_80 : decode cX0_join 80 = .ok (.aload_n 0, 1) := by decide +kernel
theorem dX0_join_81 : decode cX0_join 81 = .ok (.getfield 9, 3) := by decide +kernel
theorem dX0_join_84 : decode cX0_join 84 = .ok (.iload 4, 2) := by decide +kernel
theorem dX0_join_86 : decode cX0_join 86 = .ok (.dup2, 1) := by decide +kernel
theorem dX0_join_87 : decode cX0_join 87 = .ok (.iaload, 1) := by decide +kernel
theorem dX0_join_88 : decode cX0_join 88 = .ok (.iconst 2, 1) := by decide +kernel
theorem dX0_join_89 : decode cX0_join 89 = .ok (.isub, 1) := by decide +kernel
theorem dX0_join_90 : decode cX0_join 90 = .ok (.iastore, 1) := by decide +kernel
theorem dX0_join_91 : decode cX0_join 91 = .ok (.iconst 0, 1) := by decide +kernel
theorem dX0_join_92 : decode cX0_join 92 = .ok (.istore 5, 2) := by decide +kernel
theorem dX0_join_94 : decode cX0_join 94 = .ok (.iload 5, 2) := by decide +kernel
theorem dX0_join_96 : decode cX0_join 96 = .ok (.iload_n 3, 1) := by decide +kernel
theorem dX0_join_97 : decode cX0_join 97 = .ok (.if_icmp .gt 45, 3) := by decide +kernel
theorem dX0_join_100 : decode cX0_join 100 = .ok (.iload 5, 2) := by decide +kernel
theorem dX0_join_102 : decode cX0_join 102 = .ok (.iconst 3, 1) := by decide +kernel
theorem dX0_join_103 : decode cX0_join 103 = .ok (.if_icmp .gt 39, 3) := by decide +kernel
theorem dX0_join_106 : decode cX0_join 106 = .ok (.aload_n 0, 1) := by decide +kernel
theorem dX0_join_107 : decode cX0_join 107 = .ok (.getfield 24, 3) := by decide +kernel
theorem dX0_join_110 : decode cX0_join 110 = .ok (.iload 5, 2) := by decide +kernel
theorem dX0_join_112 : decode cX0_join 112 = .ok (.aload_n 0, 1) := by decide +kernel
theorem dX0_join_113 : decode cX0_join 113 = .ok (.getfield 24, 3) := by decide +kernel
theorem dX0_join_116 : decode cX0_join 116 = .ok (.iload 5, 2) := by decide +kernel
theorem dX0_join_118 : decode cX0_join 118 = .ok (.iaload, 1) := by decide +kernel
theorem dX0_join_119 : decode cX0_join 119 = .ok (.iconst 1, 1) := by decide +kernel
theorem dX0_join_120 : decode cX0_join 120 = .ok (.aload_n 0, 1) := by decide +kernel
theorem dX0_join_121 : decode cX0_join 121 = .ok (.getfield 9, 3) := by decide +kernel
theorem dX0_join_124 : decode cX0_join 124 = .ok (.iload_n 1, 1) := by decide +kernel
theorem dX0_join_125 : decode cX0_join 125 = .ok (.iload_n 2, 1) := by decide +kernel
theorem dX0_join_126 : decode cX0_join 126 = .ok (.iload 5, 2) := by decide +kernel
theorem dX0_join_128 : decode cX0_join 128 = .ok (.invokestatic 43, 3) := by decide +kernel
theorem dX0_join_131 : decode cX0_join 131 = .ok (.iadd, 1) := by decide +kernel
theorem dX0_join_132 : decode cX0_join 132 = .ok (.invokestatic 47, 3) := by decide +kernel
theorem dX0_join_135 : decode cX0_join 135 = .ok (.iastore, 1) := by decide +kernel
theorem dX0_join_136 : decode cX0_join 136 = .ok (.iinc 5 1, 3) := by decide +kernel
theorem dX0_join_139 : decode cX0_join 139 = .ok (.goto (-45), 3) := by decide +kernel
theorem dX0_join_142 : decode cX0_join 142 = .ok (.aload_n 0, 1) := by decide +kernel
theorem dX0_join_143 : decode cX0_join 143 = .ok (.getfield 9, 3) := by decide +kernel
theorem dX0_join_146 : decode cX0_join 146 = .ok (.iload 4, 2) := by decide +kernel
theorem dX0_join_148 : decode cX0_join 148 = .ok (.dup2, 1) := by decide +kernel
theorem dX0_join_149 : decode cX0_join 149 = .ok (.iaload, 1) := by decide +kernel
theorem dX0_join_150 : decode cX0_join 150 = .ok (.iconst 2, 1) := by decide +kernel
theorem dX0_join_151 : decode cX0_join 151 = .ok (.iadd, 1) := by decide +kernel
theorem dX0_join_152 : decode cX0_join 152 = .ok (.iastore, 1) := by decide +kernel
theorem dX0_join_153 : decode cX0_join 153 = .ok (.iinc 4 1, 3) := by decide +kernel
theorem dX0_join_156 : decode cX0_join 156 = .ok (.goto (-100), 3) := by decide +kernel
theorem dX0_join_159 : decode cX0_join 159 = .ok (.iload_n 3, 1) := by decide +kernel
theorem dX0_join_160 : decode cX0_join 160 = .ok (.iconst 3, 1) := by decide +kernel
theorem dX0_join_161 : decode cX0_join 161 = .ok (.invokestatic 53, 3) := by decide +kernel
theorem dX0_join_164 : decode cX0_join 164 = .ok (.istore 4, 2) := by decide +kernel
theorem dX0_join_166 : decode cX0_join 166 = .ok (.iload 4, 2) := by decide +kernel
theorem dX0_join_168 : decode cX0_join 168 = .ok (.ifCond .lt 15, 3) := by decide +kernel
theorem dX0_join_171 : decode cX0_join 171 = .ok (.aload_n 0, 1) := by decide +kernel
theorem dX0_join_172 : decode cX0_join 172 = .ok (.iload 4, 2) := by decide +kernel
theorem dX0_join_174 : decode cX0_join 174 = .ok (.invokevirtual 56, 3) := by decide +kernel
theorem dX0_join_177 : decode cX0_join 177 = .ok (.iinc 4 (-1), 3) := by decide +kernel
theorem dX0_join_180 : decode cX0_join 180 = .ok (.goto (-14), 3) := by decide +kernel
theorem dX0_join_183 : decode cX0_join 183 = .ok (.return_, 1) := by decide +kernel
def f_X0_join_166 (n : Nat) (a0 : Nat) (i4 : Int32) (M : zM) : Option (Unit × zM) := match n with
  | 0 => none
  | n + 1 =>
    if i4 < 0 then
    some ((), M)
    else
    if mK M a0 = 6 then
    (f_X0_joinParts a0 i4 M).bind fun r1 =>
    f_X0_join_166 n a0 ((i4 + (-1 : Int32))) r1.2
    else none
set_option maxRecDepth 20000 in
set_option maxHeartbeats 4000000 in
theorem s_X0_join_166 {L : zL} {X : zX} {M0 : zM} {N : Nat × Nat} {Q : State → Prop} {r : Unit × zM} (hq : vQ L X M0 N Q none r.2) {n : Nat} {a0 : Nat} {i4 : Int32} {M : zM} : f_X0_join_166 n a0 i4 M = some r → V L X yX0_join cX0_join 6 (none : Option FieldType) 67 M0 N Q M 166 [(0, .ref (zad L (a0))), (4, .int (i4))] [] := by
  induction n generalizing a0 i4 M with
  | zero =>
    intro h
    rw [f_X0_join_166] at h
    cases h
  | succ n ih0 =>
    intro h
    have ih : ∀ (a0 : Nat) (i4 : Int32) (M : zM), f_X0_join_166 n a0 i4 M = some r → V L X yX0_join cX0_join 6 (none : Option FieldType) 67 M0 N Q M 166 [(0, .ref (zad L (a0))), (4, .int (i4))] [] := fun a0 i4 M h => ih0 h
    rw [f_X0_join_166] at h
    refine V_iload dX0_join_166 1 rfl ?_
    refine V_if_lt (tgt := 183) dX0_join_168 (by decide) (fun c3 => ?_) (fun c3 => ?_)
    · replace h := (oi h).1 c3
      obtain rfl := Option.some.inj h
      exact V_vret rfl hq dX0_join_183
    · replace h := (oi h).2 c3
      refine V_aload_n dX0_join_171 rfl 0 rfl ?_
      refine V_iload dX0_join_172 1 rfl ?_
      replace h := ox h
      obtain ⟨c2, h⟩ := h
      replace h := ob h
      obtain ⟨r1, e_r1, h⟩ := h
      refine V_callV_V (As := [.int (i4)]) (rest := []) (c_X0_joinParts e_r1) zc_X0_joinParts rfl (by decide) rfl (by decide) (Or.inl c2) zm_X0_56 (Nat.le_of_ble_eq_true rfl) rfl dX0_join_174 ?_
      refine V_pc (pc' := 177) rfl ?_
      refine V_iinc (v := i4 + (-1 : Int32)) (ls' := [(4, .int ((i4 + (-1 : Int32)))), (0, .ref (zad L (a0)))]) dX0_join_177 1 rfl (by rfl) (by decide) rfl ?_
      refine V_goto (tgt := 166) dX0_join_180 (by decide) ?_
      refine V_sub [1, 0] rfl ?_
      exact ih _ _ _ h
def f_X0_join_159 (a0 : Nat) (i3 : Int32) (M : zM) : Option (Unit × zM) :=
  (f_J9_min_7cf53 i3 ((3 : Int32)) M).bind fun r1 =>
  f_X0_join_166 zN a0 r1.1 r1.2
set_option maxRecDepth 20000 in
set_option maxHeartbeats 4000000 in
theorem s_X0_join_159 {L : zL} {X : zX} {M0 : zM} {N : Nat × Nat} {Q : State → Prop} {r : Unit × zM} (hq : vQ L X M0 N Q none r.2) {a0 : Nat} {i3 : Int32} {M : zM} (h : f_X0_join_159 a0 i3 M = some r) : V L X yX0_join cX0_join 6 (none : Option FieldType) 67 M0 N Q M 159 [(0, .ref (zad L (a0))), (3, .int (i3))] [] := by
  unfold f_X0_join_159 at h
  refine V_iload_n dX0_join_159 rfl 1 rfl ?_
  refine V_iconst (v := 3) dX0_join_160 (by decide) ?_
  replace h := ob h
  obtain ⟨r1, e_r1, h⟩ := h
  refine V_callS_I (As := [.int (i3), .int ((3 : Int32))]) (rest := []) (c_J9_min_7cf53 e_r1) zc_J9_min_7cf53 rfl (by decide) zm_X0_53 (Nat.le_of_ble_eq_true rfl) rfl dX0_join_161 ?_
  refine V_pc (pc' := 164) rfl ?_
  refine V_istore (ls' := [(4, .int (r1.1)), (0, .ref (zad L (a0))), (3, .int (i3))]) dX0_join_164 (by decide) rfl ?_
  refine V_sub [1, 0] rfl ?_
  exact s_X0_join_166 hq h
def f_X0_join_142 (K56 : Nat → Int32 → Int32 → Int32 → Int32 → zM → Option (Unit × zM)) (a0 : Nat) (i1 : Int32) (i2 : Int32) (i3 : Int32) (i4 : Int32) (M : zM) : Option (Unit × zM) :=
  (gR 6 0 M a0).bind fun v1 =>
  (lA 0 M v1 i4).bind fun v2 =>
  (tA M v1 i4 ((v2 + ((2 : Int32))))).bind fun M3 =>
  K56 a0 i1 i2 i3 ((i4 + (1 : Int32))) M3
set_option maxRecDepth 20000 in
set_option maxHeartbeats 4000000 in
theorem s_X0_join_142 {L : zL} {X : zX} {M0 : zM} {N : Nat × Nat} {Q : State → Prop} {r : Unit × zM} {K56 : Nat → Int32 → Int32 → Int32 → Int32 → zM → Option (Unit × zM)} (hK56 : ∀ (a0 : Nat) (i1 : Int32) (i2 : Int32) (i3 : Int32) (i4 : Int32) (M : zM), K56 a0 i1 i2 i3 i4 M = some r → V L X yX0_join cX0_join 6 (none : Option FieldType) 67 M0 N Q M 56 [(0, .ref (zad L (a0))), (1, .int (i1)), (2, .int (i2)), (3, .int (i3)), (4, .int (i4))] []) (hq : vQ L X M0 N Q none r.2) {a0 : Nat} {i1 : Int32} {i2 : Int32} {i3 : Int32} {i4 : Int32} {M : zM} (h : f_X0_join_142 K56 a0 i1 i2 i3 i4 M = some r) : V L X yX0_join cX0_join 6 (none : Option FieldType) 67 M0 N Q M 142 [(0, .ref (zad L (a0))), (1, .int (i1)), (2, .int (i2)), (3, .int (i3)), (4, .int (i4))] [] := by
  unfold f_X0_join_142 at h
  refine V_aload_n dX0_join_142 rfl 0 rfl ?_
  replace h := ob h
  obtain ⟨v1, e_v1, h⟩ := h
  refine V_getR zf_6_0 zl_X0_9 e_v1 dX0_join_143 ?_
  refine V_pc (pc' := 146) rfl ?_
  refine V_iload dX0_join_146 4 rfl ?_
  refine V_dup2 dX0_join_148 rfl rfl ?_
  replace h := ob h
  obtain ⟨v2, e_v2, h⟩ := h
  refine V_iald e_v2 dX0_join_149 ?_
  refine V_pc (pc' := 150) rfl ?_
  refine V_iconst (v := 2) dX0_join_150 (by decide) ?_
  refine V_iadd dX0_join_151 ?_
  replace h := ob h
  obtain ⟨M3, e_M3, h⟩ := h
  refine V_iast e_M3 dX0_join_152 ?_
  refine V_iinc (v := i4 + (1 : Int32)) (ls' := [(4, .int ((i4 + (1 : Int32)))), (0, .ref (zad L (a0))), (1, .int (i1)), (2, .int (i2)), (3, .int (i3))]) dX0_join_153 4 rfl (by rfl) (by decide) rfl ?_
  refine V_goto (tgt := 56) dX0_join_156 (by decide) ?_
  refine V_sub [1, 2, 3, 4, 0] rfl ?_
  exact hK56 _ _ _ _ _ _ h
def f_X0_join_94 (K56 : Nat → Int32 → Int32 → Int32 → Int32 → zM → Option (Unit × zM)) (n : Nat) (a0 : Nat) (i1 : Int32) (i2 : Int32) (i3 : Int32) (i4 : Int32) (i5 : Int32) (M : zM) : Option (Unit × zM) := match n with
  | 0 => none
  | n + 1 =>
    if i3 < i5 then
    f_X0_join_142 K56 a0 i1 i2 i3 i4 M
    else
    if ((3 : Int32)) < i5 then
    f_X0_join_142 K56 a0 i1 i2 i3 i4 M
    else
    (gR 6 4 M a0).bind fun v1 =>
    (gR 6 4 M a0).bind fun v2 =>
    (lA 0 M v2 i5).bind fun v3 =>
    (gR 6 0 M a0).bind fun v4 =>
    (f_X0_most zR v4 i1 i2 i5 M).bind fun r5 =>
    (f_J9_max_7cf53 v3 ((((1 : Int32)) + r5.1)) r5.2).bind fun r6 =>
    (tA r6.2 v1 i5 r6.1).bind fun M7 =>
    f_X0_join_94 K56 n a0 i1 i2 i3 i4 ((i5 + (1 : Int32))) M7
set_option maxRecDepth 20000 in
set_option maxHeartbeats 4000000 in
theorem s_X0_join_94 {L : zL} {X : zX} {M0 : zM} {N : Nat × Nat} {Q : State → Prop} {r : Unit × zM} {K56 : Nat → Int32 → Int32 → Int32 → Int32 → zM → Option (Unit × zM)} (hK56 : ∀ (a0 : Nat) (i1 : Int32) (i2 : Int32) (i3 : Int32) (i4 : Int32) (M : zM), K56 a0 i1 i2 i3 i4 M = some r → V L X yX0_join cX0_join 6 (none : Option FieldType) 67 M0 N Q M 56 [(0, .ref (zad L (a0))), (1, .int (i1)), (2, .int (i2)), (3, .int (i3)), (4, .int (i4))] []) (hq : vQ L X M0 N Q none r.2) {n : Nat} {a0 : Nat} {i1 : Int32} {i2 : Int32} {i3 : Int32} {i4 : Int32} {i5 : Int32} {M : zM} : f_X0_join_94 K56 n a0 i1 i2 i3 i4 i5 M = some r → V L X yX0_join cX0_join 6 (none : Option FieldType) 67 M0 N Q M 94 [(0, .ref (zad L (a0))), (1, .int (i1)), (2, .int (i2)), (3, .int (i3)), (4, .int (i4)), (5, .int (i5))] [] := by
  induction n generalizing a0 i1 i2 i3 i4 i5 M with
  | zero =>
    intro h
    rw [f_X0_join_94] at h
    cases h
  | succ n ih0 =>
    intro h
    have ih : ∀ (a0 : Nat) (i1 : Int32) (i2 : Int32) (i3 : Int32) (i4 : Int32) (i5 : Int32) (M : zM), f_X0_join_94 K56 n a0 i1 i2 i3 i4 i5 M = some r → V L X yX0_join cX0_join 6 (none : Option FieldType) 67 M0 N Q M 94 [(0, .ref (zad L (a0))), (1, .int (i1)), (2, .int (i2)), (3, .int (i3)), (4, .int (i4)), (5, .int (i5))] [] := fun a0 i1 i2 i3 i4 i5 M h => ih0 h
    rw [f_X0_join_94] at h
    refine V_iload dX0_join_94 5 rfl ?_
    refine V_iload_n dX0_join_96 rfl 3 rfl ?_
    refine V_icmp_gt (tgt := 142) dX0_join_97 (by decide) (fun c9 => ?_) (fun c9 => ?_)
    · replace h := (oi h).1 c9
      refine V_sub [0, 1, 2, 3, 4] rfl ?_
      exact s_X0_join_142 hK56 hq h
    · replace h := (oi h).2 c9
      refine V_iload dX0_join_100 5 rfl ?_
      refine V_iconst (v := 3) dX0_join_102 (by decide) ?_
      refine V_icmp_gt (tgt := 142) dX0_join_103 (by decide) (fun c8 => ?_) (fun c8 => ?_)
      · replace h := (oi h).1 c8
        refine V_sub [0, 1, 2, 3, 4] rfl ?_
        exact s_X0_join_142 hK56 hq h
      · replace h := (oi h).2 c8
        refine V_aload_n dX0_join_106 rfl 0 rfl ?_
        replace h := ob h
        obtain ⟨v1, e_v1, h⟩ := h
        refine V_getR zf_6_4 zl_X0_24 e_v1 dX0_join_107 ?_
        refine V_pc (pc' := 110) rfl ?_
        refine V_iload dX0_join_110 5 rfl ?_
        refine V_aload_n dX0_join_112 rfl 0 rfl ?_
        replace h := ob h
        obtain ⟨v2, e_v2, h⟩ := h
        refine V_getR zf_6_4 zl_X0_24 e_v2 dX0_join_113 ?_
        refine V_pc (pc' := 116) rfl ?_
        refine V_iload dX0_join_116 5 rfl ?_
        replace h := ob h
        obtain ⟨v3, e_v3, h⟩ := h
        refine V_iald e_v3 dX0_join_118 ?_
        refine V_pc (pc' := 119) rfl ?_
        refine V_iconst (v := 1) dX0_join_119 (by decide) ?_
        refine V_aload_n dX0_join_120 rfl 0 rfl ?_
        replace h := ob h
        obtain ⟨v4, e_v4, h⟩ := h
        refine V_getR zf_6_0 zl_X0_9 e_v4 dX0_join_121 ?_
        refine V_pc (pc' := 124) rfl ?_
        refine V_iload_n dX0_join_124 rfl 1 rfl ?_
        refine V_iload_n dX0_join_125 rfl 2 rfl ?_
        refine V_iload dX0_join_126 5 rfl ?_
        replace h := ob h
        obtain ⟨r5, e_r5, h⟩ := h
        refine V_callS_I (As := [.ref (zad L (v4)), .int (i1), .int (i2), .int (i5)]) (rest := [.int ((1 : Int32)), .int (v3), .int (i5), .ref (zad L (v1))]) (c_X0_most e_r5) zc_X0_most rfl (by decide) zm_X0_43 (Nat.le_of_ble_eq_true rfl) rfl dX0_join_128 ?_
        refine V_pc (pc' := 131) rfl ?_
        refine V_iadd dX0_join_131 ?_
        replace h := ob h
        obtain ⟨r6, e_r6, h⟩ := h
        refine V_callS_I (As := [.int (v3), .int ((((1 : Int32)) + r5.1))]) (rest := [.int (i5), .ref (zad L (v1))]) (c_J9_max_7cf53 e_r6) zc_J9_max_7cf53 rfl (by decide) zm_X0_47 (Nat.le_of_ble_eq_true rfl) rfl dX0_join_132 ?_
        refine V_pc (pc' := 135) rfl ?_
        replace h := ob h
        obtain ⟨M7, e_M7, h⟩ := h
        refine V_iast e_M7 dX0_join_135 ?_
        refine V_iinc (v := i5 + (1 : Int32)) (ls' := [(5, .int ((i5 + (1 : Int32)))), (0, .ref (zad L (a0))), (1, .int (i1)), (2, .int (i2)), (3, .int (i3)), (4, .int (i4))]) dX0_join_136 5 rfl (by rfl) (by decide) rfl ?_
        refine V_goto (tgt := 94) dX0_join_139 (by decide) ?_
        refine V_sub [1, 2, 3, 4, 5, 0] rfl ?_
        exact ih _ _ _ _ _ _ _ h
def f_X0_join_56 (n : Nat) (a0 : Nat) (i1 : Int32) (i2 : Int32) (i3 : Int32) (i4 : Int32) (M : zM) : Option (Unit × zM) := match n with
  | 0 => none
  | n + 1 =>
    if i2 ≤ i4 then
    f_X0_join_159 a0 i3 M
    else
    if ((25 : Int32)) ≤ i4 then
    f_X0_join_159 a0 i3 M
    else
    (gR 6 0 M a0).bind fun v1 =>
    (lA 0 M v1 i4).bind fun v2 =>
    if v2 < ((2 : Int32)) then
    f_X0_join_56 n a0 i1 i2 i3 ((i4 + (1 : Int32))) M
    else
    (gR 6 0 M a0).bind fun v3 =>
    (lA 0 M v3 i4).bind fun v4 =>
    (tA M v3 i4 ((v4 - ((2 : Int32))))).bind fun M5 =>
    f_X0_join_94 (f_X0_join_56 n) zN a0 i1 i2 i3 i4 ((0 : Int32)) M5
set_option maxRecDepth 20000 in
set_option maxHeartbeats 4000000 in
theorem s_X0_join_56 {L : zL} {X : zX} {M0 : zM} {N : Nat × Nat} {Q : State → Prop} {r : Unit × zM} (hq : vQ L X M0 N Q none r.2) {n : Nat} {a0 : Nat} {i1 : Int32} {i2 : Int32} {i3 : Int32} {i4 : Int32} {M : zM} : f_X0_join_56 n a0 i1 i2 i3 i4 M = some r → V L X yX0_join cX0_join 6 (none : Option FieldType) 67 M0 N Q M 56 [(0, .ref (zad L (a0))), (1, .int (i1)), (2, .int (i2)), (3, .int (i3)), (4, .int (i4))] [] := by
  induction n generalizing a0 i1 i2 i3 i4 M with
  | zero =>
    intro h
    rw [f_X0_join_56] at h
    cases h
  | succ n ih0 =>
    intro h
    have ih : ∀ (a0 : Nat) (i1 : Int32) (i2 : Int32) (i3 : Int32) (i4 : Int32) (M : zM), f_X0_join_56 n a0 i1 i2 i3 i4 M = some r → V L X yX0_join cX0_join 6 (none : Option FieldType) 67 M0 N Q M 56 [(0, .ref (zad L (a0))), (1, .int (i1)), (2, .int (i2)), (3, .int (i3)), (4, .int (i4))] [] := fun a0 i1 i2 i3 i4 M h => ih0 h
    rw [f_X0_join_56] at h
    refine V_iload dX0_join_56 4 rfl ?_
    refine V_iload_n dX0_join_58 rfl 2 rfl ?_
    refine V_icmp_ge (tgt := 159) dX0_join_59 (by decide) (fun c8 => ?_) (fun c8 => ?_)
    · replace h := (oi h).1 c8
      refine V_sub [0, 3] rfl ?_
      exact s_X0_join_159 hq h
    · replace h := (oi h).2 c8
      refine V_iload dX0_join_62 4 rfl ?_
      refine V_bipush (v := 25) dX0_join_64 (by decide) ?_
      refine V_icmp_ge (tgt := 159) dX0_join_66 (by decide) (fun c7 => ?_) (fun c7 => ?_)
      · replace h := (oi h).1 c7
        refine V_sub [0, 3] rfl ?_
        exact s_X0_join_159 hq h
      · replace h := (oi h).2 c7
        refine V_aload_n dX0_join_69 rfl 0 rfl ?_
        replace h := ob h
        obtain ⟨v1, e_v1, h⟩ := h
        refine V_getR zf_6_0 zl_X0_9 e_v1 dX0_join_70 ?_
        refine V_pc (pc' := 73) rfl ?_
        refine V_iload dX0_join_73 4 rfl ?_
        replace h := ob h
        obtain ⟨v2, e_v2, h⟩ := h
        refine V_iald e_v2 dX0_join_75 ?_
        refine V_pc (pc' := 76) rfl ?_
        refine V_iconst (v := 2) dX0_join_76 (by decide) ?_
        refine V_icmp_lt (tgt := 153) dX0_join_77 (by decide) (fun c6 => ?_) (fun c6 => ?_)
        · replace h := (oi h).1 c6
          refine V_iinc (v := i4 + (1 : Int32)) (ls' := [(4, .int ((i4 + (1 : Int32)))), (0, .ref (zad L (a0))), (1, .int (i1)), (2, .int (i2)), (3, .int (i3))]) dX0_join_153 4 rfl (by rfl) (by decide) rfl ?_
          refine V_goto (tgt := 56) dX0_join_156 (by decide) ?_
          refine V_sub [1, 2, 3, 4, 0] rfl ?_
          exact ih _ _ _ _ _ _ h
        · replace h := (oi h).2 c6
          refine V_aload_n dX0_join_80 rfl 0 rfl ?_
          replace h := ob h
          obtain ⟨v3, e_v3, h⟩ := h
          refine V_getR zf_6_0 zl_X0_9 e_v3 dX0_join_81 ?_
          refine V_pc (pc' := 84) rfl ?_
          refine V_iload dX0_join_84 4 rfl ?_
          refine V_dup2 dX0_join_86 rfl rfl ?_
          replace h := ob h
          obtain ⟨v4, e_v4, h⟩ := h
          refine V_iald e_v4 dX0_join_87 ?_
          refine V_pc (pc' := 88) rfl ?_
          refine V_iconst (v := 2) dX0_join_88 (by decide) ?_
          refine V_isub dX0_join_89 ?_
          replace h := ob h
          obtain ⟨M5, e_M5, h⟩ := h
          refine V_iast e_M5 dX0_join_90 ?_
          refine V_iconst (v := 0) dX0_join_91 (by decide) ?_
          refine V_istore (ls' := [(5, .int ((0 : Int32))), (0, .ref (zad L (a0))), (1, .int (i1)), (2, .int (i2)), (3, .int (i3)), (4, .int (i4))]) dX0_join_92 (by decide) rfl ?_
          refine V_sub [1, 2, 3, 4, 5, 0] rfl ?_
          exact s_X0_join_94 ih hq h
def f_X0_join_3 (n : Nat) (a0 : Nat) (i1 : Int32) (i2 : Int32) (i3 : Int32) (i4 : Int32) (M : zM) : Option (Unit × zM) := match n with
  | 0 => none
  | n + 1 =>
    if i3 < i4 then
    f_X0_join_56 zN a0 i1 i2 i3 i1 M
    else
    if ((3 : Int32)) < i4 then
    f_X0_join_56 zN a0 i1 i2 i3 i1 M
    else
    (gR 6 3 M a0).bind fun v1 =>
    (gR 6 0 M a0).bind fun v2 =>
    (f_X0_most zR v2 i1 i2 i4 M).bind fun r3 =>
    (tA r3.2 v1 i4 r3.1).bind fun M4 =>
    (gR 6 4 M4 a0).bind fun v5 =>
    (gR 6 3 M4 a0).bind fun v6 =>
    (lA 0 M4 v6 i4).bind fun v7 =>
    (tA M4 v5 i4 v7).bind fun M8 =>
    f_X0_join_3 n a0 i1 i2 i3 ((i4 + (1 : Int32))) M8
set_option maxRecDepth 20000 in
set_option maxHeartbeats 4000000 in
theorem s_X0_join_3 {L : zL} {X : zX} {M0 : zM} {N : Nat × Nat} {Q : State → Prop} {r : Unit × zM} (hq : vQ L X M0 N Q none r.2) {n : Nat} {a0 : Nat} {i1 : Int32} {i2 : Int32} {i3 : Int32} {i4 : Int32} {M : zM} : f_X0_join_3 n a0 i1 i2 i3 i4 M = some r → V L X yX0_join cX0_join 6 (none : Option FieldType) 67 M0 N Q M 3 [(0, .ref (zad L (a0))), (1, .int (i1)), (2, .int (i2)), (3, .int (i3)), (4, .int (i4))] [] := by
  induction n generalizing a0 i1 i2 i3 i4 M with
  | zero =>
    intro h
    rw [f_X0_join_3] at h
    cases h
  | succ n ih0 =>
    intro h
    have ih : ∀ (a0 : Nat) (i1 : Int32) (i2 : Int32) (i3 : Int32) (i4 : Int32) (M : zM), f_X0_join_3 n a0 i1 i2 i3 i4 M = some r → V L X yX0_join cX0_join 6 (none : Option FieldType) 67 M0 N Q M 3 [(0, .ref (zad L (a0))), (1, .int (i1)), (2, .int (i2)), (3, .int (i3)), (4, .int (i4))] [] := fun a0 i1 i2 i3 i4 M h => ih0 h
    rw [f_X0_join_3] at h
    refine V_iload dX0_join_3 4 rfl ?_
    refine V_iload_n dX0_join_5 rfl 3 rfl ?_
    refine V_icmp_gt (tgt := 53) dX0_join_6 (by decide) (fun c10 => ?_) (fun c10 => ?_)
    · replace h := (oi h).1 c10
      refine V_iload_n dX0_join_53 rfl 1 rfl ?_
      refine V_istore (ls' := [(4, .int (i1)), (0, .ref (zad L (a0))), (1, .int (i1)), (2, .int (i2)), (3, .int (i3))]) dX0_join_54 (by decide) rfl ?_
      refine V_sub [1, 2, 3, 4, 0] rfl ?_
      exact s_X0_join_56 hq h
    · replace h := (oi h).2 c10
      refine V_iload dX0_join_9 4 rfl ?_
      refine V_iconst (v := 3) dX0_join_11 (by decide) ?_
      refine V_icmp_gt (tgt := 53) dX0_join_12 (by decide) (fun c9 => ?_) (fun c9 => ?_)
      · replace h := (oi h).1 c9
        refine V_iload_n dX0_join_53 rfl 1 rfl ?_
        refine V_istore (ls' := [(4, .int (i1)), (0, .ref (zad L (a0))), (1, .int (i1)), (2, .int (i2)), (3, .int (i3))]) dX0_join_54 (by decide) rfl ?_
        refine V_sub [1, 2, 3, 4, 0] rfl ?_
        exact s_X0_join_56 hq h
      · replace h := (oi h).2 c9
        refine V_aload_n dX0_join_15 rfl 0 rfl ?_
        replace h := ob h
        obtain ⟨v1, e_v1, h⟩ := h
        refine V_getR zf_6_3 zl_X0_21 e_v1 dX0_join_16 ?_
        refine V_pc (pc' := 19) rfl ?_
        refine V_iload dX0_join_19 4 rfl ?_
        refine V_aload_n dX0_join_21 rfl 0 rfl ?_
        replace h := ob h
        obtain ⟨v2, e_v2, h⟩ := h
        refine V_getR zf_6_0 zl_X0_9 e_v2 dX0_join_22 ?_
        refine V_pc (pc' := 25) rfl ?_
        refine V_iload_n dX0_join_25 rfl 1 rfl ?_
        refine V_iload_n dX0_join_26 rfl 2 rfl ?_
        refine V_iload dX0_join_27 4 rfl ?_
        replace h := ob h
        obtain ⟨r3, e_r3, h⟩ := h
        refine V_callS_I (As := [.ref (zad L (v2)), .int (i1), .int (i2), .int (i4)]) (rest := [.int (i4), .ref (zad L (v1))]) (c_X0_most e_r3) zc_X0_most rfl (by decide) zm_X0_43 (Nat.le_of_ble_eq_true rfl) rfl dX0_join_29 ?_
        refine V_pc (pc' := 32) rfl ?_
        replace h := ob h
        obtain ⟨M4, e_M4, h⟩ := h
        refine V_iast e_M4 dX0_join_32 ?_
        refine V_aload_n dX0_join_33 rfl 0 rfl ?_
        replace h := ob h
        obtain ⟨v5, e_v5, h⟩ := h
        refine V_getR zf_6_4 zl_X0_24 e_v5 dX0_join_34 ?_
        refine V_pc (pc' := 37) rfl ?_
        refine V_iload dX0_join_37 4 rfl ?_
        refine V_aload_n dX0_join_39 rfl 0 rfl ?_
        replace h := ob h
        obtain ⟨v6, e_v6, h⟩ := h
        refine V_getR zf_6_3 zl_X0_21 e_v6 dX0_join_40 ?_
        refine V_pc (pc' := 43) rfl ?_
        refine V_iload dX0_join_43 4 rfl ?_
        replace h := ob h
        obtain ⟨v7, e_v7, h⟩ := h
        refine V_iald e_v7 dX0_join_45 ?_
        refine V_pc (pc' := 46) rfl ?_
        replace h := ob h
        obtain ⟨M8, e_M8, h⟩ := h
        refine V_iast e_M8 dX0_join_46 ?_
        refine V_iinc (v := i4 + (1 : Int32)) (ls' := [(4, .int ((i4 + (1 : Int32)))), (0, .ref (zad L (a0))), (1, .int (i1)), (2, .int (i2)), (3, .int (i3))]) dX0_join_47 4 rfl (by rfl) (by decide) rfl ?_
        refine V_goto (tgt := 3) dX0_join_50 (by decide) ?_
        refine V_sub [1, 2, 3, 4, 0] rfl ?_
        exact ih _ _ _ _ _ _ h
def f_X0_join_0 (a0 : Nat) (i1 : Int32) (i2 : Int32) (i3 : Int32) (M : zM) : Option (Unit × zM) :=
  f_X0_join_3 zN a0 i1 i2 i3 ((0 : Int32)) M
set_option maxRecDepth 20000 in
set_option maxHeartbeats 4000000 in
theorem s_X0_join_0 {L : zL} {X : zX} {M0 : zM} {N : Nat × Nat} {Q : State → Prop} {r : Unit × zM} (hq : vQ L X M0 N Q none r.2) {a0 : Nat} {i1 : Int32} {i2 : Int32} {i3 : Int32} {M : zM} (h : f_X0_join_0 a0 i1 i2 i3 M = some r) : V L X yX0_join cX0_join 6 (none : Option FieldType) 67 M0 N Q M 0 [(0, .ref (zad L (a0))), (1, .int (i1)), (2, .int (i2)), (3, .int (i3))] [] := by
  unfold f_X0_join_0 at h
  refine V_iconst (v := 0) dX0_join_0 (by decide) ?_
  refine V_istore (ls' := [(4, .int ((0 : Int32))), (0, .ref (zad L (a0))), (1, .int (i1)), (2, .int (i2)), (3, .int (i3))]) dX0_join_1 (by decide) rfl ?_
  refine V_sub [1, 2, 3, 4, 0] rfl ?_
  exact s_X0_join_3 hq h
def f_X0_join (a0 : Nat) (i1 : Int32) (i2 : Int32) (i3 : Int32) (M : zM) : Option (Unit × zM) := f_X0_join_0 a0 i1 i2 i3 M
theorem c_X0_join {L : zL} {l : Launch} {a0 : Nat} {i1 : Int32} {i2 : Int32} {i3 : Int32} {M : zM} {r : Unit × zM} (h : f_X0_join a0 i1 i2 i3 M = some r) : CP L l yX0_join cX0_join 6 (none : Option FieldType) 67 M [.ref (zad L (a0)), .int (i1), .int (i2), .int (i3)] none r.2 :=
  CP.of ⟨by decide +kernel, by decide +kernel⟩ (Nat.le_of_ble_eq_true rfl) fun X Q hq => s_X0_join_0 hq h
/-! Windsparlour$Parting.far([II)I -/
theorem dX0_far_0 : decode cX0_far 0 = .ok (.iload_n 2, 1) := by decide +kernel
theorem dX0_far_1 : decode cX0_far 1 = .ok (.ifCond .ge 7, 3) := by decide +kernel
theorem dX0_far_4 : decode cX0_far 4 = .ok (.iconst 3, 1) := by decide +kernel
theorem dX0_far_5 : decode cX0_far 5 = .ok (.goto 15, 3) := by decide +kernel
theorem dX0_far_8 : decode cX0_far 8 = .ok (.iload_n 2, 1) := by decide +kernel
theorem dX0_far_9 : decode cX0_far 9 = .ok (.iconst 3, 1) := by decide +kernel
theorem dX0_far_10 : decode cX0_far 10 = .ok (.if_icmp .le 7, 3) := by decide +kernel
theorem dX0_far_13 : decode cX0_far 13 = .ok (.iconst 0, 1) := by decide +kernel
theorem dX0_far_14 : decode cX0_far 14 = .ok (.goto 6, 3) := by decide +kernel
theorem dX0_far_17 : decode cX0_far 17 = .ok (.iconst 3, 1) := by decide +kernel
theorem dX0_far_18 : decode cX0_far 18 = .ok (.iload_n 2, 1) := by decide +kernel
theorem dX0_far_19 : decode cX0_far 19 = .ok (.isub, 1) := by decide +kernel
theorem dX0_far_20 : decode cX0_far 20 = .ok (.istore_n 3, 1) := by decide +kernel
theorem dX0_far_21 : decode cX0_far 21 = .ok (.aload_n 0, 1) := by decide +kernel
theorem dX0_far_22 : decode cX0_far 22 = .ok (.aload_n 1, 1) := by decide +kernel
theorem dX0_far_23 : decode cX0_far 23 = .ok (.invokevirtual 27, 3) := by decide +kernel
theorem dX0_far_26 : decode cX0_far 26 = .ok (.iconst 0, 1) := by decide +kernel
theorem dX0_far_27 : decode cX0_far 27 = .ok (.istore 4, 2) := by decide +kernel
theorem dX0_far_29 : decode cX0_far 29 = .ok (.iload 4, 2) := by decide +kernel
theorem dX0_far_31 : decode cX0_far 31 = .ok (.iconst 3, 1) := by decide +kernel
theorem dX0_far_32 : decode cX0_far 32 = .ok (.if_icmp .gt 25, 3) := by decide +kernel
theorem dX0_far_35 : decode cX0_far 35 = .ok (.aload_n 0, 1) := by decide +kernel
theorem dX0_far_36 : decode cX0_far 36 = .ok (.getfield 15, 3) := by decide +kernel
theorem dX0_far_39 : decode cX0_far 39 = .ok (.iload 4, 2) := by decide +kernel
theorem dX0_far_41 : decode cX0_far 41 = .ok (.iconst 0, 1) := by decide +kernel
theorem dX0_far_42 : decode cX0_far 42 = .ok (.iastore, 1) := by decide +kernel
theorem dX0_far_43 : decode cX0_far 43 = .ok (.aload_n 0, 1) := by decide +kernel
theorem dX0_far_44 : decode cX0_far 44 = .ok (.getfield 18, 3) := by decide +kernel
theorem dX0_far_47 : decode cX0_far 47 = .ok (.iload 4, 2) := by decide +kernel
theorem dX0_far_49 : decode cX0_far 49 = .ok (.iconst 0, 1) := by decide +kernel
theorem dX0_far_50 : decode cX0_far 50 = .ok (.iastore, 1) := by decide +kernel
theorem dX0_far_51 : decode cX0_far 51 = .ok (.iinc 4 1, 3) := by decide +kernel
theorem dX0_far_54 : decode cX0_far 54 = .ok (.goto (-25), 3) := by decide +kernel
theorem dX0_far_57 : decode cX0_far 57 = .ok (.aload_n 0, 1) := by decide +kernel
theorem dX0_far_58 : decode cX0_far 58 = .ok (.iconst 0, 1) := by decide +kernel
theorem dX0_far_59 : decode cX0_far 59 = .ok (.bipush 9, 2) := by decide +kernel
theorem dX0_far_61 : decode cX0_far 61 = .ok (.iload_n 3, 1) := by decide +kernel
theorem dX0_far_62 : decode cX0_far 62 = .ok (.invokevirtual 39, 3) := by decide +kernel
theorem dX0_far_65 : decode cX0_far 65 = .ok (.aload_n 0, 1) := by decide +kernel
theorem dX0_far_66 : decode cX0_far 66 = .ok (.bipush 9, 2) := by decide +kernel
theorem dX0_far_68 : decode cX0_far 68 = .ok (.bipush 18, 2) := by decide +kernel
theorem dX0_far_70 : decode cX0_far 70 = .ok (.iload_n 3, 1) := by decide +kernel
theorem dX0_far_71 : decode cX0_far 71 = .ok (.invokevirtual 39, 3) := by decide +kernel
theorem dX0_far_74 : decode cX0_far 74 = .ok (.aload_n 0, 1) := by decide +kernel
theorem dX0_far_75 : decode cX0_far 75 = .ok (.bipush 18, 2) := by decide +kernel
theorem dX0_far_77 : decode cX0_far 77 = .ok (.bipush 25, 2) := by decide +kernel
theorem dX0_far_79 : decode cX0_far 79 = .ok (.iload_n 3, 1) := by decide +kernel
theorem dX0_far_80 : decode cX0_far 80 = .ok (.invokevirtual 39, 3) := by decide +kernel
theorem dX0_far_83 : decode cX0_far 83 = .ok (.iconst 2, 1) := by decide +kernel
theorem dX0_far_84 : decode cX0_far 84 = .ok (.iload_n 3, 1) := by decide +kernel
theorem dX0_far_85 : decode cX0_far 85 = .ok (.imul, 1) := by decide +kernel
theorem dX0_far_86 : decode cX0_far 86 = .ok (.aload_n 0, 1) := by decide +kernel
theorem dX0_far_87 : decode cX0_far 87 = .ok (.getfield 18, 3) := by decide +kernel
theorem dX0_far_90 : decode cX0_far 90 = .ok (.iload_n 3, 1) := by decide +kernel
theorem dX0_far_91 : decode cX0_far 91 = .ok (.iaload, 1) := by decide +kernel
theorem dX0_far_92 : decode cX0_far 92 = .ok (.isub, 1) := by decide +kernel
theorem dX0_far_93 : decode cX0_far 93 = .ok (.ireturn, 1) := by decide +kernel
def f_X0_far_29 (n : Nat) (a0 : Nat) (i3 : Int32) (i4 : Int32) (M : zM) : Option (Int32 × zM) := match n with
  | 0 => none
  | n + 1 =>
    if ((3 : Int32)) < i4 then
    if mK M a0 = 6 then
    (f_X0_join a0 ((0 : Int32)) ((9 : Int32)) i3 M).bind fun r1 =>
    if mK r1.2 a0 = 6 then
    (f_X0_join a0 ((9 : Int32)) ((18 : Int32)) i3 r1.2).bind fun r3 =>
    if mK r3.2 a0 = 6 then
    (f_X0_join a0 ((18 : Int32)) ((25 : Int32)) i3 r3.2).bind fun r5 =>
    (gR 6 2 r5.2 a0).bind fun v7 =>
    (lA 0 r5.2 v7 i3).bind fun v8 =>
    some ((((((2 : Int32)) * i3)) - v8), r5.2)
    else none
    else none
    else none
    else
    (gR 6 1 M a0).bind fun v9 =>
    (tA M v9 i4 ((0 : Int32))).bind fun M10 =>
    (gR 6 2 M10 a0).bind fun v11 =>
    (tA M10 v11 i4 ((0 : Int32))).bind fun M12 =>
    f_X0_far_29 n a0 i3 ((i4 + (1 : Int32))) M12
set_option maxRecDepth 20000 in
set_option maxHeartbeats 4000000 in
theorem s_X0_far_29 {L : zL} {X : zX} {M0 : zM} {N : Nat × Nat} {Q : State → Prop} {r : Int32 × zM} (hq : vQ L X M0 N Q (some (.int r.1)) r.2) {n : Nat} {a0 : Nat} {i3 : Int32} {i4 : Int32} {M : zM} : f_X0_far_29 n a0 i3 i4 M = some r → V L X yX0_far cX0_far 5 (some FieldType.int) 68 M0 N Q M 29 [(0, .ref (zad L (a0))), (3, .int (i3)), (4, .int (i4))] [] := by
  induction n generalizing a0 i3 i4 M with
  | zero =>
    intro h
    rw [f_X0_far_29] at h
    cases h
  | succ n ih0 =>
    intro h
    have ih : ∀ (a0 : Nat) (i3 : Int32) (i4 : Int32) (M : zM), f_X0_far_29 n a0 i3 i4 M = some r → V L X yX0_far cX0_far 5 (some FieldType.int) 68 M0 N Q M 29 [(0, .ref (zad L (a0))), (3, .int (i3)), (4, .int (i4))] [] := fun a0 i3 i4 M h => ih0 h
    rw [f_X0_far_29] at h
    refine V_iload dX0_far_29 2 rfl ?_
    refine V_iconst (v := 3) dX0_far_31 (by decide) ?_
    refine V_icmp_gt (tgt := 57) dX0_far_32 (by decide) (fun c13 => ?_) (fun c13 => ?_)
    · replace h := (oi h).1 c13
      refine V_aload_n dX0_far_57 rfl 0 rfl ?_
      refine V_iconst (v := 0) dX0_far_58 (by decide) ?_
      refine V_bipush (v := 9) dX0_far_59 (by decide) ?_
      refine V_iload_n dX0_far_61 rfl 1 rfl ?_
      replace h := ox h
      obtain ⟨c2, h⟩ := h
      replace h := ob h
      obtain ⟨r1, e_r1, h⟩ := h
      refine V_callV_V (As := [.int ((0 : Int32)), .int ((9 : Int32)), .int (i3)]) (rest := []) (c_X0_join e_r1) zc_X0_join rfl (by decide) rfl (by decide) (Or.inl c2) zm_X0_39 (Nat.le_of_ble_eq_true rfl) rfl dX0_far_62 ?_
      refine V_pc (pc' := 65) rfl ?_
      refine V_aload_n dX0_far_65 rfl 0 rfl ?_
      refine V_bipush (v := 9) dX0_far_66 (by decide) ?_
      refine V_bipush (v := 18) dX0_far_68 (by decide) ?_
      refine V_iload_n dX0_far_70 rfl 1 rfl ?_
      replace h := ox h
      obtain ⟨c4, h⟩ := h
      replace h := ob h
      obtain ⟨r3, e_r3, h⟩ := h
      refine V_callV_V (As := [.int ((9 : Int32)), .int ((18 : Int32)), .int (i3)]) (rest := []) (c_X0_join e_r3) zc_X0_join rfl (by decide) rfl (by decide) (Or.inl c4) zm_X0_39 (Nat.le_of_ble_eq_true rfl) rfl dX0_far_71 ?_
      refine V_pc (pc' := 74) rfl ?_
      refine V_aload_n dX0_far_74 rfl 0 rfl ?_
      refine V_bipush (v := 18) dX0_far_75 (by decide) ?_
      refine V_bipush (v := 25) dX0_far_77 (by decide) ?_
      refine V_iload_n dX0_far_79 rfl 1 rfl ?_
      replace h := ox h
      obtain ⟨c6, h⟩ := h
      replace h := ob h
      obtain ⟨r5, e_r5, h⟩ := h
      refine V_callV_V (As := [.int ((18 : Int32)), .int ((25 : Int32)), .int (i3)]) (rest := []) (c_X0_join e_r5) zc_X0_join rfl (by decide) rfl (by decide) (Or.inl c6) zm_X0_39 (Nat.le_of_ble_eq_true rfl) rfl dX0_far_80 ?_
      refine V_pc (pc' := 83) rfl ?_
      refine V_iconst (v := 2) dX0_far_83 (by decide) ?_
      refine V_iload_n dX0_far_84 rfl 1 rfl ?_
      refine V_imul dX0_far_85 ?_
      refine V_aload_n dX0_far_86 rfl 0 rfl ?_
      replace h := ob h
      obtain ⟨v7, e_v7, h⟩ := h
      refine V_getR zf_6_2 zl_X0_18 e_v7 dX0_far_87 ?_
      refine V_pc (pc' := 90) rfl ?_
      refine V_iload_n dX0_far_90 rfl 1 rfl ?_
      replace h := ob h
      obtain ⟨v8, e_v8, h⟩ := h
      refine V_iald e_v8 dX0_far_91 ?_
      refine V_pc (pc' := 92) rfl ?_
      refine V_isub dX0_far_92 ?_
      obtain rfl := Option.some.inj h
      exact V_iret rfl hq dX0_far_93
    · replace h := (oi h).2 c13
      refine V_aload_n dX0_far_35 rfl 0 rfl ?_
      replace h := ob h
      obtain ⟨v9, e_v9, h⟩ := h
      refine V_getR zf_6_1 zl_X0_15 e_v9 dX0_far_36 ?_
      refine V_pc (pc' := 39) rfl ?_
      refine V_iload dX0_far_39 2 rfl ?_
      refine V_iconst (v := 0) dX0_far_41 (by decide) ?_
      replace h := ob h
      obtain ⟨M10, e_M10, h⟩ := h
      refine V_iast e_M10 dX0_far_42 ?_
      refine V_aload_n dX0_far_43 rfl 0 rfl ?_
      replace h := ob h
      obtain ⟨v11, e_v11, h⟩ := h
      refine V_getR zf_6_2 zl_X0_18 e_v11 dX0_far_44 ?_
      refine V_pc (pc' := 47) rfl ?_
      refine V_iload dX0_far_47 2 rfl ?_
      refine V_iconst (v := 0) dX0_far_49 (by decide) ?_
      replace h := ob h
      obtain ⟨M12, e_M12, h⟩ := h
      refine V_iast e_M12 dX0_far_50 ?_
      refine V_iinc (v := i4 + (1 : Int32)) (ls' := [(4, .int ((i4 + (1 : Int32)))), (0, .ref (zad L (a0))), (3, .int (i3))]) dX0_far_51 2 rfl (by rfl) (by decide) rfl ?_
      refine V_goto (tgt := 29) dX0_far_54 (by decide) ?_
      refine V_sub [1, 2, 0] rfl ?_
      exact ih _ _ _ _ h
def f_X0_far_20 (a0 : Nat) (a1 : Nat) (i_0 : Int32) (M : zM) : Option (Int32 × zM) :=
  if mK M a0 = 6 then
  (f_X0_copy a0 a1 M).bind fun r1 =>
  f_X0_far_29 zN a0 i_0 ((0 : Int32)) r1.2
  else none
set_option maxRecDepth 20000 in
set_option maxHeartbeats 4000000 in
theorem s_X0_far_20 {L : zL} {X : zX} {M0 : zM} {N : Nat × Nat} {Q : State → Prop} {r : Int32 × zM} (hq : vQ L X M0 N Q (some (.int r.1)) r.2) {a0 : Nat} {a1 : Nat} {i_0 : Int32} {M : zM} (h : f_X0_far_20 a0 a1 i_0 M = some r) : V L X yX0_far cX0_far 5 (some FieldType.int) 68 M0 N Q M 20 [(0, .ref (zad L (a0))), (1, .ref (zad L (a1)))] [.int (i_0)] := by
  unfold f_X0_far_20 at h
  refine V_istore_n (ls' := [(3, .int (i_0)), (0, .ref (zad L (a0))), (1, .ref (zad L (a1)))]) dX0_far_20 rfl (by decide) rfl ?_
  refine V_aload_n dX0_far_21 rfl 1 rfl ?_
  refine V_aload_n dX0_far_22 rfl 2 rfl ?_
  replace h := ox h
  obtain ⟨c2, h⟩ := h
  replace h := ob h
  obtain ⟨r1, e_r1, h⟩ := h
  refine V_callV_V (As := [.ref (zad L (a1))]) (rest := []) (c_X0_copy e_r1) zc_X0_copy rfl (by decide) rfl (by decide) (Or.inl c2) zm_X0_27 (Nat.le_of_ble_eq_true rfl) rfl dX0_far_23 ?_
  refine V_pc (pc' := 26) rfl ?_
  refine V_iconst (v := 0) dX0_far_26 (by decide) ?_
  refine V_istore (ls' := [(4, .int ((0 : Int32))), (3, .int (i_0)), (0, .ref (zad L (a0))), (1, .ref (zad L (a1)))]) dX0_far_27 (by decide) rfl ?_
  refine V_sub [2, 1, 0] rfl ?_
  exact s_X0_far_29 hq h
def f_X0_far_0 (a0 : Nat) (a1 : Nat) (i2 : Int32) (M : zM) : Option (Int32 × zM) :=
  if 0 ≤ i2 then
  if i2 ≤ ((3 : Int32)) then
  f_X0_far_20 a0 a1 ((((3 : Int32)) - i2)) M
  else
  f_X0_far_20 a0 a1 ((0 : Int32)) M
  else
  f_X0_far_20 a0 a1 ((3 : Int32)) M
set_option maxRecDepth 20000 in
set_option maxHeartbeats 4000000 in
theorem s_X0_far_0 {L : zL} {X : zX} {M0 : zM} {N : Nat × Nat} {Q : State → Prop} {r : Int32 × zM} (hq : vQ L X M0 N Q (some (.int r.1)) r.2) {a0 : Nat} {a1 : Nat} {i2 : Int32} {M : zM} (h : f_X0_far_0 a0 a1 i2 M = some r) : V L X yX0_far cX0_far 5 (some FieldType.int) 68 M0 N Q M 0 [(0, .ref (zad L (a0))), (1, .ref (zad L (a1))), (2, .int (i2))] [] := by
  unfold f_X0_far_0 at h
  refine V_iload_n dX0_far_0 rfl 2 rfl ?_
  refine V_if_ge (tgt := 8) dX0_far_1 (by decide) (fun c2 => ?_) (fun c2 => ?_)
  · replace h := (oi h).1 c2
    refine V_iload_n dX0_far_8 rfl 2 rfl ?_
    refine V_iconst (v := 3) dX0_far_9 (by decide) ?_
    refine V_icmp_le (tgt := 17) dX0_far_10 (by decide) (fun c1 => ?_) (fun c1 => ?_)
    · replace h := (oi h).1 c1
      refine V_iconst (v := 3) dX0_far_17 (by decide) ?_
      refine V_iload_n dX0_far_18 rfl 2 rfl ?_
      refine V_isub dX0_far_19 ?_
      refine V_sub [0, 1] rfl ?_
      exact s_X0_far_20 hq h
    · replace h := (oi h).2 c1
      refine V_iconst (v := 0) dX0_far_13 (by decide) ?_
      refine V_goto (tgt := 20) dX0_far_14 (by decide) ?_
      refine V_sub [0, 1] rfl ?_
      exact s_X0_far_20 hq h
  · replace h := (oi h).2 c2
    refine V_iconst (v := 3) dX0_far_4 (by decide) ?_
    refine V_goto (tgt := 20) dX0_far_5 (by decide) ?_
    refine V_sub [0, 1] rfl ?_
    exact s_X0_far_20 hq h
def f_X0_far (a0 : Nat) (a1 : Nat) (i2 : Int32) (M : zM) : Option (Int32 × zM) := f_X0_far_0 a0 a1 i2 M
theorem c_X0_far {L : zL} {l : Launch} {a0 : Nat} {a1 : Nat} {i2 : Int32} {M : zM} {r : Int32 × zM} (h : f_X0_far a0 a1 i2 M = some r) : CP L l yX0_far cX0_far 5 (some FieldType.int) 68 M [.ref (zad L (a0)), .ref (zad L (a1)), .int (i2)] (some (.int r.1)) r.2 :=
  CP.of ⟨by decide +kernel, by decide +kernel⟩ (Nat.le_of_ble_eq_true rfl) fun X Q hq => s_X0_far_0 hq h
/-! Windsparlour$Valuing.<init>()V -/
theorem dX2_init_0 : decode cX2_init 0 = .ok (.aload_n 0, 1) := by decide +kernel
theorem dX2_init_1 : decode cX2_init 1 = .ok (.invokespecial 3, 3) := by decide +kernel
theorem dX2_init_4 : decode cX2_init 4 = .ok (.aload_n 0, 1) := by decide +kernel
theorem dX2_init_5 : decode cX2_init 5 = .ok (.bipush 25, 2) := by decide +kernel
theorem dX2_init_7 : decode cX2_init 7 = .ok (.newarray .int, 2) := by decide +kernel
theorem dX2_init_9 : decode cX2_init 9 = .ok (.putfield 9, 3) := by decide +kernel
theorem dX2_init_12 : decode cX2_init 12 = .ok (.return_, 1) := by decide +kernel
def f_X2_init_0 (a0 : Nat) (M : zM) : Option (Unit × zM) :=
  (aA 0 M ((25 : Int32))).bind fun r1 =>
  (pR 8 0 r1.2 a0 r1.1).bind fun M2 =>
  some ((), M2)
set_option maxRecDepth 20000 in
set_option maxHeartbeats 4000000 in
theorem s_X2_init_0 {L : zL} {X : zX} {M0 : zM} {N : Nat × Nat} {Q : State → Prop} {r : Unit × zM} (hq : vQ L X M0 N Q none r.2) {a0 : Nat} {M : zM} (h : f_X2_init_0 a0 M = some r) : V L X yX2_init cX2_init 1 (none : Option FieldType) 1 M0 N Q M 0 [(0, .ref (zad L (a0)))] [] := by
  unfold f_X2_init_0 at h
  refine V_aload_n dX2_init_0 rfl 0 rfl ?_
  refine V_objInit zo_X2_3 (by decide) (Nat.le_of_ble_eq_true rfl) dX2_init_1 ?_
  refine V_aload_n dX2_init_4 rfl 0 rfl ?_
  refine V_bipush (v := 25) dX2_init_5 (by decide) ?_
  replace h := ob h
  obtain ⟨r1, e_r1, h⟩ := h
  refine V_newa (t := 0) (by decide) rfl zna_0 e_r1 dX2_init_7 ?_
  refine V_pc (pc' := 9) rfl ?_
  replace h := ob h
  obtain ⟨M2, e_M2, h⟩ := h
  refine V_putR zf_8_0 zl_X2_9 (Or.inr ⟨rfl, rfl, rfl⟩) rfl e_M2 dX2_init_9 ?_
  refine V_pc (pc' := 12) rfl ?_
  obtain rfl := Option.some.inj h
  exact V_vret rfl hq dX2_init_12
def f_X2_init (a0 : Nat) (M : zM) : Option (Unit × zM) := f_X2_init_0 a0 M
theorem c_X2_init {L : zL} {l : Launch} {a0 : Nat} {M : zM} {r : Unit × zM} (h : f_X2_init a0 M = some r) : CP L l yX2_init cX2_init 1 (none : Option FieldType) 1 M [.ref (zad L (a0))] none r.2 :=
  CP.of ⟨by decide +kernel, by decide +kernel⟩ (Nat.le_of_ble_eq_true rfl) fun X Q hq => s_X2_init_0 hq h
/-! Windsparlour$Valuing.gather(LWindsparlour$Seat;)V -/
theorem dX2_gather_0 : decode cX2_gather 0 = .ok (.iconst 0, 1) := by decide +kernel
theorem dX2_gather_1 : decode cX2_gather 1 = .ok (.istore_n 2, 1) := by decide +kernel
theorem dX2_gather_2 : decode cX2_gather 2 = .ok (.iload_n 2, 1) := by decide +kernel
theorem dX2_gather_3 : decode cX2_gather 3 = .ok (.bipush 25, 2) := by decide +kernel
theorem dX2_gather_5 : decode cX2_gather 5 = .ok (.if_icmp .ge 26, 3) := by decide +kernel
theorem dX2_gather_8 : decode cX2_gather 8 = .ok (.aload_n 0, 1) := by decide +kernel
theorem dX2_gather_9 : decode cX2_gather 9 = .ok (.getfield 9, 3) := by decide +kernel
theorem dX2_gather_12 : decode cX2_gather 12 = .ok (.iload_n 2, 1) := by decide +kernel
theorem dX2_gather_13 : decode cX2_gather 13 = .ok (.aload_n 1, 1) := by decide +kernel
theorem dX2_gather_14 : decode cX2_gather 14 = .ok (.iload_n 2, 1) := by decide +kernel
theorem dX2_gather_15 : decode cX2_gather 15 = .ok (.invokevirtual 50, 3) := by decide +kernel
theorem dX2_gather_18 : decode cX2_gather 18 = .ok (.aload_n 1, 1) := by decide +kernel
theorem dX2_gather_19 : decode cX2_gather 19 = .ok (.iload_n 2, 1) := by decide +kernel
theorem dX2_gather_20 : decode cX2_gather 20 = .ok (.invokevirtual 53, 3) := by decide +kernel
theorem dX2_gather_23 : decode cX2_gather 23 = .ok (.iadd, 1) := by decide +kernel
theorem dX2_gather_24 : decode cX2_gather 24 = .ok (.iastore, 1) := by decide +kernel
theorem dX2_gather_25 : decode cX2_gather 25 = .ok (.iinc 2 1, 3) := by decide +kernel
theorem dX2_gather_28 : decode cX2_gather 28 = .ok (.goto (-26), 3) := by decide +kernel
theorem dX2_gather_31 : decode cX2_gather 31 = .ok (.return_, 1) := by decide +kernel
def f_X2_gather_2 (n : Nat) (a0 : Nat) (a1 : Nat) (i2 : Int32) (M : zM) : Option (Unit × zM) := match n with
  | 0 => none
  | n + 1 =>
    if ((25 : Int32)) ≤ i2 then
    some ((), M)
    else
    (gR 8 0 M a0).bind fun v1 =>
    if mK M a1 = 7 then
    (f_X1_count a1 i2 M).bind fun r2 =>
    if mK r2.2 a1 = 7 then
    (f_X1_inSets a1 i2 r2.2).bind fun r4 =>
    (tA r4.2 v1 i2 ((r2.1 + r4.1))).bind fun M6 =>
    f_X2_gather_2 n a0 a1 ((i2 + (1 : Int32))) M6
    else none
    else none
set_option maxRecDepth 20000 in
set_option maxHeartbeats 4000000 in
theorem s_X2_gather_2 {L : zL} {X : zX} {M0 : zM} {N : Nat × Nat} {Q : State → Prop} {r : Unit × zM} (hq : vQ L X M0 N Q none r.2) {n : Nat} {a0 : Nat} {a1 : Nat} {i2 : Int32} {M : zM} : f_X2_gather_2 n a0 a1 i2 M = some r → V L X yX2_gather cX2_gather 3 (none : Option FieldType) 3 M0 N Q M 2 [(0, .ref (zad L (a0))), (1, .ref (zad L (a1))), (2, .int (i2))] [] := by
  induction n generalizing a0 a1 i2 M with
  | zero =>
    intro h
    rw [f_X2_gather_2] at h
    cases h
  | succ n ih0 =>
    intro h
    have ih : ∀ (a0 : Nat) (a1 : Nat) (i2 : Int32) (M : zM), f_X2_gather_2 n a0 a1 i2 M = some r → V L X yX2_gather cX2_gather 3 (none : Option FieldType) 3 M0 N Q M 2 [(0, .ref (zad L (a0))), (1, .ref (zad L (a1))), (2, .int (i2))] [] := fun a0 a1 i2 M h => ih0 h
    rw [f_X2_gather_2] at h
    refine V_iload_n dX2_gather_2 rfl 2 rfl ?_
    refine V_bipush (v := 25) dX2_gather_3 (by decide) ?_
    refine V_icmp_ge (tgt := 31) dX2_gather_5 (by decide) (fun c7 => ?_) (fun c7 => ?_)
    · replace h := (oi h).1 c7
      obtain rfl := Option.some.inj h
      exact V_vret rfl hq dX2_gather_31
    · replace h := (oi h).2 c7
      refine V_aload_n dX2_gather_8 rfl 0 rfl ?_
      replace h := ob h
      obtain ⟨v1, e_v1, h⟩ := h
      refine V_getR zf_8_0 zl_X2_9 e_v1 dX2_gather_9 ?_
      refine V_pc (pc' := 12) rfl ?_
      refine V_iload_n dX2_gather_12 rfl 2 rfl ?_
      refine V_aload_n dX2_gather_13 rfl 1 rfl ?_
      refine V_iload_n dX2_gather_14 rfl 2 rfl ?_
      replace h := ox h
      obtain ⟨c3, h⟩ := h
      replace h := ob h
      obtain ⟨r2, e_r2, h⟩ := h
      refine V_callV_I (As := [.int (i2)]) (rest := [.int (i2), .ref (zad L (v1))]) (c_X1_count e_r2) zc_X1_count rfl (by decide) rfl (by decide) (Or.inl c3) zm_X2_50 (Nat.le_of_ble_eq_true rfl) rfl dX2_gather_15 ?_
      refine V_pc (pc' := 18) rfl ?_
      refine V_aload_n dX2_gather_18 rfl 1 rfl ?_
      refine V_iload_n dX2_gather_19 rfl 2 rfl ?_
      replace h := ox h
      obtain ⟨c5, h⟩ := h
      replace h := ob h
      obtain ⟨r4, e_r4, h⟩ := h
      refine V_callV_I (As := [.int (i2)]) (rest := [.int (r2.1), .int (i2), .ref (zad L (v1))]) (c_X1_inSets e_r4) zc_X1_inSets rfl (by decide) rfl (by decide) (Or.inl c5) zm_X2_53 (Nat.le_of_ble_eq_true rfl) rfl dX2_gather_20 ?_
      refine V_pc (pc' := 23) rfl ?_
      refine V_iadd dX2_gather_23 ?_
      replace h := ob h
      obtain ⟨M6, e_M6, h⟩ := h
      refine V_iast e_M6 dX2_gather_24 ?_
      refine V_iinc (v := i2 + (1 : Int32)) (ls' := [(2, .int ((i2 + (1 : Int32)))), (0, .ref (zad L (a0))), (1, .ref (zad L (a1)))]) dX2_gather_25 2 rfl (by rfl) (by decide) rfl ?_
      refine V_goto (tgt := 2) dX2_gather_28 (by decide) ?_
      refine V_sub [1, 2, 0] rfl ?_
      exact ih _ _ _ _ h
def f_X2_gather_0 (a0 : Nat) (a1 : Nat) (M : zM) : Option (Unit × zM) :=
  f_X2_gather_2 zN a0 a1 ((0 : Int32)) M
set_option maxRecDepth 20000 in
set_option maxHeartbeats 4000000 in
theorem s_X2_gather_0 {L : zL} {X : zX} {M0 : zM} {N : Nat × Nat} {Q : State → Prop} {r : Unit × zM} (hq : vQ L X M0 N Q none r.2) {a0 : Nat} {a1 : Nat} {M : zM} (h : f_X2_gather_0 a0 a1 M = some r) : V L X yX2_gather cX2_gather 3 (none : Option FieldType) 3 M0 N Q M 0 [(0, .ref (zad L (a0))), (1, .ref (zad L (a1)))] [] := by
  unfold f_X2_gather_0 at h
  refine V_iconst (v := 0) dX2_gather_0 (by decide) ?_
  refine V_istore_n (ls' := [(2, .int ((0 : Int32))), (0, .ref (zad L (a0))), (1, .ref (zad L (a1)))]) dX2_gather_1 rfl (by decide) rfl ?_
  refine V_sub [1, 2, 0] rfl ?_
  exact s_X2_gather_2 hq h
def f_X2_gather (a0 : Nat) (a1 : Nat) (M : zM) : Option (Unit × zM) := f_X2_gather_0 a0 a1 M
theorem c_X2_gather {L : zL} {l : Launch} {a0 : Nat} {a1 : Nat} {M : zM} {r : Unit × zM} (h : f_X2_gather a0 a1 M = some r) : CP L l yX2_gather cX2_gather 3 (none : Option FieldType) 3 M [.ref (zad L (a0)), .ref (zad L (a1))] none r.2 :=
  CP.of ⟨by decide +kernel, by decide +kernel⟩ (Nat.le_of_ble_eq_true rfl) fun X Q hq => s_X2_gather_0 hq h
/-! Windsparlour$Valuing.anyOf(II)Z -/
theorem dX2_anyOf_0 : decode cX2_anyOf 0 = .ok (.iload_n 1, 1) := by decide +kernel
theorem dX2_anyOf_1 : decode cX2_anyOf 1 = .ok (.istore_n 3, 1) := by decide +kernel
theorem dX2_anyOf_2 : decode cX2_anyOf 2 = .ok (.iload_n 3, 1) := by decide +kernel
theorem dX2_anyOf_3 : decode cX2_anyOf 3 = .ok (.ifCond .lt 31, 3) := by decide +kernel
theorem dX2_anyOf_6 : decode cX2_anyOf 6 = .ok (.iload_n 3, 1) := by decide +kernel
theorem dX2_anyOf_7 : decode cX2_anyOf 7 = .ok (.iload_n 2, 1) := by decide +kernel
theorem dX2_anyOf_8 : decode cX2_anyOf 8 = .ok (.if_icmp .ge 26, 3) := by decide +kernel
theorem dX2_anyOf_11 : decode cX2_anyOf 11 = .ok (.iload_n 3, 1) := by decide +kernel
theorem dX2_anyOf_12 : decode cX2_anyOf 12 = .ok (.bipush 25, 2) := by decide +kernel
theorem dX2_anyOf_14 : decode cX2_anyOf 14 = .ok (.if_icmp .ge 20, 3) := by decide +kernel
theorem dX2_anyOf_17 : decode cX2_anyOf 17 = .ok (.aload_n 0, 1) := by decide +kernel
theorem dX2_anyOf_18 : decode cX2_anyOf 18 = .ok (.getfield 9, 3) := by decide +kernel
theorem dX2_anyOf_21 : decode cX2_anyOf 21 = .ok (.iload_n 3, 1) := by decide +kernel
theorem dX2_anyOf_22 : decode cX2_anyOf 22 = .ok (.iaload, 1) := by decide +kernel
theorem dX2_anyOf_23 : decode cX2_anyOf 23 = .ok (.ifCond .le 5, 3) := by decide +kernel
theorem dX2_anyOf_26 : decode cX2_anyOf 26 = .ok (.iconst 1, 1) := by decide +kernel
theorem dX2_anyOf_27 : decode cX2_anyOf 27 = .ok (.ireturn, 1) := by decide +kernel
theorem dX2_anyOf_28 : decode cX2_anyOf 28 = .ok (.iinc 3 1, 3) := by decide +kernel
theorem dX2_anyOf_31 : decode cX2_anyOf 31 = .ok (.goto (-29), 3) := by decide +kernel
theorem dX2_anyOf_34 : decode cX2_anyOf 34 = .ok (.iconst 0, 1) := by decide +kernel
theorem dX2_anyOf_35 : decode cX2_anyOf 35 = .ok (.ireturn, 1) := by decide +kernel
def f_X2_anyOf_2 (n : Nat) (a0 : Nat) (i2 : Int32) (i3 : Int32) (M : zM) : Option (Int32 × zM) := match n with
  | 0 => none
  | n + 1 =>
    if i3 < 0 then
    some ((0 : Int32), M)
    else
    if i2 ≤ i3 then
    some ((0 : Int32), M)
    else
    if ((25 : Int32)) ≤ i3 then
    some ((0 : Int32), M)
    else
    (gR 8 0 M a0).bind fun v1 =>
    (lA 0 M v1 i3).bind fun v2 =>
    if v2 ≤ 0 then
    f_X2_anyOf_2 n a0 i2 ((i3 + (1 : Int32))) M
    else
    some ((1 : Int32), M)
set_option maxRecDepth 20000 in
set_option maxHeartbeats 4000000 in
theorem s_X2_anyOf_2 {L : zL} {X : zX} {M0 : zM} {N : Nat × Nat} {Q : State → Prop} {r : Int32 × zM} (hq : vQ L X M0 N Q (some (.int r.1)) r.2) {n : Nat} {a0 : Nat} {i2 : Int32} {i3 : Int32} {M : zM} : f_X2_anyOf_2 n a0 i2 i3 M = some r → V L X yX2_anyOf cX2_anyOf 4 (some FieldType.boolean) 1 M0 N Q M 2 [(0, .ref (zad L (a0))), (2, .int (i2)), (3, .int (i3))] [] := by
  induction n generalizing a0 i2 i3 M with
  | zero =>
    intro h
    rw [f_X2_anyOf_2] at h
    cases h
  | succ n ih0 =>
    intro h
    have ih : ∀ (a0 : Nat) (i2 : Int32) (i3 : Int32) (M : zM), f_X2_anyOf_2 n a0 i2 i3 M = some r → V L X yX2_anyOf cX2_anyOf 4 (some FieldType.boolean) 1 M0 N Q M 2 [(0, .ref (zad L (a0))), (2, .int (i2)), (3, .int (i3))] [] := fun a0 i2 i3 M h => ih0 h
    rw [f_X2_anyOf_2] at h
    refine V_iload_n dX2_anyOf_2 rfl 2 rfl ?_
    refine V_if_lt (tgt := 34) dX2_anyOf_3 (by decide) (fun c6 => ?_) (fun c6 => ?_)
    · replace h := (oi h).1 c6
      refine V_iconst (v := 0) dX2_anyOf_34 (by decide) ?_
      obtain rfl := Option.some.inj h
      exact V_zret (ty := .boolean) rfl rfl hq dX2_anyOf_35
    · replace h := (oi h).2 c6
      refine V_iload_n dX2_anyOf_6 rfl 2 rfl ?_
      refine V_iload_n dX2_anyOf_7 rfl 1 rfl ?_
      refine V_icmp_ge (tgt := 34) dX2_anyOf_8 (by decide) (fun c5 => ?_) (fun c5 => ?_)
      · replace h := (oi h).1 c5
        refine V_iconst (v := 0) dX2_anyOf_34 (by decide) ?_
        obtain rfl := Option.some.inj h
        exact V_zret (ty := .boolean) rfl rfl hq dX2_anyOf_35
      · replace h := (oi h).2 c5
        refine V_iload_n dX2_anyOf_11 rfl 2 rfl ?_
        refine V_bipush (v := 25) dX2_anyOf_12 (by decide) ?_
        refine V_icmp_ge (tgt := 34) dX2_anyOf_14 (by decide) (fun c4 => ?_) (fun c4 => ?_)
        · replace h := (oi h).1 c4
          refine V_iconst (v := 0) dX2_anyOf_34 (by decide) ?_
          obtain rfl := Option.some.inj h
          exact V_zret (ty := .boolean) rfl rfl hq dX2_anyOf_35
        · replace h := (oi h).2 c4
          refine V_aload_n dX2_anyOf_17 rfl 0 rfl ?_
          replace h := ob h
          obtain ⟨v1, e_v1, h⟩ := h
          refine V_getR zf_8_0 zl_X2_9 e_v1 dX2_anyOf_18 ?_
          refine V_pc (pc' := 21) rfl ?_
          refine V_iload_n dX2_anyOf_21 rfl 2 rfl ?_
          replace h := ob h
          obtain ⟨v2, e_v2, h⟩ := h
          refine V_iald e_v2 dX2_anyOf_22 ?_
          refine V_pc (pc' := 23) rfl ?_
          refine V_if_le (tgt := 28) dX2_anyOf_23 (by decide) (fun c3 => ?_) (fun c3 => ?_)
          · replace h := (oi h).1 c3
            refine V_iinc (v := i3 + (1 : Int32)) (ls' := [(3, .int ((i3 + (1 : Int32)))), (0, .ref (zad L (a0))), (2, .int (i2))]) dX2_anyOf_28 2 rfl (by rfl) (by decide) rfl ?_
            refine V_goto (tgt := 2) dX2_anyOf_31 (by decide) ?_
            refine V_sub [1, 2, 0] rfl ?_
            exact ih _ _ _ _ h
          · replace h := (oi h).2 c3
            refine V_iconst (v := 1) dX2_anyOf_26 (by decide) ?_
            obtain rfl := Option.some.inj h
            exact V_zret (ty := .boolean) rfl rfl hq dX2_anyOf_27
def f_X2_anyOf_0 (a0 : Nat) (i1 : Int32) (i2 : Int32) (M : zM) : Option (Int32 × zM) :=
  f_X2_anyOf_2 zN a0 i2 i1 M
set_option maxRecDepth 20000 in
set_option maxHeartbeats 4000000 in
theorem s_X2_anyOf_0 {L : zL} {X : zX} {M0 : zM} {N : Nat × Nat} {Q : State → Prop} {r : Int32 × zM} (hq : vQ L X M0 N Q (some (.int r.1)) r.2) {a0 : Nat} {i1 : Int32} {i2 : Int32} {M : zM} (h : f_X2_anyOf_0 a0 i1 i2 M = some r) : V L X yX2_anyOf cX2_anyOf 4 (some FieldType.boolean) 1 M0 N Q M 0 [(0, .ref (zad L (a0))), (1, .int (i1)), (2, .int (i2))] [] := by
  unfold f_X2_anyOf_0 at h
  refine V_iload_n dX2_anyOf_0 rfl 1 rfl ?_
  refine V_istore_n (ls' := [(3, .int (i1)), (0, .ref (zad L (a0))), (1, .int (i1)), (2, .int (i2))]) dX2_anyOf_1 rfl (by decide) rfl ?_
  refine V_sub [1, 3, 0] rfl ?_
  exact s_X2_anyOf_2 hq h
def f_X2_anyOf (a0 : Nat) (i1 : Int32) (i2 : Int32) (M : zM) : Option (Int32 × zM) := f_X2_anyOf_0 a0 i1 i2 M
theorem c_X2_anyOf {L : zL} {l : Launch} {a0 : Nat} {i1 : Int32} {i2 : Int32} {M : zM} {r : Int32 × zM} (h : f_X2_anyOf a0 i1 i2 M = some r) : CP L l yX2_anyOf cX2_anyOf 4 (some FieldType.boolean) 1 M [.ref (zad L (a0)), .int (i1), .int (i2)] (some (.int r.1)) r.2 :=
  CP.of ⟨by decide +kernel, by decide +kernel⟩ (Nat.le_of_ble_eq_true rfl) fun X Q hq => s_X2_anyOf_0 hq h
/-! Windsparlour$Valuing.ofOneSuit()I -/
theorem dX2_ofOneSuit_0 : decode cX2_ofOneSuit 0 = .ok (.aload_n 0, 1) := by decide +kernel
theorem dX2_ofOneSuit_1 : decode cX2_ofOneSuit 1 = .ok (.iconst 0, 1) := by decide +kernel
theorem dX2_ofOneSuit_2 : decode cX2_ofOneSuit 2 = .ok (.bipush 9, 2) := by decide +kernel
theorem dX2_ofOneSuit_4 : decode cX2_ofOneSuit 4 = .ok (.invokevirtual 59, 3) := by decide +kernel
theorem dX2_ofOneSuit_7 : decode cX2_ofOneSuit 7 = .ok (.istore_n 1, 1) := by decide +kernel
theorem dX2_ofOneSuit_8 : decode cX2_ofOneSuit 8 = .ok (.aload_n 0, 1) := by decide +kernel
theorem dX2_ofOneSuit_9 : decode cX2_ofOneSuit 9 = .ok (.bipush 9, 2) := by decide +kernel
theorem dX2_ofOneSuit_11 : decode cX2_ofOneSuit 11 = .ok (.bipush 18, 2) := by decide +kernel
theorem dX2_ofOneSuit_13 : decode cX2_ofOneSuit 13 = .ok (.invokevirtual 59, 3) := by decide +kernel
theorem dX2_ofOneSuit_16 : decode cX2_ofOneSuit 16 = .ok (.istore_n 2, 1) := by decide +kernel
theorem dX2_ofOneSuit_17 : decode cX2_ofOneSuit 17 = .ok (.iload_n 1, 1) := by decide +kernel
theorem dX2_ofOneSuit_18 : decode cX2_ofOneSuit 18 = .ok (.iload_n 2, 1) := by decide +kernel
theorem dX2_ofOneSuit_19 : decode cX2_ofOneSuit 19 = .ok (.if_icmp .ne 5, 3) := by decide +kernel
theorem dX2_ofOneSuit_22 : decode cX2_ofOneSuit 22 = .ok (.iconst 0, 1) := by decide +kernel
theorem dX2_ofOneSuit_23 : decode cX2_ofOneSuit 23 = .ok (.ireturn, 1) := by decide +kernel
theorem dX2_ofOneSuit_24 : decode cX2_ofOneSuit 24 = .ok (.aload_n 0, 1) := by decide +kernel
theorem dX2_ofOneSuit_25 : decode cX2_ofOneSuit 25 = .ok (.bipush 18, 2) := by decide +kernel
theorem dX2_ofOneSuit_27 : decode cX2_ofOneSuit 27 = .ok (.bipush 25, 2) := by decide +kernel
theorem dX2_ofOneSuit_29 : decode cX2_ofOneSuit 29 = .ok (.invokevirtual 59, 3) := by decide +kernel
theorem dX2_ofOneSuit_32 : decode cX2_ofOneSuit 32 = .ok (.ifCond .eq 7, 3) := by decide +kernel
theorem dX2_ofOneSuit_35 : decode cX2_ofOneSuit 35 = .ok (.iconst 2, 1) := by decide +kernel
theorem dX2_ofOneSuit_36 : decode cX2_ofOneSuit 36 = .ok (.goto 4, 3) := by decide +kernel
theorem dX2_ofOneSuit_39 : decode cX2_ofOneSuit 39 = .ok (.iconst 4, 1) := by decide +kernel
theorem dX2_ofOneSuit_40 : decode cX2_ofOneSuit 40 = .ok (.ireturn, 1) := by decide +kernel
def f_X2_ofOneSuit_0 (a0 : Nat) (M : zM) : Option (Int32 × zM) :=
  if mK M a0 = 8 then
  (f_X2_anyOf a0 ((0 : Int32)) ((9 : Int32)) M).bind fun r1 =>
  if mK r1.2 a0 = 8 then
  (f_X2_anyOf a0 ((9 : Int32)) ((18 : Int32)) r1.2).bind fun r3 =>
  if r1.1 = r3.1 then
  some ((0 : Int32), r3.2)
  else
  if mK r3.2 a0 = 8 then
  (f_X2_anyOf a0 ((18 : Int32)) ((25 : Int32)) r3.2).bind fun r5 =>
  if r5.1 = 0 then
  some ((4 : Int32), r5.2)
  else
  some ((2 : Int32), r5.2)
  else none
  else none
  else none
set_option maxRecDepth 20000 in
set_option maxHeartbeats 4000000 in
theorem s_X2_ofOneSuit_0 {L : zL} {X : zX} {M0 : zM} {N : Nat × Nat} {Q : State → Prop} {r : Int32 × zM} (hq : vQ L X M0 N Q (some (.int r.1)) r.2) {a0 : Nat} {M : zM} (h : f_X2_ofOneSuit_0 a0 M = some r) : V L X yX2_ofOneSuit cX2_ofOneSuit 3 (some FieldType.int) 2 M0 N Q M 0 [(0, .ref (zad L (a0)))] [] := by
  unfold f_X2_ofOneSuit_0 at h
  refine V_aload_n dX2_ofOneSuit_0 rfl 0 rfl ?_
  refine V_iconst (v := 0) dX2_ofOneSuit_1 (by decide) ?_
  refine V_bipush (v := 9) dX2_ofOneSuit_2 (by decide) ?_
  replace h := ox h
  obtain ⟨c2, h⟩ := h
  replace h := ob h
  obtain ⟨r1, e_r1, h⟩ := h
  refine V_callV_I (As := [.int ((0 : Int32)), .int ((9 : Int32))]) (rest := []) (c_X2_anyOf e_r1) zc_X2_anyOf rfl (by decide) rfl (by decide) (Or.inl c2) zm_X2_59 (Nat.le_of_ble_eq_true rfl) rfl dX2_ofOneSuit_4 ?_
  refine V_pc (pc' := 7) rfl ?_
  refine V_istore_n (ls' := [(1, .int (r1.1)), (0, .ref (zad L (a0)))]) dX2_ofOneSuit_7 rfl (by decide) rfl ?_
  refine V_aload_n dX2_ofOneSuit_8 rfl 1 rfl ?_
  refine V_bipush (v := 9) dX2_ofOneSuit_9 (by decide) ?_
  refine V_bipush (v := 18) dX2_ofOneSuit_11 (by decide) ?_
  replace h := ox h
  obtain ⟨c4, h⟩ := h
  replace h := ob h
  obtain ⟨r3, e_r3, h⟩ := h
  refine V_callV_I (As := [.int ((9 : Int32)), .int ((18 : Int32))]) (rest := []) (c_X2_anyOf e_r3) zc_X2_anyOf rfl (by decide) rfl (by decide) (Or.inl c4) zm_X2_59 (Nat.le_of_ble_eq_true rfl) rfl dX2_ofOneSuit_13 ?_
  refine V_pc (pc' := 16) rfl ?_
  refine V_istore_n (ls' := [(2, .int (r3.1)), (1, .int (r1.1)), (0, .ref (zad L (a0)))]) dX2_ofOneSuit_16 rfl (by decide) rfl ?_
  refine V_iload_n dX2_ofOneSuit_17 rfl 1 rfl ?_
  refine V_iload_n dX2_ofOneSuit_18 rfl 0 rfl ?_
  refine V_icmp_ne (tgt := 24) dX2_ofOneSuit_19 (by decide) (fun c8 => ?_) (fun c8 => ?_)
  · replace h := (oi h).2 c8
    refine V_aload_n dX2_ofOneSuit_24 rfl 2 rfl ?_
    refine V_bipush (v := 18) dX2_ofOneSuit_25 (by decide) ?_
    refine V_bipush (v := 25) dX2_ofOneSuit_27 (by decide) ?_
    replace h := ox h
    obtain ⟨c6, h⟩ := h
    replace h := ob h
    obtain ⟨r5, e_r5, h⟩ := h
    refine V_callV_I (As := [.int ((18 : Int32)), .int ((25 : Int32))]) (rest := []) (c_X2_anyOf e_r5) zc_X2_anyOf rfl (by decide) rfl (by decide) (Or.inl c6) zm_X2_59 (Nat.le_of_ble_eq_true rfl) rfl dX2_ofOneSuit_29 ?_
    refine V_pc (pc' := 32) rfl ?_
    refine V_if_eq (tgt := 39) dX2_ofOneSuit_32 (by decide) (fun c7 => ?_) (fun c7 => ?_)
    · replace h := (oi h).1 c7
      refine V_iconst (v := 4) dX2_ofOneSuit_39 (by decide) ?_
      obtain rfl := Option.some.inj h
      exact V_iret rfl hq dX2_ofOneSuit_40
    · replace h := (oi h).2 c7
      refine V_iconst (v := 2) dX2_ofOneSuit_35 (by decide) ?_
      refine V_goto (tgt := 40) dX2_ofOneSuit_36 (by decide) ?_
      obtain rfl := Option.some.inj h
      exact V_iret rfl hq dX2_ofOneSuit_40
  · replace h := (oi h).1 c8
    refine V_iconst (v := 0) dX2_ofOneSuit_22 (by decide) ?_
    obtain rfl := Option.some.inj h
    exact V_iret rfl hq dX2_ofOneSuit_23
def f_X2_ofOneSuit (a0 : Nat) (M : zM) : Option (Int32 × zM) := f_X2_ofOneSuit_0 a0 M
theorem c_X2_ofOneSuit {L : zL} {l : Launch} {a0 : Nat} {M : zM} {r : Int32 × zM} (h : f_X2_ofOneSuit a0 M = some r) : CP L l yX2_ofOneSuit cX2_ofOneSuit 3 (some FieldType.int) 2 M [.ref (zad L (a0))] (some (.int r.1)) r.2 :=
  CP.of ⟨by decide +kernel, by decide +kernel⟩ (Nat.le_of_ble_eq_true rfl) fun X Q hq => s_X2_ofOneSuit_0 hq h
/-! Windsparlour$Valuing.setOf(I)I -/
theorem dX2_setOf_0 : decode cX2_setOf 0 = .ok (.iload_n 1, 1) := by decide +kernel
theorem dX2_setOf_1 : decode cX2_setOf 1 = .ok (.bipush 18, 2) := by decide +kernel
theorem dX2_setOf_3 : decode cX2_setOf 3 = .ok (.if_icmp .lt 23, 3) := by decide +kernel
theorem dX2_setOf_6 : decode cX2_setOf 6 = .ok (.iload_n 1, 1) := by decide +kernel
theorem dX2_setOf_7 : decode cX2_setOf 7 = .ok (.bipush 25, 2) := by decide +kernel
theorem dX2_setOf_9 : decode cX2_setOf 9 = .ok (.if_icmp .ge 17, 3) := by decide +kernel
theorem dX2_setOf_12 : decode cX2_setOf 12 = .ok (.aload_n 0, 1) := by decide +kernel
theorem dX2_setOf_13 : decode cX2_setOf 13 = .ok (.getfield 9, 3) := by decide +kernel
theorem dX2_setOf_16 : decode cX2_setOf 16 = .ok (.iload_n 1, 1) := by decide +kernel
theorem dX2_setOf_17 : decode cX2_setOf 17 = .ok (.iaload, 1) := by decide +kernel
theorem dX2_setOf_18 : decode cX2_setOf 18 = .ok (.iconst 3, 1) := by decide +kernel
theorem dX2_setOf_19 : decode cX2_setOf 19 = .ok (.if_icmp .lt 7, 3) := by decide +kernel
theorem dX2_setOf_22 : decode cX2_setOf 22 = .ok (.iconst 1, 1) := by decide +kernel
theorem dX2_setOf_23 : decode cX2_setOf 23 = .ok (.goto 4, 3) := by decide +kernel
theorem dX2_setOf_26 : decode cX2_setOf 26 = .ok (.iconst 0, 1) := by decide +kernel
theorem dX2_setOf_27 : decode cX2_setOf 27 = .ok (.ireturn, 1) := by decide +kernel
def f_X2_setOf_0 (a0 : Nat) (i1 : Int32) (M : zM) : Option (Int32 × zM) :=
  if i1 < ((18 : Int32)) then
  some ((0 : Int32), M)
  else
  if ((25 : Int32)) ≤ i1 then
  some ((0 : Int32), M)
  else
  (gR 8 0 M a0).bind fun v1 =>
  (lA 0 M v1 i1).bind fun v2 =>
  if v2 < ((3 : Int32)) then
  some ((0 : Int32), M)
  else
  some ((1 : Int32), M)
set_option maxRecDepth 20000 in
set_option maxHeartbeats 4000000 in
theorem s_X2_setOf_0 {L : zL} {X : zX} {M0 : zM} {N : Nat × Nat} {Q : State → Prop} {r : Int32 × zM} (hq : vQ L X M0 N Q (some (.int r.1)) r.2) {a0 : Nat} {i1 : Int32} {M : zM} (h : f_X2_setOf_0 a0 i1 M = some r) : V L X yX2_setOf cX2_setOf 2 (some FieldType.int) 1 M0 N Q M 0 [(0, .ref (zad L (a0))), (1, .int (i1))] [] := by
  unfold f_X2_setOf_0 at h
  refine V_iload_n dX2_setOf_0 rfl 1 rfl ?_
  refine V_bipush (v := 18) dX2_setOf_1 (by decide) ?_
  refine V_icmp_lt (tgt := 26) dX2_setOf_3 (by decide) (fun c5 => ?_) (fun c5 => ?_)
  · replace h := (oi h).1 c5
    refine V_iconst (v := 0) dX2_setOf_26 (by decide) ?_
    obtain rfl := Option.some.inj h
    exact V_iret rfl hq dX2_setOf_27
  · replace h := (oi h).2 c5
    refine V_iload_n dX2_setOf_6 rfl 1 rfl ?_
    refine V_bipush (v := 25) dX2_setOf_7 (by decide) ?_
    refine V_icmp_ge (tgt := 26) dX2_setOf_9 (by decide) (fun c4 => ?_) (fun c4 => ?_)
    · replace h := (oi h).1 c4
      refine V_iconst (v := 0) dX2_setOf_26 (by decide) ?_
      obtain rfl := Option.some.inj h
      exact V_iret rfl hq dX2_setOf_27
    · replace h := (oi h).2 c4
      refine V_aload_n dX2_setOf_12 rfl 0 rfl ?_
      replace h := ob h
      obtain ⟨v1, e_v1, h⟩ := h
      refine V_getR zf_8_0 zl_X2_9 e_v1 dX2_setOf_13 ?_
      refine V_pc (pc' := 16) rfl ?_
      refine V_iload_n dX2_setOf_16 rfl 1 rfl ?_
      replace h := ob h
      obtain ⟨v2, e_v2, h⟩ := h
      refine V_iald e_v2 dX2_setOf_17 ?_
      refine V_pc (pc' := 18) rfl ?_
      refine V_iconst (v := 3) dX2_setOf_18 (by decide) ?_
      refine V_icmp_lt (tgt := 26) dX2_setOf_19 (by decide) (fun c3 => ?_) (fun c3 => ?_)
      · replace h := (oi h).1 c3
        refine V_iconst (v := 0) dX2_setOf_26 (by decide) ?_
        obtain rfl := Option.some.inj h
        exact V_iret rfl hq dX2_setOf_27
      · replace h := (oi h).2 c3
        refine V_iconst (v := 1) dX2_setOf_22 (by decide) ?_
        refine V_goto (tgt := 27) dX2_setOf_23 (by decide) ?_
        obtain rfl := Option.some.inj h
        exact V_iret rfl hq dX2_setOf_27
def f_X2_setOf (a0 : Nat) (i1 : Int32) (M : zM) : Option (Int32 × zM) := f_X2_setOf_0 a0 i1 M
theorem c_X2_setOf {L : zL} {l : Launch} {a0 : Nat} {i1 : Int32} {M : zM} {r : Int32 × zM} (h : f_X2_setOf a0 i1 M = some r) : CP L l yX2_setOf cX2_setOf 2 (some FieldType.int) 1 M [.ref (zad L (a0)), .int (i1)] (some (.int r.1)) r.2 :=
  CP.of ⟨by decide +kernel, by decide +kernel⟩ (Nat.le_of_ble_eq_true rfl) fun X Q hq => s_X2_setOf_0 hq h
/-! Windsparlour$Valuing.withoutEndsAndHonours()Z -/
theorem dX2_withoutEndsAndHonours_0 : decode cX2_withoutEndsAndHonours 0 = .ok (.iconst 0, 1) := by decide +kernel
theorem dX2_withoutEndsAndHonours_1 : decode cX2_withoutEndsAndHonours 1 = .ok (.istore_n 1, 1) := by decide +kernel
theorem dX2_withoutEndsAndHonours_2 : decode cX2_withoutEndsAndHonours 2 = .ok (.iload_n 1, 1) := by decide +kernel
theorem dX2_withoutEndsAndHonours_3 : decode cX2_withoutEndsAndHonours 3 = .ok (.bipush 25, 2) := by decide +kernel
theorem dX2_withoutEndsAndHonours_5 : decode cX2_withoutEndsAndHonours 5 = .ok (.if_icmp .ge 52, 3) := by decide +kernel
theorem dX2_withoutEndsAndHonours_8 : decode cX2_withoutEndsAndHonours 8 = .ok (.iload_n 1, 1) := by decide +kernel
theorem dX2_withoutEndsAndHonours_9 : decode cX2_withoutEndsAndHonours 9 = .ok (.bipush 9, 2) := by decide +kernel
theorem dX2_withoutEndsAndHonours_11 : decode cX2_withoutEndsAndHonours 11 = .ok (.irem, 1) := by decide +kernel
theorem dX2_withoutEndsAndHonours_12 : decode cX2_withoutEndsAndHonours 12 = .ok (.ifCond .eq 12, 3) := by decide +kernel
theorem dX2_withoutEndsAndHonours_15 : decode cX2_withoutEndsAndHonours 15 = .ok (.iload_n 1, 1) := by decide +kernel
theorem dX2_withoutEndsAndHonours_16 : decode cX2_withoutEndsAndHonours 16 = .ok (.bipush 9, 2) := by decide +kernel
theorem dX2_withoutEndsAndHonours_18 : decode cX2_withoutEndsAndHonours 18 = .ok (.irem, 1) := by decide +kernel
theorem dX2_withoutEndsAndHonours_19 : decode cX2_withoutEndsAndHonours 19 = .ok (.bipush 8, 2) := by decide +kernel
theorem dX2_withoutEndsAndHonours_21 : decode cX2_withoutEndsAndHonours 21 = .ok (.if_icmp .ne 7, 3) := by decide +kernel
theorem dX2_withoutEndsAndHonours_24 : decode cX2_withoutEndsAndHonours 24 = .ok (.iconst 1, 1) := by decide +kernel
theorem dX2_withoutEndsAndHonours_25 : decode cX2_withoutEndsAndHonours 25 = .ok (.goto 4, 3) := by decide +kernel
theorem dX2_withoutEndsAndHonours_28 : decode cX2_withoutEndsAndHonours 28 = .ok (.iconst 0, 1) := by decide +kernel
theorem dX2_withoutEndsAndHonours_29 : decode cX2_withoutEndsAndHonours 29 = .ok (.istore_n 2, 1) := by decide +kernel
theorem dX2_withoutEndsAndHonours_30 : decode cX2_withoutEndsAndHonours 30 = .ok (.aload_n 0, 1) := by decide +kernel
theorem dX2_withoutEndsAndHonours_31 : decode cX2_withoutEndsAndHonours 31 = .ok (.getfield 9, 3) := by decide +kernel
theorem dX2_withoutEndsAndHonours_34 : decode cX2_withoutEndsAndHonours 34 = .ok (.iload_n 1, 1) := by decide +kernel
theorem dX2_withoutEndsAndHonours_35 : decode cX2_withoutEndsAndHonours 35 = .ok (.iaload, 1) := by decide +kernel
theorem dX2_withoutEndsAndHonours_36 : decode cX2_withoutEndsAndHonours 36 = .ok (.ifCond .le 15, 3) := by decide +kernel
theorem dX2_withoutEndsAndHonours_39 : decode cX2_withoutEndsAndHonours 39 = .ok (.iload_n 1, 1) := by decide +kernel
theorem dX2_withoutEndsAndHonours_40 : decode cX2_withoutEndsAndHonours 40 = .ok (.bipush 18, 2) := by decide +kernel
theorem dX2_withoutEndsAndHonours_42 : decode cX2_withoutEndsAndHonours 42 = .ok (.if_icmp .ge 7, 3) := by decide +kernel
theorem dX2_withoutEndsAndHonours_45 : decode cX2_withoutEndsAndHonours 45 = .ok (.iload_n 2, 1) := by decide +kernel
theorem dX2_withoutEndsAndHonours_46 : decode cX2_withoutEndsAndHonours 46 = .ok (.ifCond .eq 5, 3) := by decide +kernel
theorem dX2_withoutEndsAndHonours_49 : decode cX2_withoutEndsAndHonours 49 = .ok (.iconst 0, 1) := by decide +kernel
theorem dX2_withoutEndsAndHonours_50 : decode cX2_withoutEndsAndHonours 50 = .ok (.ireturn, 1) := by decide +kernel
theorem dX2_withoutEndsAndHonours_51 : decode cX2_withoutEndsAndHonours 51 = .ok (.iinc 1 1, 3) := by decide +kernel
theorem dX2_withoutEndsAndHonours_54 : decode cX2_withoutEndsAndHonours 54 = .ok (.goto (-52), 3) := by decide +kernel
theorem dX2_withoutEndsAndHonours_57 : decode cX2_withoutEndsAndHonours 57 = .ok (.iconst 1, 1) := by decide +kernel
theorem dX2_withoutEndsAndHonours_58 : decode cX2_withoutEndsAndHonours 58 = .ok (.ireturn, 1) := by decide +kernel
def f_X2_withoutEndsAndHonours_29 (K2 : Nat → Int32 → zM → Option (Int32 × zM)) (a0 : Nat) (i1 : Int32) (i_0 : Int32) (M : zM) : Option (Int32 × zM) :=
  (gR 8 0 M a0).bind fun v1 =>
  (lA 0 M v1 i1).bind fun v2 =>
  if v2 ≤ 0 then
  K2 a0 ((i1 + (1 : Int32))) M
  else
  if ((18 : Int32)) ≤ i1 then
  some ((0 : Int32), M)
  else
  if i_0 = 0 then
  K2 a0 ((i1 + (1 : Int32))) M
  else
  some ((0 : Int32), M)
set_option maxRecDepth 20000 in
set_option maxHeartbeats 4000000 in
theorem s_X2_withoutEndsAndHonours_29 {L : zL} {X : zX} {M0 : zM} {N : Nat × Nat} {Q : State → Prop} {r : Int32 × zM} {K2 : Nat → Int32 → zM → Option (Int32 × zM)} (hK2 : ∀ (a0 : Nat) (i1 : Int32) (M : zM), K2 a0 i1 M = some r → V L X yX2_withoutEndsAndHonours cX2_withoutEndsAndHonours 3 (some FieldType.boolean) 1 M0 N Q M 2 [(0, .ref (zad L (a0))), (1, .int (i1))] []) (hq : vQ L X M0 N Q (some (.int r.1)) r.2) {a0 : Nat} {i1 : Int32} {i_0 : Int32} {M : zM} (h : f_X2_withoutEndsAndHonours_29 K2 a0 i1 i_0 M = some r) : V L X yX2_withoutEndsAndHonours cX2_withoutEndsAndHonours 3 (some FieldType.boolean) 1 M0 N Q M 29 [(0, .ref (zad L (a0))), (1, .int (i1))] [.int (i_0)] := by
  unfold f_X2_withoutEndsAndHonours_29 at h
  refine V_istore_n (ls' := [(2, .int (i_0)), (0, .ref (zad L (a0))), (1, .int (i1))]) dX2_withoutEndsAndHonours_29 rfl (by decide) rfl ?_
  refine V_aload_n dX2_withoutEndsAndHonours_30 rfl 1 rfl ?_
  replace h := ob h
  obtain ⟨v1, e_v1, h⟩ := h
  refine V_getR zf_8_0 zl_X2_9 e_v1 dX2_withoutEndsAndHonours_31 ?_
  refine V_pc (pc' := 34) rfl ?_
  refine V_iload_n dX2_withoutEndsAndHonours_34 rfl 2 rfl ?_
  replace h := ob h
  obtain ⟨v2, e_v2, h⟩ := h
  refine V_iald e_v2 dX2_withoutEndsAndHonours_35 ?_
  refine V_pc (pc' := 36) rfl ?_
  refine V_if_le (tgt := 51) dX2_withoutEndsAndHonours_36 (by decide) (fun c5 => ?_) (fun c5 => ?_)
  · replace h := (oi h).1 c5
    refine V_iinc (v := i1 + (1 : Int32)) (ls' := [(1, .int ((i1 + (1 : Int32)))), (2, .int (i_0)), (0, .ref (zad L (a0)))]) dX2_withoutEndsAndHonours_51 2 rfl (by rfl) (by decide) rfl ?_
    refine V_goto (tgt := 2) dX2_withoutEndsAndHonours_54 (by decide) ?_
    refine V_sub [2, 0] rfl ?_
    exact hK2 _ _ _ h
  · replace h := (oi h).2 c5
    refine V_iload_n dX2_withoutEndsAndHonours_39 rfl 2 rfl ?_
    refine V_bipush (v := 18) dX2_withoutEndsAndHonours_40 (by decide) ?_
    refine V_icmp_ge (tgt := 49) dX2_withoutEndsAndHonours_42 (by decide) (fun c4 => ?_) (fun c4 => ?_)
    · replace h := (oi h).1 c4
      refine V_iconst (v := 0) dX2_withoutEndsAndHonours_49 (by decide) ?_
      obtain rfl := Option.some.inj h
      exact V_zret (ty := .boolean) rfl rfl hq dX2_withoutEndsAndHonours_50
    · replace h := (oi h).2 c4
      refine V_iload_n dX2_withoutEndsAndHonours_45 rfl 0 rfl ?_
      refine V_if_eq (tgt := 51) dX2_withoutEndsAndHonours_46 (by decide) (fun c3 => ?_) (fun c3 => ?_)
      · replace h := (oi h).1 c3
        refine V_iinc (v := i1 + (1 : Int32)) (ls' := [(1, .int ((i1 + (1 : Int32)))), (2, .int (i_0)), (0, .ref (zad L (a0)))]) dX2_withoutEndsAndHonours_51 2 rfl (by rfl) (by decide) rfl ?_
        refine V_goto (tgt := 2) dX2_withoutEndsAndHonours_54 (by decide) ?_
        refine V_sub [2, 0] rfl ?_
        exact hK2 _ _ _ h
      · replace h := (oi h).2 c3
        refine V_iconst (v := 0) dX2_withoutEndsAndHonours_49 (by decide) ?_
        obtain rfl := Option.some.inj h
        exact V_zret (ty := .boolean) rfl rfl hq dX2_withoutEndsAndHonours_50
def f_X2_withoutEndsAndHonours_24 (K2 : Nat → Int32 → zM → Option (Int32 × zM)) (a0 : Nat) (i1 : Int32) (M : zM) : Option (Int32 × zM) :=
  f_X2_withoutEndsAndHonours_29 K2 a0 i1 ((1 : Int32)) M
set_option maxRecDepth 20000 in
set_option maxHeartbeats 4000000 in
theorem s_X2_withoutEndsAndHonours_24 {L : zL} {X : zX} {M0 : zM} {N : Nat × Nat} {Q : State → Prop} {r : Int32 × zM} {K2 : Nat → Int32 → zM → Option (Int32 × zM)} (hK2 : ∀ (a0 : Nat) (i1 : Int32) (M : zM), K2 a0 i1 M = some r → V L X yX2_withoutEndsAndHonours cX2_withoutEndsAndHonours 3 (some FieldType.boolean) 1 M0 N Q M 2 [(0, .ref (zad L (a0))), (1, .int (i1))] []) (hq : vQ L X M0 N Q (some (.int r.1)) r.2) {a0 : Nat} {i1 : Int32} {M : zM} (h : f_X2_withoutEndsAndHonours_24 K2 a0 i1 M = some r) : V L X yX2_withoutEndsAndHonours cX2_withoutEndsAndHonours 3 (some FieldType.boolean) 1 M0 N Q M 24 [(0, .ref (zad L (a0))), (1, .int (i1))] [] := by
  unfold f_X2_withoutEndsAndHonours_24 at h
  refine V_iconst (v := 1) dX2_withoutEndsAndHonours_24 (by decide) ?_
  refine V_goto (tgt := 29) dX2_withoutEndsAndHonours_25 (by decide) ?_
  exact s_X2_withoutEndsAndHonours_29 hK2 hq h
def f_X2_withoutEndsAndHonours_2 (n : Nat) (a0 : Nat) (i1 : Int32) (M : zM) : Option (Int32 × zM) := match n with
  | 0 => none
  | n + 1 =>
    if ((25 : Int32)) ≤ i1 then
    some ((1 : Int32), M)
    else
    if ((zmd i1 ((9 : Int32)))) = 0 then
    f_X2_withoutEndsAndHonours_24 (f_X2_withoutEndsAndHonours_2 n) a0 i1 M
    else
    if ((zmd i1 ((9 : Int32)))) = ((8 : Int32)) then
    f_X2_withoutEndsAndHonours_24 (f_X2_withoutEndsAndHonours_2 n) a0 i1 M
    else
    f_X2_withoutEndsAndHonours_29 (f_X2_withoutEndsAndHonours_2 n) a0 i1 ((0 : Int32)) M
set_option maxRecDepth 20000 in
set_option maxHeartbeats 4000000 in
theorem s_X2_withoutEndsAndHonours_2 {L : zL} {X : zX} {M0 : zM} {N : Nat × Nat} {Q : State → Prop} {r : Int32 × zM} (hq : vQ L X M0 N Q (some (.int r.1)) r.2) {n : Nat} {a0 : Nat} {i1 : Int32} {M : zM} : f_X2_withoutEndsAndHonours_2 n a0 i1 M = some r → V L X yX2_withoutEndsAndHonours cX2_withoutEndsAndHonours 3 (some FieldType.boolean) 1 M0 N Q M 2 [(0, .ref (zad L (a0))), (1, .int (i1))] [] := by
  induction n generalizing a0 i1 M with
  | zero =>
    intro h
    rw [f_X2_withoutEndsAndHonours_2] at h
    cases h
  | succ n ih0 =>
    intro h
    have ih : ∀ (a0 : Nat) (i1 : Int32) (M : zM), f_X2_withoutEndsAndHonours_2 n a0 i1 M = some r → V L X yX2_withoutEndsAndHonours cX2_withoutEndsAndHonours 3 (some FieldType.boolean) 1 M0 N Q M 2 [(0, .ref (zad L (a0))), (1, .int (i1))] [] := fun a0 i1 M h => ih0 h
    rw [f_X2_withoutEndsAndHonours_2] at h
    refine V_iload_n dX2_withoutEndsAndHonours_2 rfl 1 rfl ?_
    refine V_bipush (v := 25) dX2_withoutEndsAndHonours_3 (by decide) ?_
    refine V_icmp_ge (tgt := 57) dX2_withoutEndsAndHonours_5 (by decide) (fun c3 => ?_) (fun c3 => ?_)
    · replace h := (oi h).1 c3
      refine V_iconst (v := 1) dX2_withoutEndsAndHonours_57 (by decide) ?_
      obtain rfl := Option.some.inj h
      exact V_zret (ty := .boolean) rfl rfl hq dX2_withoutEndsAndHonours_58
    · replace h := (oi h).2 c3
      refine V_iload_n dX2_withoutEndsAndHonours_8 rfl 1 rfl ?_
      refine V_bipush (v := 9) dX2_withoutEndsAndHonours_9 (by decide) ?_
      refine V_irem dX2_withoutEndsAndHonours_11 (by decide) ?_
      refine V_if_eq (tgt := 24) dX2_withoutEndsAndHonours_12 (by decide) (fun c2 => ?_) (fun c2 => ?_)
      · replace h := (oi h).1 c2
        exact s_X2_withoutEndsAndHonours_24 ih hq h
      · replace h := (oi h).2 c2
        refine V_iload_n dX2_withoutEndsAndHonours_15 rfl 1 rfl ?_
        refine V_bipush (v := 9) dX2_withoutEndsAndHonours_16 (by decide) ?_
        refine V_irem dX2_withoutEndsAndHonours_18 (by decide) ?_
        refine V_bipush (v := 8) dX2_withoutEndsAndHonours_19 (by decide) ?_
        refine V_icmp_ne (tgt := 28) dX2_withoutEndsAndHonours_21 (by decide) (fun c1 => ?_) (fun c1 => ?_)
        · replace h := (oi h).2 c1
          refine V_iconst (v := 0) dX2_withoutEndsAndHonours_28 (by decide) ?_
          exact s_X2_withoutEndsAndHonours_29 ih hq h
        · replace h := (oi h).1 c1
          exact s_X2_withoutEndsAndHonours_24 ih hq h
def f_X2_withoutEndsAndHonours_0 (a0 : Nat) (M : zM) : Option (Int32 × zM) :=
  f_X2_withoutEndsAndHonours_2 zN a0 ((0 : Int32)) M
set_option maxRecDepth 20000 in
set_option maxHeartbeats 4000000 in
theorem s_X2_withoutEndsAndHonours_0 {L : zL} {X : zX} {M0 : zM} {N : Nat × Nat} {Q : State → Prop} {r : Int32 × zM} (hq : vQ L X M0 N Q (some (.int r.1)) r.2) {a0 : Nat} {M : zM} (h : f_X2_withoutEndsAndHonours_0 a0 M = some r) : V L X yX2_withoutEndsAndHonours cX2_withoutEndsAndHonours 3 (some FieldType.boolean) 1 M0 N Q M 0 [(0, .ref (zad L (a0)))] [] := by
  unfold f_X2_withoutEndsAndHonours_0 at h
  refine V_iconst (v := 0) dX2_withoutEndsAndHonours_0 (by decide) ?_
  refine V_istore_n (ls' := [(1, .int ((0 : Int32))), (0, .ref (zad L (a0)))]) dX2_withoutEndsAndHonours_1 rfl (by decide) rfl ?_
  refine V_sub [1, 0] rfl ?_
  exact s_X2_withoutEndsAndHonours_2 hq h
def f_X2_withoutEndsAndHonours (a0 : Nat) (M : zM) : Option (Int32 × zM) := f_X2_withoutEndsAndHonours_0 a0 M
theorem c_X2_withoutEndsAndHonours {L : zL} {l : Launch} {a0 : Nat} {M : zM} {r : Int32 × zM} (h : f_X2_withoutEndsAndHonours a0 M = some r) : CP L l yX2_withoutEndsAndHonours cX2_withoutEndsAndHonours 3 (some FieldType.boolean) 1 M [.ref (zad L (a0))] (some (.int r.1)) r.2 :=
  CP.of ⟨by decide +kernel, by decide +kernel⟩ (Nat.le_of_ble_eq_true rfl) fun X Q hq => s_X2_withoutEndsAndHonours_0 hq h
/-! Windsparlour$Valuing.withoutRows(LWindsparlour$Seat;)Z -/
theorem dX2_withoutRows_0 : decode cX2_withoutRows 0 = .ok (.iconst 0, 1) := by decide +kernel
theorem dX2_withoutRows_1 : decode cX2_withoutRows 1 = .ok (.istore_n 1, 1) := by decide +kernel
theorem dX2_withoutRows_2 : decode cX2_withoutRows 2 = .ok (.iconst 0, 1) := by decide +kernel
theorem dX2_withoutRows_3 : decode cX2_withoutRows 3 = .ok (.istore_n 2, 1) := by decide +kernel
theorem dX2_withoutRows_4 : decode cX2_withoutRows 4 = .ok (.iload_n 2, 1) := by decide +kernel
theorem dX2_withoutRows_5 : decode cX2_withoutRows 5 = .ok (.bipush 25, 2) := by decide +kernel
theorem dX2_withoutRows_7 : decode cX2_withoutRows 7 = .ok (.if_icmp .ge 37, 3) := by decide +kernel
theorem dX2_withoutRows_10 : decode cX2_withoutRows 10 = .ok (.aload_n 0, 1) := by decide +kernel
theorem dX2_withoutRows_11 : decode cX2_withoutRows 11 = .ok (.iload_n 2, 1) := by decide +kernel
theorem dX2_withoutRows_12 : decode cX2_withoutRows 12 = .ok (.invokevirtual 50, 3) := by decide +kernel
theorem dX2_withoutRows_15 : decode cX2_withoutRows 15 = .ok (.iconst 3, 1) := by decide +kernel
theorem dX2_withoutRows_16 : decode cX2_withoutRows 16 = .ok (.irem, 1) := by decide +kernel
theorem dX2_withoutRows_17 : decode cX2_withoutRows 17 = .ok (.istore_n 3, 1) := by decide +kernel
theorem dX2_withoutRows_18 : decode cX2_withoutRows 18 = .ok (.iload_n 3, 1) := by decide +kernel
theorem dX2_withoutRows_19 : decode cX2_withoutRows 19 = .ok (.iconst 1, 1) := by decide +kernel
theorem dX2_withoutRows_20 : decode cX2_withoutRows 20 = .ok (.if_icmp .ne 5, 3) := by decide +kernel
theorem dX2_withoutRows_23 : decode cX2_withoutRows 23 = .ok (.iconst 0, 1) := by decide +kernel
theorem dX2_withoutRows_24 : decode cX2_withoutRows 24 = .ok (.ireturn, 1) := by decide +kernel
theorem dX2_withoutRows_25 : decode cX2_withoutRows 25 = .ok (.iload_n 1, 1) := by decide +kernel
theorem dX2_withoutRows_26 : decode cX2_withoutRows 26 = .ok (.iload_n 3, 1) := by decide +kernel
theorem dX2_withoutRows_27 : decode cX2_withoutRows 27 = .ok (.iconst 2, 1) := by decide +kernel
theorem dX2_withoutRows_28 : decode cX2_withoutRows 28 = .ok (.if_icmp .ne 7, 3) := by decide +kernel
theorem dX2_withoutRows_31 : decode cX2_withoutRows 31 = .ok (.iconst 1, 1) := by decide +kernel
theorem dX2_withoutRows_32 : decode cX2_withoutRows 32 = .ok (.goto 4, 3) := by decide +kernel
theorem dX2_withoutRows_35 : decode cX2_withoutRows 35 = .ok (.iconst 0, 1) := by decide +kernel
theorem dX2_withoutRows_36 : decode cX2_withoutRows 36 = .ok (.iadd, 1) := by decide +kernel
theorem dX2_withoutRows_37 : decode cX2_withoutRows 37 = .ok (.istore_n 1, 1) := by decide +kernel
theorem dX2_withoutRows_38 : decode cX2_withoutRows 38 = .ok (.iinc 2 1, 3) := by decide +kernel
theorem dX2_withoutRows_41 : decode cX2_withoutRows 41 = .ok (.goto (-37), 3) := by decide +kernel
theorem dX2_withoutRows_44 : decode cX2_withoutRows 44 = .ok (.iload_n 1, 1) := by decide +kernel
theorem dX2_withoutRows_45 : decode cX2_withoutRows 45 = .ok (.iconst 1, 1) := by decide +kernel
theorem dX2_withoutRows_46 : decode cX2_withoutRows 46 = .ok (.if_icmp .ne 14, 3) := by decide +kernel
theorem dX2_withoutRows_49 : decode cX2_withoutRows 49 = .ok (.aload_n 0, 1) := by decide +kernel
theorem dX2_withoutRows_50 : decode cX2_withoutRows 50 = .ok (.invokevirtual 56, 3) := by decide +kernel
theorem dX2_withoutRows_53 : decode cX2_withoutRows 53 = .ok (.ifCond .ne 7, 3) := by decide +kernel
theorem dX2_withoutRows_56 : decode cX2_withoutRows 56 = .ok (.iconst 1, 1) := by decide +kernel
theorem dX2_withoutRows_57 : decode cX2_withoutRows 57 = .ok (.goto 4, 3) := by decide +kernel
theorem dX2_withoutRows_60 : decode cX2_withoutRows 60 = .ok (.iconst 0, 1) := by decide +kernel
theorem dX2_withoutRows_61 : decode cX2_withoutRows 61 = .ok (.ireturn, 1) := by decide +kernel
def f_X2_withoutRows_4 (n : Nat) (a0 : Nat) (i1 : Int32) (i2 : Int32) (M : zM) : Option (Int32 × zM) := match n with
  | 0 => none
  | n + 1 =>
    if ((25 : Int32)) ≤ i2 then
    if i1 = ((1 : Int32)) then
    if mK M a0 = 7 then
    (f_X1_rowLies a0 M).bind fun r1 =>
    if r1.1 = 0 then
    some ((1 : Int32), r1.2)
    else
    some ((0 : Int32), r1.2)
    else none
    else
    some ((0 : Int32), M)
    else
    if mK M a0 = 7 then
    (f_X1_count a0 i2 M).bind fun r5 =>
    if ((zmd r5.1 ((3 : Int32)))) = ((1 : Int32)) then
    some ((0 : Int32), r5.2)
    else
    if ((zmd r5.1 ((3 : Int32)))) = ((2 : Int32)) then
    f_X2_withoutRows_4 n a0 ((i1 + ((1 : Int32)))) ((i2 + (1 : Int32))) r5.2
    else
    f_X2_withoutRows_4 n a0 ((i1 + ((0 : Int32)))) ((i2 + (1 : Int32))) r5.2
    else none
set_option maxRecDepth 20000 in
set_option maxHeartbeats 4000000 in
theorem s_X2_withoutRows_4 {L : zL} {X : zX} {M0 : zM} {N : Nat × Nat} {Q : State → Prop} {r : Int32 × zM} (hq : vQ L X M0 N Q (some (.int r.1)) r.2) {n : Nat} {a0 : Nat} {i1 : Int32} {i2 : Int32} {M : zM} : f_X2_withoutRows_4 n a0 i1 i2 M = some r → V L X yX2_withoutRows cX2_withoutRows 4 (some FieldType.boolean) 2 M0 N Q M 4 [(0, .ref (zad L (a0))), (1, .int (i1)), (2, .int (i2))] [] := by
  induction n generalizing a0 i1 i2 M with
  | zero =>
    intro h
    rw [f_X2_withoutRows_4] at h
    cases h
  | succ n ih0 =>
    intro h
    have ih : ∀ (a0 : Nat) (i1 : Int32) (i2 : Int32) (M : zM), f_X2_withoutRows_4 n a0 i1 i2 M = some r → V L X yX2_withoutRows cX2_withoutRows 4 (some FieldType.boolean) 2 M0 N Q M 4 [(0, .ref (zad L (a0))), (1, .int (i1)), (2, .int (i2))] [] := fun a0 i1 i2 M h => ih0 h
    rw [f_X2_withoutRows_4] at h
    refine V_iload_n dX2_withoutRows_4 rfl 2 rfl ?_
    refine V_bipush (v := 25) dX2_withoutRows_5 (by decide) ?_
    refine V_icmp_ge (tgt := 44) dX2_withoutRows_7 (by decide) (fun c9 => ?_) (fun c9 => ?_)
    · replace h := (oi h).1 c9
      refine V_iload_n dX2_withoutRows_44 rfl 1 rfl ?_
      refine V_iconst (v := 1) dX2_withoutRows_45 (by decide) ?_
      refine V_icmp_ne (tgt := 60) dX2_withoutRows_46 (by decide) (fun c4 => ?_) (fun c4 => ?_)
      · replace h := (oi h).2 c4
        refine V_iconst (v := 0) dX2_withoutRows_60 (by decide) ?_
        obtain rfl := Option.some.inj h
        exact V_zret (ty := .boolean) rfl rfl hq dX2_withoutRows_61
      · replace h := (oi h).1 c4
        refine V_aload_n dX2_withoutRows_49 rfl 0 rfl ?_
        replace h := ox h
        obtain ⟨c2, h⟩ := h
        replace h := ob h
        obtain ⟨r1, e_r1, h⟩ := h
        refine V_callV_I (As := []) (rest := []) (c_X1_rowLies e_r1) zc_X1_rowLies rfl (by decide) rfl (by decide) (Or.inl c2) zm_X2_56 (Nat.le_of_ble_eq_true rfl) rfl dX2_withoutRows_50 ?_
        refine V_pc (pc' := 53) rfl ?_
        refine V_if_ne (tgt := 60) dX2_withoutRows_53 (by decide) (fun c3 => ?_) (fun c3 => ?_)
        · replace h := (oi h).2 c3
          refine V_iconst (v := 0) dX2_withoutRows_60 (by decide) ?_
          obtain rfl := Option.some.inj h
          exact V_zret (ty := .boolean) rfl rfl hq dX2_withoutRows_61
        · replace h := (oi h).1 c3
          refine V_iconst (v := 1) dX2_withoutRows_56 (by decide) ?_
          refine V_goto (tgt := 61) dX2_withoutRows_57 (by decide) ?_
          obtain rfl := Option.some.inj h
          exact V_zret (ty := .boolean) rfl rfl hq dX2_withoutRows_61
    · replace h := (oi h).2 c9
      refine V_aload_n dX2_withoutRows_10 rfl 0 rfl ?_
      refine V_iload_n dX2_withoutRows_11 rfl 2 rfl ?_
      replace h := ox h
      obtain ⟨c6, h⟩ := h
      replace h := ob h
      obtain ⟨r5, e_r5, h⟩ := h
      refine V_callV_I (As := [.int (i2)]) (rest := []) (c_X1_count e_r5) zc_X1_count rfl (by decide) rfl (by decide) (Or.inl c6) zm_X2_50 (Nat.le_of_ble_eq_true rfl) rfl dX2_withoutRows_12 ?_
      refine V_pc (pc' := 15) rfl ?_
      refine V_iconst (v := 3) dX2_withoutRows_15 (by decide) ?_
      refine V_irem dX2_withoutRows_16 (by decide) ?_
      refine V_istore_n (ls' := [(3, .int ((zmd r5.1 ((3 : Int32))))), (0, .ref (zad L (a0))), (1, .int (i1)), (2, .int (i2))]) dX2_withoutRows_17 rfl (by decide) rfl ?_
      refine V_iload_n dX2_withoutRows_18 rfl 0 rfl ?_
      refine V_iconst (v := 1) dX2_withoutRows_19 (by decide) ?_
      refine V_icmp_ne (tgt := 25) dX2_withoutRows_20 (by decide) (fun c8 => ?_) (fun c8 => ?_)
      · replace h := (oi h).2 c8
        refine V_iload_n dX2_withoutRows_25 rfl 2 rfl ?_
        refine V_iload_n dX2_withoutRows_26 rfl 0 rfl ?_
        refine V_iconst (v := 2) dX2_withoutRows_27 (by decide) ?_
        refine V_icmp_ne (tgt := 35) dX2_withoutRows_28 (by decide) (fun c7 => ?_) (fun c7 => ?_)
        · replace h := (oi h).2 c7
          refine V_iconst (v := 0) dX2_withoutRows_35 (by decide) ?_
          refine V_iadd dX2_withoutRows_36 ?_
          refine V_istore_n (ls' := [(1, .int ((i1 + ((0 : Int32))))), (3, .int ((zmd r5.1 ((3 : Int32))))), (0, .ref (zad L (a0))), (2, .int (i2))]) dX2_withoutRows_37 rfl (by decide) rfl ?_
          refine V_iinc (v := i2 + (1 : Int32)) (ls' := [(2, .int ((i2 + (1 : Int32)))), (1, .int ((i1 + ((0 : Int32))))), (3, .int ((zmd r5.1 ((3 : Int32))))), (0, .ref (zad L (a0)))]) dX2_withoutRows_38 3 rfl (by rfl) (by decide) rfl ?_
          refine V_goto (tgt := 4) dX2_withoutRows_41 (by decide) ?_
          refine V_sub [3, 1, 0] rfl ?_
          exact ih _ _ _ _ h
        · replace h := (oi h).1 c7
          refine V_iconst (v := 1) dX2_withoutRows_31 (by decide) ?_
          refine V_goto (tgt := 36) dX2_withoutRows_32 (by decide) ?_
          refine V_iadd dX2_withoutRows_36 ?_
          refine V_istore_n (ls' := [(1, .int ((i1 + ((1 : Int32))))), (3, .int ((zmd r5.1 ((3 : Int32))))), (0, .ref (zad L (a0))), (2, .int (i2))]) dX2_withoutRows_37 rfl (by decide) rfl ?_
          refine V_iinc (v := i2 + (1 : Int32)) (ls' := [(2, .int ((i2 + (1 : Int32)))), (1, .int ((i1 + ((1 : Int32))))), (3, .int ((zmd r5.1 ((3 : Int32))))), (0, .ref (zad L (a0)))]) dX2_withoutRows_38 3 rfl (by rfl) (by decide) rfl ?_
          refine V_goto (tgt := 4) dX2_withoutRows_41 (by decide) ?_
          refine V_sub [3, 1, 0] rfl ?_
          exact ih _ _ _ _ h
      · replace h := (oi h).1 c8
        refine V_iconst (v := 0) dX2_withoutRows_23 (by decide) ?_
        obtain rfl := Option.some.inj h
        exact V_zret (ty := .boolean) rfl rfl hq dX2_withoutRows_24
def f_X2_withoutRows_0 (a0 : Nat) (M : zM) : Option (Int32 × zM) :=
  f_X2_withoutRows_4 zN a0 ((0 : Int32)) ((0 : Int32)) M
set_option maxRecDepth 20000 in
set_option maxHeartbeats 4000000 in
theorem s_X2_withoutRows_0 {L : zL} {X : zX} {M0 : zM} {N : Nat × Nat} {Q : State → Prop} {r : Int32 × zM} (hq : vQ L X M0 N Q (some (.int r.1)) r.2) {a0 : Nat} {M : zM} (h : f_X2_withoutRows_0 a0 M = some r) : V L X yX2_withoutRows cX2_withoutRows 4 (some FieldType.boolean) 2 M0 N Q M 0 [(0, .ref (zad L (a0)))] [] := by
  unfold f_X2_withoutRows_0 at h
  refine V_iconst (v := 0) dX2_withoutRows_0 (by decide) ?_
  refine V_istore_n (ls' := [(1, .int ((0 : Int32))), (0, .ref (zad L (a0)))]) dX2_withoutRows_1 rfl (by decide) rfl ?_
  refine V_iconst (v := 0) dX2_withoutRows_2 (by decide) ?_
  refine V_istore_n (ls' := [(2, .int ((0 : Int32))), (1, .int ((0 : Int32))), (0, .ref (zad L (a0)))]) dX2_withoutRows_3 rfl (by decide) rfl ?_
  refine V_sub [2, 1, 0] rfl ?_
  exact s_X2_withoutRows_4 hq h
def f_X2_withoutRows (a0 : Nat) (M : zM) : Option (Int32 × zM) := f_X2_withoutRows_0 a0 M
theorem c_X2_withoutRows {L : zL} {l : Launch} {a0 : Nat} {M : zM} {r : Int32 × zM} (h : f_X2_withoutRows a0 M = some r) : CP L l yX2_withoutRows cX2_withoutRows 4 (some FieldType.boolean) 2 M [.ref (zad L (a0))] (some (.int r.1)) r.2 :=
  CP.of ⟨by decide +kernel, by decide +kernel⟩ (Nat.le_of_ble_eq_true rfl) fun X Q hq => s_X2_withoutRows_0 hq h
/-! Windsparlour$Valuing.value(LWindsparlour$Seat;ZII)I -/
theorem dX2_value_0 : decode cX2_value 0 = .ok (.aload_n 0, 1) := by decide +kernel
theorem dX2_value_1 : decode cX2_value 1 = .ok (.aload_n 1, 1) := by decide +kernel
theorem dX2_value_2 : decode cX2_value 2 = .ok (.invokevirtual 15, 3) := by decide +kernel
theorem dX2_value_5 : decode cX2_value 5 = .ok (.iconst 1, 1) := by decide +kernel
theorem dX2_value_6 : decode cX2_value 6 = .ok (.istore 5, 2) := by decide +kernel
theorem dX2_value_8 : decode cX2_value 8 = .ok (.iload 5, 2) := by decide +kernel
theorem dX2_value_10 : decode cX2_value 10 = .ok (.aload_n 1, 1) := by decide +kernel
theorem dX2_value_11 : decode cX2_value 11 = .ok (.getfield 19, 3) := by decide +kernel
theorem dX2_value_14 : decode cX2_value 14 = .ok (.ifCond .eq 7, 3) := by decide +kernel
theorem dX2_value_17 : decode cX2_value 17 = .ok (.iconst 1, 1) := by decide +kernel
theorem dX2_value_18 : decode cX2_value 18 = .ok (.goto 4, 3) := by decide +kernel
theorem dX2_value_21 : decode cX2_value 21 = .ok (.iconst 0, 1) := by decide +kernel
theorem dX2_value_22 : decode cX2_value 22 = .ok (.iadd, 1) := by decide +kernel
theorem dX2_value_23 : decode cX2_value 23 = .ok (.istore 5, 2) := by decide +kernel
theorem dX2_value_25 : decode cX2_value 25 = .ok (.iload 5, 2) := by decide +kernel
theorem dX2_value_27 : decode cX2_value 27 = .ok (.iload_n 2, 1) := by decide +kernel
theorem dX2_value_28 : decode cX2_value 28 = .ok (.ifCond .eq 14, 3) := by decide +kernel
theorem dX2_value_31 : decode cX2_value 31 = .ok (.aload_n 1, 1) := by decide +kernel
theorem dX2_value_32 : decode cX2_value 32 = .ok (.invokevirtual 25, 3) := by decide +kernel
theorem dX2_value_35 : decode cX2_value 35 = .ok (.ifCond .ne 7, 3) := by decide +kernel
theorem dX2_value_38 : decode cX2_value 38 = .ok (.iconst 1, 1) := by decide +kernel
theorem dX2_value_39 : decode cX2_value 39 = .ok (.goto 4, 3) := by decide +kernel
theorem dX2_value_42 : decode cX2_value 42 = .ok (.iconst 0, 1) := by decide +kernel
theorem dX2_value_43 : decode cX2_value 43 = .ok (.iadd, 1) := by decide +kernel
theorem dX2_value_44 : decode cX2_value 44 = .ok (.istore 5, 2) := by decide +kernel
theorem dX2_value_46 : decode cX2_value 46 = .ok (.iload 5, 2) := by decide +kernel
theorem dX2_value_48 : decode cX2_value 48 = .ok (.iload_n 3, 1) := by decide +kernel
theorem dX2_value_49 : decode cX2_value 49 = .ok (.ifCond .lt 18, 3) := by decide +kernel
theorem dX2_value_52 : decode cX2_value 52 = .ok (.iload_n 3, 1) := by decide +kernel
theorem dX2_value_53 : decode cX2_value 53 = .ok (.bipush 25, 2) := by decide +kernel
theorem dX2_value_55 : decode cX2_value 55 = .ok (.if_icmp .ge 12, 3) := by decide +kernel
theorem dX2_value_58 : decode cX2_value 58 = .ok (.aload_n 0, 1) := by decide +kernel
theorem dX2_value_59 : decode cX2_value 59 = .ok (.getfield 9, 3) := by decide +kernel
theorem dX2_value_62 : decode cX2_value 62 = .ok (.iload_n 3, 1) := by decide +kernel
theorem dX2_value_63 : decode cX2_value 63 = .ok (.iaload, 1) := by decide +kernel
theorem dX2_value_64 : decode cX2_value 64 = .ok (.goto 4, 3) := by decide +kernel
theorem dX2_value_67 : decode cX2_value 67 = .ok (.iconst 0, 1) := by decide +kernel
theorem dX2_value_68 : decode cX2_value 68 = .ok (.iadd, 1) := by decide +kernel
theorem dX2_value_69 : decode cX2_value 69 = .ok (.istore 5, 2) := by decide +kernel
theorem dX2_value_71 : decode cX2_value 71 = .ok (.bipush 22, 2) := by decide +kernel
theorem dX2_value_73 : decode cX2_value 73 = .ok (.istore 6, 2) := by decide +kernel
theorem dX2_value_75 : decode cX2_value 75 = .ok (.iload 6, 2) := by decide +kernel
theorem dX2_value_77 : decode cX2_value 77 = .ok (.bipush 25, 2) := by decide +kernel
theorem dX2_value_79 : decode cX2_value 79 = .ok (.if_icmp .ge 20, 3) := by decide +kernel
theorem dX2_value_82 : decode cX2_value 82 = .ok (.iload 5, 2) := by decide +kernel
theorem dX2_value_84 : decode cX2_value 84 = .ok (.aload_n 0, 1) := by decide +kernel
theorem dX2_value_85 : decode cX2_value 85 = .ok (.iload 6, 2) := by decide +kernel
theorem dX2_value_87 : decode cX2_value 87 = .ok (.invokevirtual 29, 3) := by decide +kernel
theorem dX2_value_90 : decode cX2_value 90 = .ok (.iadd, 1) := by decide +kernel
theorem dX2_value_91 : decode cX2_value 91 = .ok (.istore 5, 2) := by decide +kernel
theorem dX2_value_93 : decode cX2_value 93 = .ok (.iinc 6 1, 3) := by decide +kernel
theorem dX2_value_96 : decode cX2_value 96 = .ok (.goto (-21), 3) := by decide +kernel
theorem dX2_value_99 : decode cX2_value 99 = .ok (.iload 5, 2) := by decide +kernel
theorem dX2_value_101 : decode cX2_value 101 = .ok (.aload_n 0, 1) := by decide +kernel
theorem dX2_value_102 : decode cX2_value 102 = .ok (.bipush 18, 2) := by decide +kernel
theorem dX2_value_104 : decode cX2_value 104 = .ok (.iload 4, 2) := by decide +kernel
theorem dX2_value_106 : decode cX2_value 106 = .ok (.iadd, 1) := by decide +kernel
theorem dX2_value_107 : decode cX2_value 107 = .ok (.invokevirtual 29, 3) := by decide +kernel
theorem dX2_value_110 : decode cX2_value 110 = .ok (.iadd, 1) := by decide +kernel
theorem dX2_value_111 : decode cX2_value 111 = .ok (.istore 5, 2) := by decide +kernel
theorem dX2_value_113 : decode cX2_value 113 = .ok (.iload 5, 2) := by decide +kernel
theorem dX2_value_115 : decode cX2_value 115 = .ok (.aload_n 0, 1) := by decide +kernel
theorem dX2_value_116 : decode cX2_value 116 = .ok (.invokevirtual 33, 3) := by decide +kernel
theorem dX2_value_119 : decode cX2_value 119 = .ok (.ifCond .eq 7, 3) := by decide +kernel
theorem dX2_value_122 : decode cX2_value 122 = .ok (.iconst 1, 1) := by decide +kernel
theorem dX2_value_123 : decode cX2_value 123 = .ok (.goto 4, 3) := by decide +kernel
theorem dX2_value_126 : decode cX2_value 126 = .ok (.iconst 0, 1) := by decide +kernel
theorem dX2_value_127 : decode cX2_value 127 = .ok (.iadd, 1) := by decide +kernel
theorem dX2_value_128 : decode cX2_value 128 = .ok (.istore 5, 2) := by decide +kernel
theorem dX2_value_130 : decode cX2_value 130 = .ok (.iload 5, 2) := by decide +kernel
theorem dX2_value_132 : decode cX2_value 132 = .ok (.aload_n 1, 1) := by decide +kernel
theorem dX2_value_133 : decode cX2_value 133 = .ok (.invokestatic 37, 3) := by decide +kernel
theorem dX2_value_136 : decode cX2_value 136 = .ok (.ifCond .eq 7, 3) := by decide +kernel
theorem dX2_value_139 : decode cX2_value 139 = .ok (.iconst 2, 1) := by decide +kernel
theorem dX2_value_140 : decode cX2_value 140 = .ok (.goto 4, 3) := by decide +kernel
theorem dX2_value_143 : decode cX2_value 143 = .ok (.iconst 0, 1) := by decide +kernel
theorem dX2_value_144 : decode cX2_value 144 = .ok (.iadd, 1) := by decide +kernel
theorem dX2_value_145 : decode cX2_value 145 = .ok (.istore 5, 2) := by decide +kernel
theorem dX2_value_147 : decode cX2_value 147 = .ok (.iload 5, 2) := by decide +kernel
theorem dX2_value_149 : decode cX2_value 149 = .ok (.aload_n 0, 1) := by decide +kernel
theorem dX2_value_150 : decode cX2_value 150 = .ok (.invokevirtual 41, 3) := by decide +kernel
theorem dX2_value_153 : decode cX2_value 153 = .ok (.iadd, 1) := by decide +kernel
theorem dX2_value_154 : decode cX2_value 154 = .ok (.istore 5, 2) := by decide +kernel
theorem dX2_value_156 : decode cX2_value 156 = .ok (.iload 5, 2) := by decide +kernel
theorem dX2_value_158 : decode cX2_value 158 = .ok (.bipush 12, 2) := by decide +kernel
theorem dX2_value_160 : decode cX2_value 160 = .ok (.invokestatic 44, 3) := by decide +kernel
theorem dX2_value_163 : decode cX2_value 163 = .ok (.ireturn, 1) := by decide +kernel
def f_X2_value_144 (a0 : Nat) (i_0 : Int32) (i_1 : Int32) (M : zM) : Option (Int32 × zM) :=
  if mK M a0 = 8 then
  (f_X2_ofOneSuit a0 M).bind fun r1 =>
  (f_J9_min_7cf53 ((((i_1 + i_0)) + r1.1)) ((12 : Int32)) r1.2).bind fun r3 =>
  some (r3.1, r3.2)
  else none
set_option maxRecDepth 20000 in
set_option maxHeartbeats 4000000 in
theorem s_X2_value_144 {L : zL} {X : zX} {M0 : zM} {N : Nat × Nat} {Q : State → Prop} {r : Int32 × zM} (hq : vQ L X M0 N Q (some (.int r.1)) r.2) {a0 : Nat} {i_0 : Int32} {i_1 : Int32} {M : zM} (h : f_X2_value_144 a0 i_0 i_1 M = some r) : V L X yX2_value cX2_value 7 (some FieldType.int) 4 M0 N Q M 144 [(0, .ref (zad L (a0)))] [.int (i_0), .int (i_1)] := by
  unfold f_X2_value_144 at h
  refine V_iadd dX2_value_144 ?_
  refine V_istore (ls' := [(5, .int ((i_1 + i_0))), (0, .ref (zad L (a0)))]) dX2_value_145 (by decide) rfl ?_
  refine V_iload dX2_value_147 0 rfl ?_
  refine V_aload_n dX2_value_149 rfl 1 rfl ?_
  replace h := ox h
  obtain ⟨c2, h⟩ := h
  replace h := ob h
  obtain ⟨r1, e_r1, h⟩ := h
  refine V_callV_I (As := []) (rest := [.int ((i_1 + i_0))]) (c_X2_ofOneSuit e_r1) zc_X2_ofOneSuit rfl (by decide) rfl (by decide) (Or.inl c2) zm_X2_41 (Nat.le_of_ble_eq_true rfl) rfl dX2_value_150 ?_
  refine V_pc (pc' := 153) rfl ?_
  refine V_iadd dX2_value_153 ?_
  refine V_istore (ls' := [(5, .int ((((i_1 + i_0)) + r1.1))), (0, .ref (zad L (a0)))]) dX2_value_154 (by decide) rfl ?_
  refine V_iload dX2_value_156 0 rfl ?_
  refine V_bipush (v := 12) dX2_value_158 (by decide) ?_
  replace h := ob h
  obtain ⟨r3, e_r3, h⟩ := h
  refine V_callS_I (As := [.int ((((i_1 + i_0)) + r1.1)), .int ((12 : Int32))]) (rest := []) (c_J9_min_7cf53 e_r3) zc_J9_min_7cf53 rfl (by decide) zm_X2_44 (Nat.le_of_ble_eq_true rfl) rfl dX2_value_160 ?_
  refine V_pc (pc' := 163) rfl ?_
  obtain rfl := Option.some.inj h
  exact V_iret rfl hq dX2_value_163
def f_X2_value_127 (a0 : Nat) (a1 : Nat) (i_0 : Int32) (i_1 : Int32) (M : zM) : Option (Int32 × zM) :=
  (f_X2_withoutRows a1 M).bind fun r1 =>
  if r1.1 = 0 then
  f_X2_value_144 a0 ((0 : Int32)) ((i_1 + i_0)) r1.2
  else
  f_X2_value_144 a0 ((2 : Int32)) ((i_1 + i_0)) r1.2
set_option maxRecDepth 20000 in
set_option maxHeartbeats 4000000 in
theorem s_X2_value_127 {L : zL} {X : zX} {M0 : zM} {N : Nat × Nat} {Q : State → Prop} {r : Int32 × zM} (hq : vQ L X M0 N Q (some (.int r.1)) r.2) {a0 : Nat} {a1 : Nat} {i_0 : Int32} {i_1 : Int32} {M : zM} (h : f_X2_value_127 a0 a1 i_0 i_1 M = some r) : V L X yX2_value cX2_value 7 (some FieldType.int) 4 M0 N Q M 127 [(0, .ref (zad L (a0))), (1, .ref (zad L (a1)))] [.int (i_0), .int (i_1)] := by
  unfold f_X2_value_127 at h
  refine V_iadd dX2_value_127 ?_
  refine V_istore (ls' := [(5, .int ((i_1 + i_0))), (0, .ref (zad L (a0))), (1, .ref (zad L (a1)))]) dX2_value_128 (by decide) rfl ?_
  refine V_iload dX2_value_130 0 rfl ?_
  refine V_aload_n dX2_value_132 rfl 2 rfl ?_
  replace h := ob h
  obtain ⟨r1, e_r1, h⟩ := h
  refine V_callS_I (As := [.ref (zad L (a1))]) (rest := [.int ((i_1 + i_0))]) (c_X2_withoutRows e_r1) zc_X2_withoutRows rfl (by decide) zm_X2_37 (Nat.le_of_ble_eq_true rfl) rfl dX2_value_133 ?_
  refine V_pc (pc' := 136) rfl ?_
  refine V_if_eq (tgt := 143) dX2_value_136 (by decide) (fun c2 => ?_) (fun c2 => ?_)
  · replace h := (oi h).1 c2
    refine V_iconst (v := 0) dX2_value_143 (by decide) ?_
    refine V_sub [1] rfl ?_
    exact s_X2_value_144 hq h
  · replace h := (oi h).2 c2
    refine V_iconst (v := 2) dX2_value_139 (by decide) ?_
    refine V_goto (tgt := 144) dX2_value_140 (by decide) ?_
    refine V_sub [1] rfl ?_
    exact s_X2_value_144 hq h
def f_X2_value_75 (n : Nat) (a0 : Nat) (a1 : Nat) (i4 : Int32) (i5 : Int32) (i6 : Int32) (M : zM) : Option (Int32 × zM) := match n with
  | 0 => none
  | n + 1 =>
    if ((25 : Int32)) ≤ i6 then
    if mK M a0 = 8 then
    (f_X2_setOf a0 ((((18 : Int32)) + i4)) M).bind fun r1 =>
    if mK r1.2 a0 = 8 then
    (f_X2_withoutEndsAndHonours a0 r1.2).bind fun r3 =>
    if r3.1 = 0 then
    f_X2_value_127 a0 a1 ((0 : Int32)) ((i5 + r1.1)) r3.2
    else
    f_X2_value_127 a0 a1 ((1 : Int32)) ((i5 + r1.1)) r3.2
    else none
    else none
    else
    if mK M a0 = 8 then
    (f_X2_setOf a0 i6 M).bind fun r6 =>
    f_X2_value_75 n a0 a1 i4 ((i5 + r6.1)) ((i6 + (1 : Int32))) r6.2
    else none
set_option maxRecDepth 20000 in
set_option maxHeartbeats 4000000 in
theorem s_X2_value_75 {L : zL} {X : zX} {M0 : zM} {N : Nat × Nat} {Q : State → Prop} {r : Int32 × zM} (hq : vQ L X M0 N Q (some (.int r.1)) r.2) {n : Nat} {a0 : Nat} {a1 : Nat} {i4 : Int32} {i5 : Int32} {i6 : Int32} {M : zM} : f_X2_value_75 n a0 a1 i4 i5 i6 M = some r → V L X yX2_value cX2_value 7 (some FieldType.int) 4 M0 N Q M 75 [(0, .ref (zad L (a0))), (1, .ref (zad L (a1))), (4, .int (i4)), (5, .int (i5)), (6, .int (i6))] [] := by
  induction n generalizing a0 a1 i4 i5 i6 M with
  | zero =>
    intro h
    rw [f_X2_value_75] at h
    cases h
  | succ n ih0 =>
    intro h
    have ih : ∀ (a0 : Nat) (a1 : Nat) (i4 : Int32) (i5 : Int32) (i6 : Int32) (M : zM), f_X2_value_75 n a0 a1 i4 i5 i6 M = some r → V L X yX2_value cX2_value 7 (some FieldType.int) 4 M0 N Q M 75 [(0, .ref (zad L (a0))), (1, .ref (zad L (a1))), (4, .int (i4)), (5, .int (i5)), (6, .int (i6))] [] := fun a0 a1 i4 i5 i6 M h => ih0 h
    rw [f_X2_value_75] at h
    refine V_iload dX2_value_75 4 rfl ?_
    refine V_bipush (v := 25) dX2_value_77 (by decide) ?_
    refine V_icmp_ge (tgt := 99) dX2_value_79 (by decide) (fun c8 => ?_) (fun c8 => ?_)
    · replace h := (oi h).1 c8
      refine V_iload dX2_value_99 3 rfl ?_
      refine V_aload_n dX2_value_101 rfl 0 rfl ?_
      refine V_bipush (v := 18) dX2_value_102 (by decide) ?_
      refine V_iload dX2_value_104 2 rfl ?_
      refine V_iadd dX2_value_106 ?_
      replace h := ox h
      obtain ⟨c2, h⟩ := h
      replace h := ob h
      obtain ⟨r1, e_r1, h⟩ := h
      refine V_callV_I (As := [.int ((((18 : Int32)) + i4))]) (rest := [.int (i5)]) (c_X2_setOf e_r1) zc_X2_setOf rfl (by decide) rfl (by decide) (Or.inl c2) zm_X2_29 (Nat.le_of_ble_eq_true rfl) rfl dX2_value_107 ?_
      refine V_pc (pc' := 110) rfl ?_
      refine V_iadd dX2_value_110 ?_
      refine V_istore (ls' := [(5, .int ((i5 + r1.1))), (0, .ref (zad L (a0))), (1, .ref (zad L (a1))), (4, .int (i4)), (6, .int (i6))]) dX2_value_111 (by decide) rfl ?_
      refine V_iload dX2_value_113 0 rfl ?_
      refine V_aload_n dX2_value_115 rfl 1 rfl ?_
      replace h := ox h
      obtain ⟨c4, h⟩ := h
      replace h := ob h
      obtain ⟨r3, e_r3, h⟩ := h
      refine V_callV_I (As := []) (rest := [.int ((i5 + r1.1))]) (c_X2_withoutEndsAndHonours e_r3) zc_X2_withoutEndsAndHonours rfl (by decide) rfl (by decide) (Or.inl c4) zm_X2_33 (Nat.le_of_ble_eq_true rfl) rfl dX2_value_116 ?_
      refine V_pc (pc' := 119) rfl ?_
      refine V_if_eq (tgt := 126) dX2_value_119 (by decide) (fun c5 => ?_) (fun c5 => ?_)
      · replace h := (oi h).1 c5
        refine V_iconst (v := 0) dX2_value_126 (by decide) ?_
        refine V_sub [1, 2] rfl ?_
        exact s_X2_value_127 hq h
      · replace h := (oi h).2 c5
        refine V_iconst (v := 1) dX2_value_122 (by decide) ?_
        refine V_goto (tgt := 127) dX2_value_123 (by decide) ?_
        refine V_sub [1, 2] rfl ?_
        exact s_X2_value_127 hq h
    · replace h := (oi h).2 c8
      refine V_iload dX2_value_82 3 rfl ?_
      refine V_aload_n dX2_value_84 rfl 0 rfl ?_
      refine V_iload dX2_value_85 4 rfl ?_
      replace h := ox h
      obtain ⟨c7, h⟩ := h
      replace h := ob h
      obtain ⟨r6, e_r6, h⟩ := h
      refine V_callV_I (As := [.int (i6)]) (rest := [.int (i5)]) (c_X2_setOf e_r6) zc_X2_setOf rfl (by decide) rfl (by decide) (Or.inl c7) zm_X2_29 (Nat.le_of_ble_eq_true rfl) rfl dX2_value_87 ?_
      refine V_pc (pc' := 90) rfl ?_
      refine V_iadd dX2_value_90 ?_
      refine V_istore (ls' := [(5, .int ((i5 + r6.1))), (0, .ref (zad L (a0))), (1, .ref (zad L (a1))), (4, .int (i4)), (6, .int (i6))]) dX2_value_91 (by decide) rfl ?_
      refine V_iinc (v := i6 + (1 : Int32)) (ls' := [(6, .int ((i6 + (1 : Int32)))), (5, .int ((i5 + r6.1))), (0, .ref (zad L (a0))), (1, .ref (zad L (a1))), (4, .int (i4))]) dX2_value_93 4 rfl (by rfl) (by decide) rfl ?_
      refine V_goto (tgt := 75) dX2_value_96 (by decide) ?_
      refine V_sub [2, 3, 4, 1, 0] rfl ?_
      exact ih _ _ _ _ _ _ h
def f_X2_value_68 (a0 : Nat) (a1 : Nat) (i4 : Int32) (i_0 : Int32) (i_1 : Int32) (M : zM) : Option (Int32 × zM) :=
  f_X2_value_75 zN a0 a1 i4 ((i_1 + i_0)) ((22 : Int32)) M
set_option maxRecDepth 20000 in
set_option maxHeartbeats 4000000 in
theorem s_X2_value_68 {L : zL} {X : zX} {M0 : zM} {N : Nat × Nat} {Q : State → Prop} {r : Int32 × zM} (hq : vQ L X M0 N Q (some (.int r.1)) r.2) {a0 : Nat} {a1 : Nat} {i4 : Int32} {i_0 : Int32} {i_1 : Int32} {M : zM} (h : f_X2_value_68 a0 a1 i4 i_0 i_1 M = some r) : V L X yX2_value cX2_value 7 (some FieldType.int) 4 M0 N Q M 68 [(0, .ref (zad L (a0))), (1, .ref (zad L (a1))), (4, .int (i4))] [.int (i_0), .int (i_1)] := by
  unfold f_X2_value_68 at h
  refine V_iadd dX2_value_68 ?_
  refine V_istore (ls' := [(5, .int ((i_1 + i_0))), (0, .ref (zad L (a0))), (1, .ref (zad L (a1))), (4, .int (i4))]) dX2_value_69 (by decide) rfl ?_
  refine V_bipush (v := 22) dX2_value_71 (by decide) ?_
  refine V_istore (ls' := [(6, .int ((22 : Int32))), (5, .int ((i_1 + i_0))), (0, .ref (zad L (a0))), (1, .ref (zad L (a1))), (4, .int (i4))]) dX2_value_73 (by decide) rfl ?_
  refine V_sub [2, 3, 4, 1, 0] rfl ?_
  exact s_X2_value_75 hq h
def f_X2_value_67 (a0 : Nat) (a1 : Nat) (i4 : Int32) (i_0 : Int32) (M : zM) : Option (Int32 × zM) :=
  f_X2_value_68 a0 a1 i4 ((0 : Int32)) i_0 M
set_option maxRecDepth 20000 in
set_option maxHeartbeats 4000000 in
theorem s_X2_value_67 {L : zL} {X : zX} {M0 : zM} {N : Nat × Nat} {Q : State → Prop} {r : Int32 × zM} (hq : vQ L X M0 N Q (some (.int r.1)) r.2) {a0 : Nat} {a1 : Nat} {i4 : Int32} {i_0 : Int32} {M : zM} (h : f_X2_value_67 a0 a1 i4 i_0 M = some r) : V L X yX2_value cX2_value 7 (some FieldType.int) 4 M0 N Q M 67 [(0, .ref (zad L (a0))), (1, .ref (zad L (a1))), (4, .int (i4))] [.int (i_0)] := by
  unfold f_X2_value_67 at h
  refine V_iconst (v := 0) dX2_value_67 (by decide) ?_
  exact s_X2_value_68 hq h
def f_X2_value_43 (a0 : Nat) (a1 : Nat) (i3 : Int32) (i4 : Int32) (i_0 : Int32) (i_1 : Int32) (M : zM) : Option (Int32 × zM) :=
  if i3 < 0 then
  f_X2_value_67 a0 a1 i4 ((i_1 + i_0)) M
  else
  if ((25 : Int32)) ≤ i3 then
  f_X2_value_67 a0 a1 i4 ((i_1 + i_0)) M
  else
  (gR 8 0 M a0).bind fun v1 =>
  (lA 0 M v1 i3).bind fun v2 =>
  f_X2_value_68 a0 a1 i4 v2 ((i_1 + i_0)) M
set_option maxRecDepth 20000 in
set_option maxHeartbeats 4000000 in
theorem s_X2_value_43 {L : zL} {X : zX} {M0 : zM} {N : Nat × Nat} {Q : State → Prop} {r : Int32 × zM} (hq : vQ L X M0 N Q (some (.int r.1)) r.2) {a0 : Nat} {a1 : Nat} {i3 : Int32} {i4 : Int32} {i_0 : Int32} {i_1 : Int32} {M : zM} (h : f_X2_value_43 a0 a1 i3 i4 i_0 i_1 M = some r) : V L X yX2_value cX2_value 7 (some FieldType.int) 4 M0 N Q M 43 [(0, .ref (zad L (a0))), (1, .ref (zad L (a1))), (3, .int (i3)), (4, .int (i4))] [.int (i_0), .int (i_1)] := by
  unfold f_X2_value_43 at h
  refine V_iadd dX2_value_43 ?_
  refine V_istore (ls' := [(5, .int ((i_1 + i_0))), (0, .ref (zad L (a0))), (1, .ref (zad L (a1))), (3, .int (i3)), (4, .int (i4))]) dX2_value_44 (by decide) rfl ?_
  refine V_iload dX2_value_46 0 rfl ?_
  refine V_iload_n dX2_value_48 rfl 3 rfl ?_
  refine V_if_lt (tgt := 67) dX2_value_49 (by decide) (fun c4 => ?_) (fun c4 => ?_)
  · replace h := (oi h).1 c4
    refine V_sub [1, 2, 4] rfl ?_
    exact s_X2_value_67 hq h
  · replace h := (oi h).2 c4
    refine V_iload_n dX2_value_52 rfl 3 rfl ?_
    refine V_bipush (v := 25) dX2_value_53 (by decide) ?_
    refine V_icmp_ge (tgt := 67) dX2_value_55 (by decide) (fun c3 => ?_) (fun c3 => ?_)
    · replace h := (oi h).1 c3
      refine V_sub [1, 2, 4] rfl ?_
      exact s_X2_value_67 hq h
    · replace h := (oi h).2 c3
      refine V_aload_n dX2_value_58 rfl 1 rfl ?_
      replace h := ob h
      obtain ⟨v1, e_v1, h⟩ := h
      refine V_getR zf_8_0 zl_X2_9 e_v1 dX2_value_59 ?_
      refine V_pc (pc' := 62) rfl ?_
      refine V_iload_n dX2_value_62 rfl 3 rfl ?_
      replace h := ob h
      obtain ⟨v2, e_v2, h⟩ := h
      refine V_iald e_v2 dX2_value_63 ?_
      refine V_pc (pc' := 64) rfl ?_
      refine V_goto (tgt := 68) dX2_value_64 (by decide) ?_
      refine V_sub [1, 2, 4] rfl ?_
      exact s_X2_value_68 hq h
def f_X2_value_42 (a0 : Nat) (a1 : Nat) (i3 : Int32) (i4 : Int32) (i_0 : Int32) (M : zM) : Option (Int32 × zM) :=
  f_X2_value_43 a0 a1 i3 i4 ((0 : Int32)) i_0 M
set_option maxRecDepth 20000 in
set_option maxHeartbeats 4000000 in
theorem s_X2_value_42 {L : zL} {X : zX} {M0 : zM} {N : Nat × Nat} {Q : State → Prop} {r : Int32 × zM} (hq : vQ L X M0 N Q (some (.int r.1)) r.2) {a0 : Nat} {a1 : Nat} {i3 : Int32} {i4 : Int32} {i_0 : Int32} {M : zM} (h : f_X2_value_42 a0 a1 i3 i4 i_0 M = some r) : V L X yX2_value cX2_value 7 (some FieldType.int) 4 M0 N Q M 42 [(0, .ref (zad L (a0))), (1, .ref (zad L (a1))), (3, .int (i3)), (4, .int (i4))] [.int (i_0)] := by
  unfold f_X2_value_42 at h
  refine V_iconst (v := 0) dX2_value_42 (by decide) ?_
  exact s_X2_value_43 hq h
def f_X2_value_22 (a0 : Nat) (a1 : Nat) (i2 : Int32) (i3 : Int32) (i4 : Int32) (i_0 : Int32) (i_1 : Int32) (M : zM) : Option (Int32 × zM) :=
  if i2 = 0 then
  f_X2_value_42 a0 a1 i3 i4 ((i_1 + i_0)) M
  else
  if mK M a1 = 7 then
  (f_X1_openSets a1 M).bind fun r1 =>
  if r1.1 = 0 then
  f_X2_value_43 a0 a1 i3 i4 ((1 : Int32)) ((i_1 + i_0)) r1.2
  else
  f_X2_value_42 a0 a1 i3 i4 ((i_1 + i_0)) r1.2
  else none
set_option maxRecDepth 20000 in
set_option maxHeartbeats 4000000 in
theorem s_X2_value_22 {L : zL} {X : zX} {M0 : zM} {N : Nat × Nat} {Q : State → Prop} {r : Int32 × zM} (hq : vQ L X M0 N Q (some (.int r.1)) r.2) {a0 : Nat} {a1 : Nat} {i2 : Int32} {i3 : Int32} {i4 : Int32} {i_0 : Int32} {i_1 : Int32} {M : zM} (h : f_X2_value_22 a0 a1 i2 i3 i4 i_0 i_1 M = some r) : V L X yX2_value cX2_value 7 (some FieldType.int) 4 M0 N Q M 22 [(0, .ref (zad L (a0))), (1, .ref (zad L (a1))), (2, .int (i2)), (3, .int (i3)), (4, .int (i4))] [.int (i_0), .int (i_1)] := by
  unfold f_X2_value_22 at h
  refine V_iadd dX2_value_22 ?_
  refine V_istore (ls' := [(5, .int ((i_1 + i_0))), (0, .ref (zad L (a0))), (1, .ref (zad L (a1))), (2, .int (i2)), (3, .int (i3)), (4, .int (i4))]) dX2_value_23 (by decide) rfl ?_
  refine V_iload dX2_value_25 0 rfl ?_
  refine V_iload_n dX2_value_27 rfl 3 rfl ?_
  refine V_if_eq (tgt := 42) dX2_value_28 (by decide) (fun c4 => ?_) (fun c4 => ?_)
  · replace h := (oi h).1 c4
    refine V_sub [1, 2, 4, 5] rfl ?_
    exact s_X2_value_42 hq h
  · replace h := (oi h).2 c4
    refine V_aload_n dX2_value_31 rfl 2 rfl ?_
    replace h := ox h
    obtain ⟨c2, h⟩ := h
    replace h := ob h
    obtain ⟨r1, e_r1, h⟩ := h
    refine V_callV_I (As := []) (rest := [.int ((i_1 + i_0))]) (c_X1_openSets e_r1) zc_X1_openSets rfl (by decide) rfl (by decide) (Or.inl c2) zm_X2_25 (Nat.le_of_ble_eq_true rfl) rfl dX2_value_32 ?_
    refine V_pc (pc' := 35) rfl ?_
    refine V_if_ne (tgt := 42) dX2_value_35 (by decide) (fun c3 => ?_) (fun c3 => ?_)
    · replace h := (oi h).2 c3
      refine V_sub [1, 2, 4, 5] rfl ?_
      exact s_X2_value_42 hq h
    · replace h := (oi h).1 c3
      refine V_iconst (v := 1) dX2_value_38 (by decide) ?_
      refine V_goto (tgt := 43) dX2_value_39 (by decide) ?_
      refine V_sub [1, 2, 4, 5] rfl ?_
      exact s_X2_value_43 hq h
def f_X2_value_0 (a0 : Nat) (a1 : Nat) (i2 : Int32) (i3 : Int32) (i4 : Int32) (M : zM) : Option (Int32 × zM) :=
  if mK M a0 = 8 then
  (f_X2_gather a0 a1 M).bind fun r1 =>
  (gI 7 6 r1.2 a1).bind fun v3 =>
  if v3 = 0 then
  f_X2_value_22 a0 a1 i2 i3 i4 ((0 : Int32)) ((1 : Int32)) r1.2
  else
  f_X2_value_22 a0 a1 i2 i3 i4 ((1 : Int32)) ((1 : Int32)) r1.2
  else none
set_option maxRecDepth 20000 in
set_option maxHeartbeats 4000000 in
theorem s_X2_value_0 {L : zL} {X : zX} {M0 : zM} {N : Nat × Nat} {Q : State → Prop} {r : Int32 × zM} (hq : vQ L X M0 N Q (some (.int r.1)) r.2) {a0 : Nat} {a1 : Nat} {i2 : Int32} {i3 : Int32} {i4 : Int32} {M : zM} (h : f_X2_value_0 a0 a1 i2 i3 i4 M = some r) : V L X yX2_value cX2_value 7 (some FieldType.int) 4 M0 N Q M 0 [(0, .ref (zad L (a0))), (1, .ref (zad L (a1))), (2, .int (i2)), (3, .int (i3)), (4, .int (i4))] [] := by
  unfold f_X2_value_0 at h
  refine V_aload_n dX2_value_0 rfl 0 rfl ?_
  refine V_aload_n dX2_value_1 rfl 1 rfl ?_
  replace h := ox h
  obtain ⟨c2, h⟩ := h
  replace h := ob h
  obtain ⟨r1, e_r1, h⟩ := h
  refine V_callV_V (As := [.ref (zad L (a1))]) (rest := []) (c_X2_gather e_r1) zc_X2_gather rfl (by decide) rfl (by decide) (Or.inl c2) zm_X2_15 (Nat.le_of_ble_eq_true rfl) rfl dX2_value_2 ?_
  refine V_pc (pc' := 5) rfl ?_
  refine V_iconst (v := 1) dX2_value_5 (by decide) ?_
  refine V_istore (ls' := [(5, .int ((1 : Int32))), (0, .ref (zad L (a0))), (1, .ref (zad L (a1))), (2, .int (i2)), (3, .int (i3)), (4, .int (i4))]) dX2_value_6 (by decide) rfl ?_
  refine V_iload dX2_value_8 0 rfl ?_
  refine V_aload_n dX2_value_10 rfl 2 rfl ?_
  replace h := ob h
  obtain ⟨v3, e_v3, h⟩ := h
  refine V_getI zf_7_6 zl_X2_19 e_v3 dX2_value_11 ?_
  refine V_pc (pc' := 14) rfl ?_
  refine V_if_eq (tgt := 21) dX2_value_14 (by decide) (fun c4 => ?_) (fun c4 => ?_)
  · replace h := (oi h).1 c4
    refine V_iconst (v := 0) dX2_value_21 (by decide) ?_
    refine V_sub [1, 2, 3, 4, 5] rfl ?_
    exact s_X2_value_22 hq h
  · replace h := (oi h).2 c4
    refine V_iconst (v := 1) dX2_value_17 (by decide) ?_
    refine V_goto (tgt := 22) dX2_value_18 (by decide) ?_
    refine V_sub [1, 2, 3, 4, 5] rfl ?_
    exact s_X2_value_22 hq h
def f_X2_value (a0 : Nat) (a1 : Nat) (i2 : Int32) (i3 : Int32) (i4 : Int32) (M : zM) : Option (Int32 × zM) := f_X2_value_0 a0 a1 i2 i3 i4 M
theorem c_X2_value {L : zL} {l : Launch} {a0 : Nat} {a1 : Nat} {i2 : Int32} {i3 : Int32} {i4 : Int32} {M : zM} {r : Int32 × zM} (h : f_X2_value a0 a1 i2 i3 i4 M = some r) : CP L l yX2_value cX2_value 7 (some FieldType.int) 4 M [.ref (zad L (a0)), .ref (zad L (a1)), .int (i2), .int (i3), .int (i4)] (some (.int r.1)) r.2 :=
  CP.of ⟨by decide +kernel, by decide +kernel⟩ (Nat.le_of_ble_eq_true rfl) fun X Q hq => s_X2_value_0 hq h
