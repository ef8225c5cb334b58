/-! ===== METHODS, by program ===== -/
/-! Windsparlour$Seat.<init>()V -/
theorem dX1_init_0 : decode cX1_init 0 = .ok (.aload_n 0, 1) := by decide +kernel
theorem dX1_init_1 : decode cX1_init 1 = .ok (.invokespecial 3, 3) := by decide +kernel
theorem dX1_init_4 : decode cX1_init 4 = .ok (.aload_n 0, 1) := by decide +kernel
theorem dX1_init_5 : decode cX1_init 5 = .ok (.bipush 25, 2) := by decide +kernel
theorem dX1_init_7 : decode cX1_init 7 = .ok (.newarray .int, 2) := by decide +kernel
theorem dX1_init_9 : decode cX1_init 9 = .ok (.putfield 9, 3) := by decide +kernel
theorem dX1_init_12 : decode cX1_init 12 = .ok (.aload_n 0, 1) := by decide +kernel
theorem dX1_init_13 : decode cX1_init 13 = .ok (.iconst 3, 1) := by decide +kernel
theorem dX1_init_14 : decode cX1_init 14 = .ok (.newarray .int, 2) := by decide +kernel
theorem dX1_init_16 : decode cX1_init 16 = .ok (.putfield 15, 3) := by decide +kernel
theorem dX1_init_19 : decode cX1_init 19 = .ok (.aload_n 0, 1) := by decide +kernel
theorem dX1_init_20 : decode cX1_init 20 = .ok (.bipush 64, 2) := by decide +kernel
theorem dX1_init_22 : decode cX1_init 22 = .ok (.newarray .int, 2) := by decide +kernel
theorem dX1_init_24 : decode cX1_init 24 = .ok (.putfield 18, 3) := by decide +kernel
theorem dX1_init_27 : decode cX1_init 27 = .ok (.aload_n 0, 1) := by decide +kernel
theorem dX1_init_28 : decode cX1_init 28 = .ok (.lconst 0, 1) := by decide +kernel
theorem dX1_init_29 : decode cX1_init 29 = .ok (.putfield 21, 3) := by decide +kernel
theorem dX1_init_32 : decode cX1_init 32 = .ok (.aload_n 0, 1) := by decide +kernel
theorem dX1_init_33 : decode cX1_init 33 = .ok (.iconst 0, 1) := by decide +kernel
theorem dX1_init_34 : decode cX1_init 34 = .ok (.putfield 25, 3) := by decide +kernel
theorem dX1_init_37 : decode cX1_init 37 = .ok (.aload_n 0, 1) := by decide +kernel
theorem dX1_init_38 : decode cX1_init 38 = .ok (.iconst 0, 1) := by decide +kernel
theorem dX1_init_39 : decode cX1_init 39 = .ok (.putfield 29, 3) := by decide +kernel
theorem dX1_init_42 : decode cX1_init 42 = .ok (.aload_n 0, 1) := by decide +kernel
theorem dX1_init_43 : decode cX1_init 43 = .ok (.iconst 0, 1) := by decide +kernel
theorem dX1_init_44 : decode cX1_init 44 = .ok (.putfield 32, 3) := by decide +kernel
theorem dX1_init_47 : decode cX1_init 47 = .ok (.aload_n 0, 1) := by decide +kernel
theorem dX1_init_48 : decode cX1_init 48 = .ok (.sipush 250, 3) := by decide +kernel
theorem dX1_init_51 : decode cX1_init 51 = .ok (.putfield 36, 3) := by decide +kernel
theorem dX1_init_54 : decode cX1_init 54 = .ok (.aload_n 0, 1) := by decide +kernel
theorem dX1_init_55 : decode cX1_init 55 = .ok (.iconst 0, 1) := by decide +kernel
theorem dX1_init_56 : decode cX1_init 56 = .ok (.putfield 39, 3) := by decide +kernel
theorem dX1_init_59 : decode cX1_init 59 = .ok (.return_, 1) := by decide +kernel
def f_X1_init_0 (a0 : Nat) (M : zM) : Option (Unit × zM) :=
  (aA 0 M ((25 : Int32))).bind fun r1 =>
  (pR 7 0 r1.2 a0 r1.1).bind fun M2 =>
  (aA 0 M2 ((3 : Int32))).bind fun r3 =>
  (pR 7 1 r3.2 a0 r3.1).bind fun M4 =>
  (aA 0 M4 ((64 : Int32))).bind fun r5 =>
  (pR 7 2 r5.2 a0 r5.1).bind fun M6 =>
  (pJ 7 3 M6 a0 ((0 : Int64))).bind fun M7 =>
  (pI 7 4 M7 a0 ((0 : Int32))).bind fun M8 =>
  (pI 7 5 M8 a0 ((0 : Int32))).bind fun M9 =>
  (pZ 7 6 M9 a0 ((0 : Int32))).bind fun M10 =>
  (pI 7 7 M10 a0 ((250 : Int32))).bind fun M11 =>
  (pI 7 8 M11 a0 ((0 : Int32))).bind fun M12 =>
  some ((), M12)
set_option maxRecDepth 20000 in
set_option maxHeartbeats 4000000 in
theorem s_X1_init_0 {L : zL} {X : zX} {M0 : zM} {N : Nat × Nat} {Q : State → Prop} {r : Unit × zM} (hq : vQ L X M0 N Q none r.2) {a0 : Nat} {M : zM} (h : f_X1_init_0 a0 M = some r) : V L X yX1_init cX1_init 1 (none : Option FieldType) 1 M0 N Q M 0 [(0, .ref (zad L (a0)))] [] := by
  unfold f_X1_init_0 at h
  refine V_aload_n dX1_init_0 rfl 0 rfl ?_
  refine V_objInit zo_X1_3 (by decide) (Nat.le_of_ble_eq_true rfl) dX1_init_1 ?_
  refine V_aload_n dX1_init_4 rfl 0 rfl ?_
  refine V_bipush (v := 25) dX1_init_5 (by decide) ?_
  replace h := ob h
  obtain ⟨r1, e_r1, h⟩ := h
  refine V_newa (t := 0) (by decide) rfl zna_0 e_r1 dX1_init_7 ?_
  refine V_pc (pc' := 9) rfl ?_
  replace h := ob h
  obtain ⟨M2, e_M2, h⟩ := h
  refine V_putR zf_7_0 zl_X1_9 (Or.inr ⟨rfl, rfl, rfl⟩) rfl e_M2 dX1_init_9 ?_
  refine V_pc (pc' := 12) rfl ?_
  refine V_aload_n dX1_init_12 rfl 0 rfl ?_
  refine V_iconst (v := 3) dX1_init_13 (by decide) ?_
  replace h := ob h
  obtain ⟨r3, e_r3, h⟩ := h
  refine V_newa (t := 0) (by decide) rfl zna_0 e_r3 dX1_init_14 ?_
  refine V_pc (pc' := 16) rfl ?_
  replace h := ob h
  obtain ⟨M4, e_M4, h⟩ := h
  refine V_putR zf_7_1 zl_X1_15 (Or.inr ⟨rfl, rfl, rfl⟩) rfl e_M4 dX1_init_16 ?_
  refine V_pc (pc' := 19) rfl ?_
  refine V_aload_n dX1_init_19 rfl 0 rfl ?_
  refine V_bipush (v := 64) dX1_init_20 (by decide) ?_
  replace h := ob h
  obtain ⟨r5, e_r5, h⟩ := h
  refine V_newa (t := 0) (by decide) rfl zna_0 e_r5 dX1_init_22 ?_
  refine V_pc (pc' := 24) rfl ?_
  replace h := ob h
  obtain ⟨M6, e_M6, h⟩ := h
  refine V_putR zf_7_2 zl_X1_18 (Or.inr ⟨rfl, rfl, rfl⟩) rfl e_M6 dX1_init_24 ?_
  refine V_pc (pc' := 27) rfl ?_
  refine V_aload_n dX1_init_27 rfl 0 rfl ?_
  refine V_lconst (v := 0) dX1_init_28 (by decide) ?_
  replace h := ob h
  obtain ⟨M7, e_M7, h⟩ := h
  refine V_putJ zf_7_3 zl_X1_21 (Or.inl rfl) rfl e_M7 dX1_init_29 ?_
  refine V_pc (pc' := 32) rfl ?_
  refine V_aload_n dX1_init_32 rfl 0 rfl ?_
  refine V_iconst (v := 0) dX1_init_33 (by decide) ?_
  replace h := ob h
  obtain ⟨M8, e_M8, h⟩ := h
  refine V_putI zf_7_4 zl_X1_25 (Or.inl rfl) rfl e_M8 dX1_init_34 ?_
  refine V_pc (pc' := 37) rfl ?_
  refine V_aload_n dX1_init_37 rfl 0 rfl ?_
  refine V_iconst (v := 0) dX1_init_38 (by decide) ?_
  replace h := ob h
  obtain ⟨M9, e_M9, h⟩ := h
  refine V_putI zf_7_5 zl_X1_29 (Or.inl rfl) rfl e_M9 dX1_init_39 ?_
  refine V_pc (pc' := 42) rfl ?_
  refine V_aload_n dX1_init_42 rfl 0 rfl ?_
  refine V_iconst (v := 0) dX1_init_43 (by decide) ?_
  replace h := ob h
  obtain ⟨M10, e_M10, h⟩ := h
  refine V_putZ zf_7_6 zl_X1_32 (Or.inl rfl) rfl e_M10 dX1_init_44 ?_
  refine V_pc (pc' := 47) rfl ?_
  refine V_aload_n dX1_init_47 rfl 0 rfl ?_
  refine V_sipush (v := 250) dX1_init_48 (by decide) ?_
  replace h := ob h
  obtain ⟨M11, e_M11, h⟩ := h
  refine V_putI zf_7_7 zl_X1_36 (Or.inl rfl) rfl e_M11 dX1_init_51 ?_
  refine V_pc (pc' := 54) rfl ?_
  refine V_aload_n dX1_init_54 rfl 0 rfl ?_
  refine V_iconst (v := 0) dX1_init_55 (by decide) ?_
  replace h := ob h
  obtain ⟨M12, e_M12, h⟩ := h
  refine V_putI zf_7_8 zl_X1_39 (Or.inl rfl) rfl e_M12 dX1_init_56 ?_
  refine V_pc (pc' := 59) rfl ?_
  obtain rfl := Option.some.inj h
  exact V_vret rfl hq dX1_init_59
def f_X1_init (a0 : Nat) (M : zM) : Option (Unit × zM) := f_X1_init_0 a0 M
theorem c_X1_init {L : zL} {l : Launch} {a0 : Nat} {M : zM} {r : Unit × zM} (h : f_X1_init a0 M = some r) : CP L l yX1_init cX1_init 1 (none : Option FieldType) 1 M [.ref (zad L (a0))] none r.2 :=
  CP.of ⟨by decide +kernel, by decide +kernel⟩ (Nat.le_of_ble_eq_true rfl) fun X Q hq => s_X1_init_0 hq h
/-! Windsparlour$Seat.clear()V -/
theorem dX1_clear_0 : decode cX1_clear 0 = .ok (.iconst 0, 1) := by decide +kernel
theorem dX1_clear_1 : decode cX1_clear 1 = .ok (.istore_n 1, 1) := by decide +kernel
theorem dX1_clear_2 : decode cX1_clear 2 = .ok (.iload_n 1, 1) := by decide +kernel
theorem dX1_clear_3 : decode cX1_clear 3 = .ok (.bipush 25, 2) := by decide +kernel
theorem dX1_clear_5 : decode cX1_clear 5 = .ok (.if_icmp .ge 16, 3) := by decide +kernel
theorem dX1_clear_8 : decode cX1_clear 8 = .ok (.aload_n 0, 1) := by decide +kernel
theorem dX1_clear_9 : decode cX1_clear 9 = .ok (.getfield 9, 3) := by decide +kernel
theorem dX1_clear_12 : decode cX1_clear 12 = .ok (.iload_n 1, 1) := by decide +kernel
theorem dX1_clear_13 : decode cX1_clear 13 = .ok (.iconst 0, 1) := by decide +kernel
theorem dX1_clear_14 : decode cX1_clear 14 = .ok (.iastore, 1) := by decide +kernel
theorem dX1_clear_15 : decode cX1_clear 15 = .ok (.iinc 1 1, 3) := by decide +kernel
theorem dX1_clear_18 : decode cX1_clear 18 = .ok (.goto (-16), 3) := by decide +kernel
theorem dX1_clear_21 : decode cX1_clear 21 = .ok (.aload_n 0, 1) := by decide +kernel
theorem dX1_clear_22 : decode cX1_clear 22 = .ok (.lconst 0, 1) := by decide +kernel
theorem dX1_clear_23 : decode cX1_clear 23 = .ok (.putfield 21, 3) := by decide +kernel
theorem dX1_clear_26 : decode cX1_clear 26 = .ok (.aload_n 0, 1) := by decide +kernel
theorem dX1_clear_27 : decode cX1_clear 27 = .ok (.iconst 0, 1) := by decide +kernel
theorem dX1_clear_28 : decode cX1_clear 28 = .ok (.putfield 25, 3) := by decide +kernel
theorem dX1_clear_31 : decode cX1_clear 31 = .ok (.aload_n 0, 1) := by decide +kernel
theorem dX1_clear_32 : decode cX1_clear 32 = .ok (.iconst 0, 1) := by decide +kernel
theorem dX1_clear_33 : decode cX1_clear 33 = .ok (.putfield 29, 3) := by decide +kernel
theorem dX1_clear_36 : decode cX1_clear 36 = .ok (.aload_n 0, 1) := by decide +kernel
theorem dX1_clear_37 : decode cX1_clear 37 = .ok (.iconst 0, 1) := by decide +kernel
theorem dX1_clear_38 : decode cX1_clear 38 = .ok (.putfield 32, 3) := by decide +kernel
theorem dX1_clear_41 : decode cX1_clear 41 = .ok (.return_, 1) := by decide +kernel
def f_X1_clear_2 (n : Nat) (a0 : Nat) (i1 : Int32) (M : zM) : Option (Unit × zM) := match n with
  | 0 => none
  | n + 1 =>
    if ((25 : Int32)) ≤ i1 then
    (pJ 7 3 M a0 ((0 : Int64))).bind fun M1 =>
    (pI 7 4 M1 a0 ((0 : Int32))).bind fun M2 =>
    (pI 7 5 M2 a0 ((0 : Int32))).bind fun M3 =>
    (pZ 7 6 M3 a0 ((0 : Int32))).bind fun M4 =>
    some ((), M4)
    else
    (gR 7 0 M a0).bind fun v5 =>
    (tA M v5 i1 ((0 : Int32))).bind fun M6 =>
    f_X1_clear_2 n a0 ((i1 + (1 : Int32))) M6
set_option maxRecDepth 20000 in
set_option maxHeartbeats 4000000 in
theorem s_X1_clear_2 {L : zL} {X : zX} {M0 : zM} {N : Nat × Nat} {Q : State → Prop} {r : Unit × zM} (hq : vQ L X M0 N Q none r.2) {n : Nat} {a0 : Nat} {i1 : Int32} {M : zM} : f_X1_clear_2 n a0 i1 M = some r → V L X yX1_clear cX1_clear 2 (none : Option FieldType) 1 M0 N Q M 2 [(0, .ref (zad L (a0))), (1, .int (i1))] [] := by
  induction n generalizing a0 i1 M with
  | zero =>
    intro h
    rw [f_X1_clear_2] at h
    cases h
  | succ n ih0 =>
    intro h
    have ih : ∀ (a0 : Nat) (i1 : Int32) (M : zM), f_X1_clear_2 n a0 i1 M = some r → V L X yX1_clear cX1_clear 2 (none : Option FieldType) 1 M0 N Q M 2 [(0, .ref (zad L (a0))), (1, .int (i1))] [] := fun a0 i1 M h => ih0 h
    rw [f_X1_clear_2] at h
    refine V_iload_n dX1_clear_2 rfl 1 rfl ?_
    refine V_bipush (v := 25) dX1_clear_3 (by decide) ?_
    refine V_icmp_ge (tgt := 21) dX1_clear_5 (by decide) (fun c7 => ?_) (fun c7 => ?_)
    · replace h := (oi h).1 c7
      refine V_aload_n dX1_clear_21 rfl 0 rfl ?_
      refine V_lconst (v := 0) dX1_clear_22 (by decide) ?_
      replace h := ob h
      obtain ⟨M1, e_M1, h⟩ := h
      refine V_putJ zf_7_3 zl_X1_21 (Or.inl rfl) rfl e_M1 dX1_clear_23 ?_
      refine V_pc (pc' := 26) rfl ?_
      refine V_aload_n dX1_clear_26 rfl 0 rfl ?_
      refine V_iconst (v := 0) dX1_clear_27 (by decide) ?_
      replace h := ob h
      obtain ⟨M2, e_M2, h⟩ := h
      refine V_putI zf_7_4 zl_X1_25 (Or.inl rfl) rfl e_M2 dX1_clear_28 ?_
      refine V_pc (pc' := 31) rfl ?_
      refine V_aload_n dX1_clear_31 rfl 0 rfl ?_
      refine V_iconst (v := 0) dX1_clear_32 (by decide) ?_
      replace h := ob h
      obtain ⟨M3, e_M3, h⟩ := h
      refine V_putI zf_7_5 zl_X1_29 (Or.inl rfl) rfl e_M3 dX1_clear_33 ?_
      refine V_pc (pc' := 36) rfl ?_
      refine V_aload_n dX1_clear_36 rfl 0 rfl ?_
      refine V_iconst (v := 0) dX1_clear_37 (by decide) ?_
      replace h := ob h
      obtain ⟨M4, e_M4, h⟩ := h
      refine V_putZ zf_7_6 zl_X1_32 (Or.inl rfl) rfl e_M4 dX1_clear_38 ?_
      refine V_pc (pc' := 41) rfl ?_
      obtain rfl := Option.some.inj h
      exact V_vret rfl hq dX1_clear_41
    · replace h := (oi h).2 c7
      refine V_aload_n dX1_clear_8 rfl 0 rfl ?_
      replace h := ob h
      obtain ⟨v5, e_v5, h⟩ := h
      refine V_getR zf_7_0 zl_X1_9 e_v5 dX1_clear_9 ?_
      refine V_pc (pc' := 12) rfl ?_
      refine V_iload_n dX1_clear_12 rfl 1 rfl ?_
      refine V_iconst (v := 0) dX1_clear_13 (by decide) ?_
      replace h := ob h
      obtain ⟨M6, e_M6, h⟩ := h
      refine V_iast e_M6 dX1_clear_14 ?_
      refine V_iinc (v := i1 + (1 : Int32)) (ls' := [(1, .int ((i1 + (1 : Int32)))), (0, .ref (zad L (a0)))]) dX1_clear_15 1 rfl (by rfl) (by decide) rfl ?_
      refine V_goto (tgt := 2) dX1_clear_18 (by decide) ?_
      refine V_sub [1, 0] rfl ?_
      exact ih _ _ _ h
def f_X1_clear_0 (a0 : Nat) (M : zM) : Option (Unit × zM) :=
  f_X1_clear_2 zN a0 ((0 : Int32)) M
set_option maxRecDepth 20000 in
set_option maxHeartbeats 4000000 in
theorem s_X1_clear_0 {L : zL} {X : zX} {M0 : zM} {N : Nat × Nat} {Q : State → Prop} {r : Unit × zM} (hq : vQ L X M0 N Q none r.2) {a0 : Nat} {M : zM} (h : f_X1_clear_0 a0 M = some r) : V L X yX1_clear cX1_clear 2 (none : Option FieldType) 1 M0 N Q M 0 [(0, .ref (zad L (a0)))] [] := by
  unfold f_X1_clear_0 at h
  refine V_iconst (v := 0) dX1_clear_0 (by decide) ?_
  refine V_istore_n (ls' := [(1, .int ((0 : Int32))), (0, .ref (zad L (a0)))]) dX1_clear_1 rfl (by decide) rfl ?_
  refine V_sub [1, 0] rfl ?_
  exact s_X1_clear_2 hq h
def f_X1_clear (a0 : Nat) (M : zM) : Option (Unit × zM) := f_X1_clear_0 a0 M
theorem c_X1_clear {L : zL} {l : Launch} {a0 : Nat} {M : zM} {r : Unit × zM} (h : f_X1_clear a0 M = some r) : CP L l yX1_clear cX1_clear 2 (none : Option FieldType) 1 M [.ref (zad L (a0))] none r.2 :=
  CP.of ⟨by decide +kernel, by decide +kernel⟩ (Nat.le_of_ble_eq_true rfl) fun X Q hq => s_X1_clear_0 hq h
/-! Windsparlour$Seat.count(I)I -/
theorem dX1_count_0 : decode cX1_count 0 = .ok (.iload_n 1, 1) := by decide +kernel
theorem dX1_count_1 : decode cX1_count 1 = .ok (.ifCond .lt 18, 3) := by decide +kernel
theorem dX1_count_4 : decode cX1_count 4 = .ok (.iload_n 1, 1) := by decide +kernel
theorem dX1_count_5 : decode cX1_count 5 = .ok (.bipush 25, 2) := by decide +kernel
theorem dX1_count_7 : decode cX1_count 7 = .ok (.if_icmp .ge 12, 3) := by decide +kernel
theorem dX1_count_10 : decode cX1_count 10 = .ok (.aload_n 0, 1) := by decide +kernel
theorem dX1_count_11 : decode cX1_count 11 = .ok (.getfield 9, 3) := by decide +kernel
theorem dX1_count_14 : decode cX1_count 14 = .ok (.iload_n 1, 1) := by decide +kernel
theorem dX1_count_15 : decode cX1_count 15 = .ok (.iaload, 1) := by decide +kernel
theorem dX1_count_16 : decode cX1_count 16 = .ok (.goto 4, 3) := by decide +kernel
theorem dX1_count_19 : decode cX1_count 19 = .ok (.iconst 0, 1) := by decide +kernel
theorem dX1_count_20 : decode cX1_count 20 = .ok (.ireturn, 1) := by decide +kernel
def f_X1_count_0 (a0 : Nat) (i1 : Int32) (M : zM) : Option (Int32 × zM) :=
  if i1 < 0 then
  some ((0 : Int32), M)
  else
  if ((25 : Int32)) ≤ i1 then
  some ((0 : Int32), M)
  else
  (gR 7 0 M a0).bind fun v1 =>
  (lA 0 M v1 i1).bind fun v2 =>
  some (v2, M)
set_option maxRecDepth 20000 in
set_option maxHeartbeats 4000000 in
theorem s_X1_count_0 {L : zL} {X : zX} {M0 : zM} {N : Nat × Nat} {Q : State → Prop} {r : Int32 × zM} (hq : vQ L X M0 N Q (some (.int r.1)) r.2) {a0 : Nat} {i1 : Int32} {M : zM} (h : f_X1_count_0 a0 i1 M = some r) : V L X yX1_count cX1_count 2 (some FieldType.int) 1 M0 N Q M 0 [(0, .ref (zad L (a0))), (1, .int (i1))] [] := by
  unfold f_X1_count_0 at h
  refine V_iload_n dX1_count_0 rfl 1 rfl ?_
  refine V_if_lt (tgt := 19) dX1_count_1 (by decide) (fun c4 => ?_) (fun c4 => ?_)
  · replace h := (oi h).1 c4
    refine V_iconst (v := 0) dX1_count_19 (by decide) ?_
    obtain rfl := Option.some.inj h
    exact V_iret rfl hq dX1_count_20
  · replace h := (oi h).2 c4
    refine V_iload_n dX1_count_4 rfl 1 rfl ?_
    refine V_bipush (v := 25) dX1_count_5 (by decide) ?_
    refine V_icmp_ge (tgt := 19) dX1_count_7 (by decide) (fun c3 => ?_) (fun c3 => ?_)
    · replace h := (oi h).1 c3
      refine V_iconst (v := 0) dX1_count_19 (by decide) ?_
      obtain rfl := Option.some.inj h
      exact V_iret rfl hq dX1_count_20
    · replace h := (oi h).2 c3
      refine V_aload_n dX1_count_10 rfl 0 rfl ?_
      replace h := ob h
      obtain ⟨v1, e_v1, h⟩ := h
      refine V_getR zf_7_0 zl_X1_9 e_v1 dX1_count_11 ?_
      refine V_pc (pc' := 14) rfl ?_
      refine V_iload_n dX1_count_14 rfl 1 rfl ?_
      replace h := ob h
      obtain ⟨v2, e_v2, h⟩ := h
      refine V_iald e_v2 dX1_count_15 ?_
      refine V_pc (pc' := 16) rfl ?_
      refine V_goto (tgt := 20) dX1_count_16 (by decide) ?_
      obtain rfl := Option.some.inj h
      exact V_iret rfl hq dX1_count_20
def f_X1_count (a0 : Nat) (i1 : Int32) (M : zM) : Option (Int32 × zM) := f_X1_count_0 a0 i1 M
theorem c_X1_count {L : zL} {l : Launch} {a0 : Nat} {i1 : Int32} {M : zM} {r : Int32 × zM} (h : f_X1_count a0 i1 M = some r) : CP L l yX1_count cX1_count 2 (some FieldType.int) 1 M [.ref (zad L (a0)), .int (i1)] (some (.int r.1)) r.2 :=
  CP.of ⟨by decide +kernel, by decide +kernel⟩ (Nat.le_of_ble_eq_true rfl) fun X Q hq => s_X1_count_0 hq h
/-! Windsparlour$Seat.change(II)V -/
theorem dX1_change_0 : decode cX1_change 0 = .ok (.iload_n 1, 1) := by decide +kernel
theorem dX1_change_1 : decode cX1_change 1 = .ok (.ifCond .lt 19, 3) := by decide +kernel
theorem dX1_change_4 : decode cX1_change 4 = .ok (.iload_n 1, 1) := by decide +kernel
theorem dX1_change_5 : decode cX1_change 5 = .ok (.bipush 25, 2) := by decide +kernel
theorem dX1_change_7 : decode cX1_change 7 = .ok (.if_icmp .ge 13, 3) := by decide +kernel
theorem dX1_change_10 : decode cX1_change 10 = .ok (.aload_n 0, 1) := by decide +kernel
theorem dX1_change_11 : decode cX1_change 11 = .ok (.getfield 9, 3) := by decide +kernel
theorem dX1_change_14 : decode cX1_change 14 = .ok (.iload_n 1, 1) := by decide +kernel
theorem dX1_change_15 : decode cX1_change 15 = .ok (.dup2, 1) := by decide +kernel
theorem dX1_change_16 : decode cX1_change 16 = .ok (.iaload, 1) := by decide +kernel
theorem dX1_change_17 : decode cX1_change 17 = .ok (.iload_n 2, 1) := by decide +kernel
theorem dX1_change_18 : decode cX1_change 18 = .ok (.iadd, 1) := by decide +kernel
theorem dX1_change_19 : decode cX1_change 19 = .ok (.iastore, 1) := by decide +kernel
theorem dX1_change_20 : decode cX1_change 20 = .ok (.return_, 1) := by decide +kernel
def f_X1_change_0 (a0 : Nat) (i1 : Int32) (i2 : Int32) (M : zM) : Option (Unit × zM) :=
  if i1 < 0 then
  some ((), M)
  else
  if ((25 : Int32)) ≤ i1 then
  some ((), M)
  else
  (gR 7 0 M a0).bind fun v1 =>
  (lA 0 M v1 i1).bind fun v2 =>
  (tA M v1 i1 ((v2 + i2))).bind fun M3 =>
  some ((), M3)
set_option maxRecDepth 20000 in
set_option maxHeartbeats 4000000 in
theorem s_X1_change_0 {L : zL} {X : zX} {M0 : zM} {N : Nat × Nat} {Q : State → Prop} {r : Unit × zM} (hq : vQ L X M0 N Q none r.2) {a0 : Nat} {i1 : Int32} {i2 : Int32} {M : zM} (h : f_X1_change_0 a0 i1 i2 M = some r) : V L X yX1_change cX1_change 3 (none : Option FieldType) 1 M0 N Q M 0 [(0, .ref (zad L (a0))), (1, .int (i1)), (2, .int (i2))] [] := by
  unfold f_X1_change_0 at h
  refine V_iload_n dX1_change_0 rfl 1 rfl ?_
  refine V_if_lt (tgt := 20) dX1_change_1 (by decide) (fun c5 => ?_) (fun c5 => ?_)
  · replace h := (oi h).1 c5
    obtain rfl := Option.some.inj h
    exact V_vret rfl hq dX1_change_20
  · replace h := (oi h).2 c5
    refine V_iload_n dX1_change_4 rfl 1 rfl ?_
    refine V_bipush (v := 25) dX1_change_5 (by decide) ?_
    refine V_icmp_ge (tgt := 20) dX1_change_7 (by decide) (fun c4 => ?_) (fun c4 => ?_)
    · replace h := (oi h).1 c4
      obtain rfl := Option.some.inj h
      exact V_vret rfl hq dX1_change_20
    · replace h := (oi h).2 c4
      refine V_aload_n dX1_change_10 rfl 0 rfl ?_
      replace h := ob h
      obtain ⟨v1, e_v1, h⟩ := h
      refine V_getR zf_7_0 zl_X1_9 e_v1 dX1_change_11 ?_
      refine V_pc (pc' := 14) rfl ?_
      refine V_iload_n dX1_change_14 rfl 1 rfl ?_
      refine V_dup2 dX1_change_15 rfl rfl ?_
      replace h := ob h
      obtain ⟨v2, e_v2, h⟩ := h
      refine V_iald e_v2 dX1_change_16 ?_
      refine V_pc (pc' := 17) rfl ?_
      refine V_iload_n dX1_change_17 rfl 2 rfl ?_
      refine V_iadd dX1_change_18 ?_
      replace h := ob h
      obtain ⟨M3, e_M3, h⟩ := h
      refine V_iast e_M3 dX1_change_19 ?_
      obtain rfl := Option.some.inj h
      exact V_vret rfl hq dX1_change_20
def f_X1_change (a0 : Nat) (i1 : Int32) (i2 : Int32) (M : zM) : Option (Unit × zM) := f_X1_change_0 a0 i1 i2 M
theorem c_X1_change {L : zL} {l : Launch} {a0 : Nat} {i1 : Int32} {i2 : Int32} {M : zM} {r : Unit × zM} (h : f_X1_change a0 i1 i2 M = some r) : CP L l yX1_change cX1_change 3 (none : Option FieldType) 1 M [.ref (zad L (a0)), .int (i1), .int (i2)] none r.2 :=
  CP.of ⟨by decide +kernel, by decide +kernel⟩ (Nat.le_of_ble_eq_true rfl) fun X Q hq => s_X1_change_0 hq h
/-! Windsparlour$Seat.inHand()I -/
theorem dX1_inHand_0 : decode cX1_inHand 0 = .ok (.iconst 0, 1) := by decide +kernel
theorem dX1_inHand_1 : decode cX1_inHand 1 = .ok (.istore_n 1, 1) := by decide +kernel
theorem dX1_inHand_2 : decode cX1_inHand 2 = .ok (.iconst 0, 1) := by decide +kernel
theorem dX1_inHand_3 : decode cX1_inHand 3 = .ok (.istore_n 2, 1) := by decide +kernel
theorem dX1_inHand_4 : decode cX1_inHand 4 = .ok (.iload_n 2, 1) := by decide +kernel
theorem dX1_inHand_5 : decode cX1_inHand 5 = .ok (.bipush 25, 2) := by decide +kernel
theorem dX1_inHand_7 : decode cX1_inHand 7 = .ok (.if_icmp .ge 18, 3) := by decide +kernel
theorem dX1_inHand_10 : decode cX1_inHand 10 = .ok (.iload_n 1, 1) := by decide +kernel
theorem dX1_inHand_11 : decode cX1_inHand 11 = .ok (.aload_n 0, 1) := by decide +kernel
theorem dX1_inHand_12 : decode cX1_inHand 12 = .ok (.getfield 9, 3) := by decide +kernel
theorem dX1_inHand_15 : decode cX1_inHand 15 = .ok (.iload_n 2, 1) := by decide +kernel
theorem dX1_inHand_16 : decode cX1_inHand 16 = .ok (.iaload, 1) := by decide +kernel
theorem dX1_inHand_17 : decode cX1_inHand 17 = .ok (.iadd, 1) := by decide +kernel
theorem dX1_inHand_18 : decode cX1_inHand 18 = .ok (.istore_n 1, 1) := by decide +kernel
theorem dX1_inHand_19 : decode cX1_inHand 19 = .ok (.iinc 2 1, 3) := by decide +kernel
theorem dX1_inHand_22 : decode cX1_inHand 22 = .ok (.goto (-18), 3) := by decide +kernel
theorem dX1_inHand_25 : decode cX1_inHand 25 = .ok (.iload_n 1, 1) := by decide +kernel
theorem dX1_inHand_26 : decode cX1_inHand 26 = .ok (.ireturn, 1) := by decide +kernel
def f_X1_inHand_4 (n : Nat) (a0 : Nat) (i1 : Int32) (i2 : Int32) (M : zM) : Option (Int32 × zM) := match n with
  | 0 => none
  | n + 1 =>
    if ((25 : Int32)) ≤ i2 then
    some (i1, M)
    else
    (gR 7 0 M a0).bind fun v1 =>
    (lA 0 M v1 i2).bind fun v2 =>
    f_X1_inHand_4 n a0 ((i1 + v2)) ((i2 + (1 : Int32))) M
set_option maxRecDepth 20000 in
set_option maxHeartbeats 4000000 in
theorem s_X1_inHand_4 {L : zL} {X : zX} {M0 : zM} {N : Nat × Nat} {Q : State → Prop} {r : Int32 × zM} (hq : vQ L X M0 N Q (some (.int r.1)) r.2) {n : Nat} {a0 : Nat} {i1 : Int32} {i2 : Int32} {M : zM} : f_X1_inHand_4 n a0 i1 i2 M = some r → V L X yX1_inHand cX1_inHand 3 (some FieldType.int) 1 M0 N Q M 4 [(0, .ref (zad L (a0))), (1, .int (i1)), (2, .int (i2))] [] := by
  induction n generalizing a0 i1 i2 M with
  | zero =>
    intro h
    rw [f_X1_inHand_4] at h
    cases h
  | succ n ih0 =>
    intro h
    have ih : ∀ (a0 : Nat) (i1 : Int32) (i2 : Int32) (M : zM), f_X1_inHand_4 n a0 i1 i2 M = some r → V L X yX1_inHand cX1_inHand 3 (some FieldType.int) 1 M0 N Q M 4 [(0, .ref (zad L (a0))), (1, .int (i1)), (2, .int (i2))] [] := fun a0 i1 i2 M h => ih0 h
    rw [f_X1_inHand_4] at h
    refine V_iload_n dX1_inHand_4 rfl 2 rfl ?_
    refine V_bipush (v := 25) dX1_inHand_5 (by decide) ?_
    refine V_icmp_ge (tgt := 25) dX1_inHand_7 (by decide) (fun c3 => ?_) (fun c3 => ?_)
    · replace h := (oi h).1 c3
      refine V_iload_n dX1_inHand_25 rfl 1 rfl ?_
      obtain rfl := Option.some.inj h
      exact V_iret rfl hq dX1_inHand_26
    · replace h := (oi h).2 c3
      refine V_iload_n dX1_inHand_10 rfl 1 rfl ?_
      refine V_aload_n dX1_inHand_11 rfl 0 rfl ?_
      replace h := ob h
      obtain ⟨v1, e_v1, h⟩ := h
      refine V_getR zf_7_0 zl_X1_9 e_v1 dX1_inHand_12 ?_
      refine V_pc (pc' := 15) rfl ?_
      refine V_iload_n dX1_inHand_15 rfl 2 rfl ?_
      replace h := ob h
      obtain ⟨v2, e_v2, h⟩ := h
      refine V_iald e_v2 dX1_inHand_16 ?_
      refine V_pc (pc' := 17) rfl ?_
      refine V_iadd dX1_inHand_17 ?_
      refine V_istore_n (ls' := [(1, .int ((i1 + v2))), (0, .ref (zad L (a0))), (2, .int (i2))]) dX1_inHand_18 rfl (by decide) rfl ?_
      refine V_iinc (v := i2 + (1 : Int32)) (ls' := [(2, .int ((i2 + (1 : Int32)))), (1, .int ((i1 + v2))), (0, .ref (zad L (a0)))]) dX1_inHand_19 2 rfl (by rfl) (by decide) rfl ?_
      refine V_goto (tgt := 4) dX1_inHand_22 (by decide) ?_
      refine V_sub [2, 1, 0] rfl ?_
      exact ih _ _ _ _ h
def f_X1_inHand_0 (a0 : Nat) (M : zM) : Option (Int32 × zM) :=
  f_X1_inHand_4 zN a0 ((0 : Int32)) ((0 : Int32)) M
set_option maxRecDepth 20000 in
set_option maxHeartbeats 4000000 in
theorem s_X1_inHand_0 {L : zL} {X : zX} {M0 : zM} {N : Nat × Nat} {Q : State → Prop} {r : Int32 × zM} (hq : vQ L X M0 N Q (some (.int r.1)) r.2) {a0 : Nat} {M : zM} (h : f_X1_inHand_0 a0 M = some r) : V L X yX1_inHand cX1_inHand 3 (some FieldType.int) 1 M0 N Q M 0 [(0, .ref (zad L (a0)))] [] := by
  unfold f_X1_inHand_0 at h
  refine V_iconst (v := 0) dX1_inHand_0 (by decide) ?_
  refine V_istore_n (ls' := [(1, .int ((0 : Int32))), (0, .ref (zad L (a0)))]) dX1_inHand_1 rfl (by decide) rfl ?_
  refine V_iconst (v := 0) dX1_inHand_2 (by decide) ?_
  refine V_istore_n (ls' := [(2, .int ((0 : Int32))), (1, .int ((0 : Int32))), (0, .ref (zad L (a0)))]) dX1_inHand_3 rfl (by decide) rfl ?_
  refine V_sub [2, 1, 0] rfl ?_
  exact s_X1_inHand_4 hq h
def f_X1_inHand (a0 : Nat) (M : zM) : Option (Int32 × zM) := f_X1_inHand_0 a0 M
theorem c_X1_inHand {L : zL} {l : Launch} {a0 : Nat} {M : zM} {r : Int32 × zM} (h : f_X1_inHand a0 M = some r) : CP L l yX1_inHand cX1_inHand 3 (some FieldType.int) 1 M [.ref (zad L (a0))] (some (.int r.1)) r.2 :=
  CP.of ⟨by decide +kernel, by decide +kernel⟩ (Nat.le_of_ble_eq_true rfl) fun X Q hq => s_X1_inHand_0 hq h
/-! Windsparlour$Seat.size()I -/
theorem dX1_size_0 : decode cX1_size 0 = .ok (.aload_n 0, 1) := by decide +kernel
theorem dX1_size_1 : decode cX1_size 1 = .ok (.invokevirtual 42, 3) := by decide +kernel
theorem dX1_size_4 : decode cX1_size 4 = .ok (.iconst 3, 1) := by decide +kernel
theorem dX1_size_5 : decode cX1_size 5 = .ok (.aload_n 0, 1) := by decide +kernel
theorem dX1_size_6 : decode cX1_size 6 = .ok (.getfield 25, 3) := by decide +kernel
theorem dX1_size_9 : decode cX1_size 9 = .ok (.imul, 1) := by decide +kernel
theorem dX1_size_10 : decode cX1_size 10 = .ok (.iadd, 1) := by decide +kernel
theorem dX1_size_11 : decode cX1_size 11 = .ok (.ireturn, 1) := by decide +kernel
def f_X1_size_0 (a0 : Nat) (M : zM) : Option (Int32 × zM) :=
  if mK M a0 = 7 then
  (f_X1_inHand a0 M).bind fun r1 =>
  (gI 7 4 r1.2 a0).bind fun v3 =>
  some ((r1.1 + ((((3 : Int32)) * v3))), r1.2)
  else none
set_option maxRecDepth 20000 in
set_option maxHeartbeats 4000000 in
theorem s_X1_size_0 {L : zL} {X : zX} {M0 : zM} {N : Nat × Nat} {Q : State → Prop} {r : Int32 × zM} (hq : vQ L X M0 N Q (some (.int r.1)) r.2) {a0 : Nat} {M : zM} (h : f_X1_size_0 a0 M = some r) : V L X yX1_size cX1_size 1 (some FieldType.int) 2 M0 N Q M 0 [(0, .ref (zad L (a0)))] [] := by
  unfold f_X1_size_0 at h
  refine V_aload_n dX1_size_0 rfl 0 rfl ?_
  replace h := ox h
  obtain ⟨c2, h⟩ := h
  replace h := ob h
  obtain ⟨r1, e_r1, h⟩ := h
  refine V_callV_I (As := []) (rest := []) (c_X1_inHand e_r1) zc_X1_inHand rfl (by decide) rfl (by decide) (Or.inl c2) zm_X1_42 (Nat.le_of_ble_eq_true rfl) rfl dX1_size_1 ?_
  refine V_pc (pc' := 4) rfl ?_
  refine V_iconst (v := 3) dX1_size_4 (by decide) ?_
  refine V_aload_n dX1_size_5 rfl 0 rfl ?_
  replace h := ob h
  obtain ⟨v3, e_v3, h⟩ := h
  refine V_getI zf_7_4 zl_X1_25 e_v3 dX1_size_6 ?_
  refine V_pc (pc' := 9) rfl ?_
  refine V_imul dX1_size_9 ?_
  refine V_iadd dX1_size_10 ?_
  obtain rfl := Option.some.inj h
  exact V_iret rfl hq dX1_size_11
def f_X1_size (a0 : Nat) (M : zM) : Option (Int32 × zM) := f_X1_size_0 a0 M
theorem c_X1_size {L : zL} {l : Launch} {a0 : Nat} {M : zM} {r : Int32 × zM} (h : f_X1_size a0 M = some r) : CP L l yX1_size cX1_size 1 (some FieldType.int) 2 M [.ref (zad L (a0))] (some (.int r.1)) r.2 :=
  CP.of ⟨by decide +kernel, by decide +kernel⟩ (Nat.le_of_ble_eq_true rfl) fun X Q hq => s_X1_size_0 hq h
/-! Windsparlour$Seat.openSets()I -/
theorem dX1_openSets_0 : decode cX1_openSets 0 = .ok (.iconst 0, 1) := by decide +kernel
theorem dX1_openSets_1 : decode cX1_openSets 1 = .ok (.istore_n 1, 1) := by decide +kernel
theorem dX1_openSets_2 : decode cX1_openSets 2 = .ok (.iconst 0, 1) := by decide +kernel
theorem dX1_openSets_3 : decode cX1_openSets 3 = .ok (.istore_n 2, 1) := by decide +kernel
theorem dX1_openSets_4 : decode cX1_openSets 4 = .ok (.iload_n 2, 1) := by decide +kernel
theorem dX1_openSets_5 : decode cX1_openSets 5 = .ok (.aload_n 0, 1) := by decide +kernel
theorem dX1_openSets_6 : decode cX1_openSets 6 = .ok (.getfield 25, 3) := by decide +kernel
theorem dX1_openSets_9 : decode cX1_openSets 9 = .ok (.if_icmp .ge 35, 3) := by decide +kernel
theorem dX1_openSets_12 : decode cX1_openSets 12 = .ok (.iload_n 2, 1) := by decide +kernel
theorem dX1_openSets_13 : decode cX1_openSets 13 = .ok (.iconst 3, 1) := by decide +kernel
theorem dX1_openSets_14 : decode cX1_openSets 14 = .ok (.if_icmp .ge 30, 3) := by decide +kernel
theorem dX1_openSets_17 : decode cX1_openSets 17 = .ok (.iload_n 1, 1) := by decide +kernel
theorem dX1_openSets_18 : decode cX1_openSets 18 = .ok (.aload_n 0, 1) := by decide +kernel
theorem dX1_openSets_19 : decode cX1_openSets 19 = .ok (.getfield 15, 3) := by decide +kernel
theorem dX1_openSets_22 : decode cX1_openSets 22 = .ok (.iload_n 2, 1) := by decide +kernel
theorem dX1_openSets_23 : decode cX1_openSets 23 = .ok (.iaload, 1) := by decide +kernel
theorem dX1_openSets_24 : decode cX1_openSets 24 = .ok (.bipush 100, 2) := by decide +kernel
theorem dX1_openSets_26 : decode cX1_openSets 26 = .ok (.idiv, 1) := by decide +kernel
theorem dX1_openSets_27 : decode cX1_openSets 27 = .ok (.iconst 3, 1) := by decide +kernel
theorem dX1_openSets_28 : decode cX1_openSets 28 = .ok (.if_icmp .ne 7, 3) := by decide +kernel
theorem dX1_openSets_31 : decode cX1_openSets 31 = .ok (.iconst 0, 1) := by decide +kernel
theorem dX1_openSets_32 : decode cX1_openSets 32 = .ok (.goto 4, 3) := by decide +kernel
theorem dX1_openSets_35 : decode cX1_openSets 35 = .ok (.iconst 1, 1) := by decide +kernel
theorem dX1_openSets_36 : decode cX1_openSets 36 = .ok (.iadd, 1) := by decide +kernel
theorem dX1_openSets_37 : decode cX1_openSets 37 = .ok (.istore_n 1, 1) := by decide +kernel
theorem dX1_openSets_38 : decode cX1_openSets 38 = .ok (.iinc 2 1, 3) := by decide +kernel
theorem dX1_openSets_41 : decode cX1_openSets 41 = .ok (.goto (-37), 3) := by decide +kernel
theorem dX1_openSets_44 : decode cX1_openSets 44 = .ok (.iload_n 1, 1) := by decide +kernel
theorem dX1_openSets_45 : decode cX1_openSets 45 = .ok (.ireturn, 1) := by decide +kernel
def f_X1_openSets_4 (n : Nat) (a0 : Nat) (i1 : Int32) (i2 : Int32) (M : zM) : Option (Int32 × zM) := match n with
  | 0 => none
  | n + 1 =>
    (gI 7 4 M a0).bind fun v1 =>
    if v1 ≤ i2 then
    some (i1, M)
    else
    if ((3 : Int32)) ≤ i2 then
    some (i1, M)
    else
    (gR 7 1 M a0).bind fun v2 =>
    (lA 0 M v2 i2).bind fun v3 =>
    if ((v3 / ((100 : Int32)))) = ((3 : Int32)) then
    f_X1_openSets_4 n a0 ((i1 + ((0 : Int32)))) ((i2 + (1 : Int32))) M
    else
    f_X1_openSets_4 n a0 ((i1 + ((1 : Int32)))) ((i2 + (1 : Int32))) M
set_option maxRecDepth 20000 in
set_option maxHeartbeats 4000000 in
theorem s_X1_openSets_4 {L : zL} {X : zX} {M0 : zM} {N : Nat × Nat} {Q : State → Prop} {r : Int32 × zM} (hq : vQ L X M0 N Q (some (.int r.1)) r.2) {n : Nat} {a0 : Nat} {i1 : Int32} {i2 : Int32} {M : zM} : f_X1_openSets_4 n a0 i1 i2 M = some r → V L X yX1_openSets cX1_openSets 3 (some FieldType.int) 1 M0 N Q M 4 [(0, .ref (zad L (a0))), (1, .int (i1)), (2, .int (i2))] [] := by
  induction n generalizing a0 i1 i2 M with
  | zero =>
    intro h
    rw [f_X1_openSets_4] at h
    cases h
  | succ n ih0 =>
    intro h
    have ih : ∀ (a0 : Nat) (i1 : Int32) (i2 : Int32) (M : zM), f_X1_openSets_4 n a0 i1 i2 M = some r → V L X yX1_openSets cX1_openSets 3 (some FieldType.int) 1 M0 N Q M 4 [(0, .ref (zad L (a0))), (1, .int (i1)), (2, .int (i2))] [] := fun a0 i1 i2 M h => ih0 h
    rw [f_X1_openSets_4] at h
    refine V_iload_n dX1_openSets_4 rfl 2 rfl ?_
    refine V_aload_n dX1_openSets_5 rfl 0 rfl ?_
    replace h := ob h
    obtain ⟨v1, e_v1, h⟩ := h
    refine V_getI zf_7_4 zl_X1_25 e_v1 dX1_openSets_6 ?_
    refine V_pc (pc' := 9) rfl ?_
    refine V_icmp_ge (tgt := 44) dX1_openSets_9 (by decide) (fun c6 => ?_) (fun c6 => ?_)
    · replace h := (oi h).1 c6
      refine V_iload_n dX1_openSets_44 rfl 1 rfl ?_
      obtain rfl := Option.some.inj h
      exact V_iret rfl hq dX1_openSets_45
    · replace h := (oi h).2 c6
      refine V_iload_n dX1_openSets_12 rfl 2 rfl ?_
      refine V_iconst (v := 3) dX1_openSets_13 (by decide) ?_
      refine V_icmp_ge (tgt := 44) dX1_openSets_14 (by decide) (fun c5 => ?_) (fun c5 => ?_)
      · replace h := (oi h).1 c5
        refine V_iload_n dX1_openSets_44 rfl 1 rfl ?_
        obtain rfl := Option.some.inj h
        exact V_iret rfl hq dX1_openSets_45
      · replace h := (oi h).2 c5
        refine V_iload_n dX1_openSets_17 rfl 1 rfl ?_
        refine V_aload_n dX1_openSets_18 rfl 0 rfl ?_
        replace h := ob h
        obtain ⟨v2, e_v2, h⟩ := h
        refine V_getR zf_7_1 zl_X1_15 e_v2 dX1_openSets_19 ?_
        refine V_pc (pc' := 22) rfl ?_
        refine V_iload_n dX1_openSets_22 rfl 2 rfl ?_
        replace h := ob h
        obtain ⟨v3, e_v3, h⟩ := h
        refine V_iald e_v3 dX1_openSets_23 ?_
        refine V_pc (pc' := 24) rfl ?_
        refine V_bipush (v := 100) dX1_openSets_24 (by decide) ?_
        refine V_idiv dX1_openSets_26 (by decide) ?_
        refine V_iconst (v := 3) dX1_openSets_27 (by decide) ?_
        refine V_icmp_ne (tgt := 35) dX1_openSets_28 (by decide) (fun c4 => ?_) (fun c4 => ?_)
        · replace h := (oi h).2 c4
          refine V_iconst (v := 1) dX1_openSets_35 (by decide) ?_
          refine V_iadd dX1_openSets_36 ?_
          refine V_istore_n (ls' := [(1, .int ((i1 + ((1 : Int32))))), (0, .ref (zad L (a0))), (2, .int (i2))]) dX1_openSets_37 rfl (by decide) rfl ?_
          refine V_iinc (v := i2 + (1 : Int32)) (ls' := [(2, .int ((i2 + (1 : Int32)))), (1, .int ((i1 + ((1 : Int32))))), (0, .ref (zad L (a0)))]) dX1_openSets_38 2 rfl (by rfl) (by decide) rfl ?_
          refine V_goto (tgt := 4) dX1_openSets_41 (by decide) ?_
          refine V_sub [2, 1, 0] rfl ?_
          exact ih _ _ _ _ h
        · replace h := (oi h).1 c4
          refine V_iconst (v := 0) dX1_openSets_31 (by decide) ?_
          refine V_goto (tgt := 36) dX1_openSets_32 (by decide) ?_
          refine V_iadd dX1_openSets_36 ?_
          refine V_istore_n (ls' := [(1, .int ((i1 + ((0 : Int32))))), (0, .ref (zad L (a0))), (2, .int (i2))]) dX1_openSets_37 rfl (by decide) rfl ?_
          refine V_iinc (v := i2 + (1 : Int32)) (ls' := [(2, .int ((i2 + (1 : Int32)))), (1, .int ((i1 + ((0 : Int32))))), (0, .ref (zad L (a0)))]) dX1_openSets_38 2 rfl (by rfl) (by decide) rfl ?_
          refine V_goto (tgt := 4) dX1_openSets_41 (by decide) ?_
          refine V_sub [2, 1, 0] rfl ?_
          exact ih _ _ _ _ h
def f_X1_openSets_0 (a0 : Nat) (M : zM) : Option (Int32 × zM) :=
  f_X1_openSets_4 zN a0 ((0 : Int32)) ((0 : Int32)) M
set_option maxRecDepth 20000 in
set_option maxHeartbeats 4000000 in
theorem s_X1_openSets_0 {L : zL} {X : zX} {M0 : zM} {N : Nat × Nat} {Q : State → Prop} {r : Int32 × zM} (hq : vQ L X M0 N Q (some (.int r.1)) r.2) {a0 : Nat} {M : zM} (h : f_X1_openSets_0 a0 M = some r) : V L X yX1_openSets cX1_openSets 3 (some FieldType.int) 1 M0 N Q M 0 [(0, .ref (zad L (a0)))] [] := by
  unfold f_X1_openSets_0 at h
  refine V_iconst (v := 0) dX1_openSets_0 (by decide) ?_
  refine V_istore_n (ls' := [(1, .int ((0 : Int32))), (0, .ref (zad L (a0)))]) dX1_openSets_1 rfl (by decide) rfl ?_
  refine V_iconst (v := 0) dX1_openSets_2 (by decide) ?_
  refine V_istore_n (ls' := [(2, .int ((0 : Int32))), (1, .int ((0 : Int32))), (0, .ref (zad L (a0)))]) dX1_openSets_3 rfl (by decide) rfl ?_
  refine V_sub [2, 1, 0] rfl ?_
  exact s_X1_openSets_4 hq h
def f_X1_openSets (a0 : Nat) (M : zM) : Option (Int32 × zM) := f_X1_openSets_0 a0 M
theorem c_X1_openSets {L : zL} {l : Launch} {a0 : Nat} {M : zM} {r : Int32 × zM} (h : f_X1_openSets a0 M = some r) : CP L l yX1_openSets cX1_openSets 3 (some FieldType.int) 1 M [.ref (zad L (a0))] (some (.int r.1)) r.2 :=
  CP.of ⟨by decide +kernel, by decide +kernel⟩ (Nat.le_of_ble_eq_true rfl) fun X Q hq => s_X1_openSets_0 hq h
/-! Windsparlour$Seat.rowLies()Z -/
theorem dX1_rowLies_0 : decode cX1_rowLies 0 = .ok (.iconst 0, 1) := by decide +kernel
theorem dX1_rowLies_1 : decode cX1_rowLies 1 = .ok (.istore_n 1, 1) := by decide +kernel
theorem dX1_rowLies_2 : decode cX1_rowLies 2 = .ok (.iload_n 1, 1) := by decide +kernel
theorem dX1_rowLies_3 : decode cX1_rowLies 3 = .ok (.aload_n 0, 1) := by decide +kernel
theorem dX1_rowLies_4 : decode cX1_rowLies 4 = .ok (.getfield 25, 3) := by decide +kernel
theorem dX1_rowLies_7 : decode cX1_rowLies 7 = .ok (.if_icmp .ge 29, 3) := by decide +kernel
theorem dX1_rowLies_10 : decode cX1_rowLies 10 = .ok (.iload_n 1, 1) := by decide +kernel
theorem dX1_rowLies_11 : decode cX1_rowLies 11 = .ok (.iconst 3, 1) := by decide +kernel
theorem dX1_rowLies_12 : decode cX1_rowLies 12 = .ok (.if_icmp .ge 24, 3) := by decide +kernel
theorem dX1_rowLies_15 : decode cX1_rowLies 15 = .ok (.aload_n 0, 1) := by decide +kernel
theorem dX1_rowLies_16 : decode cX1_rowLies 16 = .ok (.getfield 15, 3) := by decide +kernel
theorem dX1_rowLies_19 : decode cX1_rowLies 19 = .ok (.iload_n 1, 1) := by decide +kernel
theorem dX1_rowLies_20 : decode cX1_rowLies 20 = .ok (.iaload, 1) := by decide +kernel
theorem dX1_rowLies_21 : decode cX1_rowLies 21 = .ok (.bipush 100, 2) := by decide +kernel
theorem dX1_rowLies_23 : decode cX1_rowLies 23 = .ok (.idiv, 1) := by decide +kernel
theorem dX1_rowLies_24 : decode cX1_rowLies 24 = .ok (.iconst 1, 1) := by decide +kernel
theorem dX1_rowLies_25 : decode cX1_rowLies 25 = .ok (.if_icmp .ne 5, 3) := by decide +kernel
theorem dX1_rowLies_28 : decode cX1_rowLies 28 = .ok (.iconst 1, 1) := by decide +kernel
theorem dX1_rowLies_29 : decode cX1_rowLies 29 = .ok (.ireturn, 1) := by decide +kernel
theorem dX1_rowLies_30 : decode cX1_rowLies 30 = .ok (.iinc 1 1, 3) := by decide +kernel
theorem dX1_rowLies_33 : decode cX1_rowLies 33 = .ok (.goto (-31), 3) := by decide +kernel
theorem dX1_rowLies_36 : decode cX1_rowLies 36 = .ok (.iconst 0, 1) := by decide +kernel
theorem dX1_rowLies_37 : decode cX1_rowLies 37 = .ok (.ireturn, 1) := by decide +kernel
def f_X1_rowLies_2 (n : Nat) (a0 : Nat) (i1 : Int32) (M : zM) : Option (Int32 × zM) := match n with
  | 0 => none
  | n + 1 =>
    (gI 7 4 M a0).bind fun v1 =>
    if v1 ≤ i1 then
    some ((0 : Int32), M)
    else
    if ((3 : Int32)) ≤ i1 then
    some ((0 : Int32), M)
    else
    (gR 7 1 M a0).bind fun v2 =>
    (lA 0 M v2 i1).bind fun v3 =>
    if ((v3 / ((100 : Int32)))) = ((1 : Int32)) then
    some ((1 : Int32), M)
    else
    f_X1_rowLies_2 n a0 ((i1 + (1 : Int32))) M
set_option maxRecDepth 20000 in
set_option maxHeartbeats 4000000 in
theorem s_X1_rowLies_2 {L : zL} {X : zX} {M0 : zM} {N : Nat × Nat} {Q : State → Prop} {r : Int32 × zM} (hq : vQ L X M0 N Q (some (.int r.1)) r.2) {n : Nat} {a0 : Nat} {i1 : Int32} {M : zM} : f_X1_rowLies_2 n a0 i1 M = some r → V L X yX1_rowLies cX1_rowLies 2 (some FieldType.boolean) 1 M0 N Q M 2 [(0, .ref (zad L (a0))), (1, .int (i1))] [] := by
  induction n generalizing a0 i1 M with
  | zero =>
    intro h
    rw [f_X1_rowLies_2] at h
    cases h
  | succ n ih0 =>
    intro h
    have ih : ∀ (a0 : Nat) (i1 : Int32) (M : zM), f_X1_rowLies_2 n a0 i1 M = some r → V L X yX1_rowLies cX1_rowLies 2 (some FieldType.boolean) 1 M0 N Q M 2 [(0, .ref (zad L (a0))), (1, .int (i1))] [] := fun a0 i1 M h => ih0 h
    rw [f_X1_rowLies_2] at h
    refine V_iload_n dX1_rowLies_2 rfl 1 rfl ?_
    refine V_aload_n dX1_rowLies_3 rfl 0 rfl ?_
    replace h := ob h
    obtain ⟨v1, e_v1, h⟩ := h
    refine V_getI zf_7_4 zl_X1_25 e_v1 dX1_rowLies_4 ?_
    refine V_pc (pc' := 7) rfl ?_
    refine V_icmp_ge (tgt := 36) dX1_rowLies_7 (by decide) (fun c6 => ?_) (fun c6 => ?_)
    · replace h := (oi h).1 c6
      refine V_iconst (v := 0) dX1_rowLies_36 (by decide) ?_
      obtain rfl := Option.some.inj h
      exact V_zret (ty := .boolean) rfl rfl hq dX1_rowLies_37
    · replace h := (oi h).2 c6
      refine V_iload_n dX1_rowLies_10 rfl 1 rfl ?_
      refine V_iconst (v := 3) dX1_rowLies_11 (by decide) ?_
      refine V_icmp_ge (tgt := 36) dX1_rowLies_12 (by decide) (fun c5 => ?_) (fun c5 => ?_)
      · replace h := (oi h).1 c5
        refine V_iconst (v := 0) dX1_rowLies_36 (by decide) ?_
        obtain rfl := Option.some.inj h
        exact V_zret (ty := .boolean) rfl rfl hq dX1_rowLies_37
      · replace h := (oi h).2 c5
        refine V_aload_n dX1_rowLies_15 rfl 0 rfl ?_
        replace h := ob h
        obtain ⟨v2, e_v2, h⟩ := h
        refine V_getR zf_7_1 zl_X1_15 e_v2 dX1_rowLies_16 ?_
        refine V_pc (pc' := 19) rfl ?_
        refine V_iload_n dX1_rowLies_19 rfl 1 rfl ?_
        replace h := ob h
        obtain ⟨v3, e_v3, h⟩ := h
        refine V_iald e_v3 dX1_rowLies_20 ?_
        refine V_pc (pc' := 21) rfl ?_
        refine V_bipush (v := 100) dX1_rowLies_21 (by decide) ?_
        refine V_idiv dX1_rowLies_23 (by decide) ?_
        refine V_iconst (v := 1) dX1_rowLies_24 (by decide) ?_
        refine V_icmp_ne (tgt := 30) dX1_rowLies_25 (by decide) (fun c4 => ?_) (fun c4 => ?_)
        · replace h := (oi h).2 c4
          refine V_iinc (v := i1 + (1 : Int32)) (ls' := [(1, .int ((i1 + (1 : Int32)))), (0, .ref (zad L (a0)))]) dX1_rowLies_30 1 rfl (by rfl) (by decide) rfl ?_
          refine V_goto (tgt := 2) dX1_rowLies_33 (by decide) ?_
          refine V_sub [1, 0] rfl ?_
          exact ih _ _ _ h
        · replace h := (oi h).1 c4
          refine V_iconst (v := 1) dX1_rowLies_28 (by decide) ?_
          obtain rfl := Option.some.inj h
          exact V_zret (ty := .boolean) rfl rfl hq dX1_rowLies_29
def f_X1_rowLies_0 (a0 : Nat) (M : zM) : Option (Int32 × zM) :=
  f_X1_rowLies_2 zN a0 ((0 : Int32)) M
set_option maxRecDepth 20000 in
set_option maxHeartbeats 4000000 in
theorem s_X1_rowLies_0 {L : zL} {X : zX} {M0 : zM} {N : Nat × Nat} {Q : State → Prop} {r : Int32 × zM} (hq : vQ L X M0 N Q (some (.int r.1)) r.2) {a0 : Nat} {M : zM} (h : f_X1_rowLies_0 a0 M = some r) : V L X yX1_rowLies cX1_rowLies 2 (some FieldType.boolean) 1 M0 N Q M 0 [(0, .ref (zad L (a0)))] [] := by
  unfold f_X1_rowLies_0 at h
  refine V_iconst (v := 0) dX1_rowLies_0 (by decide) ?_
  refine V_istore_n (ls' := [(1, .int ((0 : Int32))), (0, .ref (zad L (a0)))]) dX1_rowLies_1 rfl (by decide) rfl ?_
  refine V_sub [1, 0] rfl ?_
  exact s_X1_rowLies_2 hq h
def f_X1_rowLies (a0 : Nat) (M : zM) : Option (Int32 × zM) := f_X1_rowLies_0 a0 M
theorem c_X1_rowLies {L : zL} {l : Launch} {a0 : Nat} {M : zM} {r : Int32 × zM} (h : f_X1_rowLies a0 M = some r) : CP L l yX1_rowLies cX1_rowLies 2 (some FieldType.boolean) 1 M [.ref (zad L (a0))] (some (.int r.1)) r.2 :=
  CP.of ⟨by decide +kernel, by decide +kernel⟩ (Nat.le_of_ble_eq_true rfl) fun X Q hq => s_X1_rowLies_0 hq h
/-! Windsparlour$Seat.tilesOf(III)I -/
theorem dX1_tilesOf_0 : decode cX1_tilesOf 0 = .ok (.iload_n 0, 1) := by decide +kernel
theorem dX1_tilesOf_1 : decode cX1_tilesOf 1 = .ok (.iconst 1, 1) := by decide +kernel
theorem dX1_tilesOf_2 : decode cX1_tilesOf 2 = .ok (.if_icmp .ne 21, 3) := by decide +kernel
theorem dX1_tilesOf_5 : decode cX1_tilesOf 5 = .ok (.iload_n 2, 1) := by decide +kernel
theorem dX1_tilesOf_6 : decode cX1_tilesOf 6 = .ok (.iload_n 1, 1) := by decide +kernel
theorem dX1_tilesOf_7 : decode cX1_tilesOf 7 = .ok (.if_icmp .lt 14, 3) := by decide +kernel
theorem dX1_tilesOf_10 : decode cX1_tilesOf 10 = .ok (.iload_n 2, 1) := by decide +kernel
theorem dX1_tilesOf_11 : decode cX1_tilesOf 11 = .ok (.iload_n 1, 1) := by decide +kernel
theorem dX1_tilesOf_12 : decode cX1_tilesOf 12 = .ok (.iconst 2, 1) := by decide +kernel
theorem dX1_tilesOf_13 : decode cX1_tilesOf 13 = .ok (.iadd, 1) := by decide +kernel
theorem dX1_tilesOf_14 : decode cX1_tilesOf 14 = .ok (.if_icmp .gt 7, 3) := by decide +kernel
theorem dX1_tilesOf_17 : decode cX1_tilesOf 17 = .ok (.iconst 1, 1) := by decide +kernel
theorem dX1_tilesOf_18 : decode cX1_tilesOf 18 = .ok (.goto 4, 3) := by decide +kernel
theorem dX1_tilesOf_21 : decode cX1_tilesOf 21 = .ok (.iconst 0, 1) := by decide +kernel
theorem dX1_tilesOf_22 : decode cX1_tilesOf 22 = .ok (.ireturn, 1) := by decide +kernel
theorem dX1_tilesOf_23 : decode cX1_tilesOf 23 = .ok (.iload_n 2, 1) := by decide +kernel
theorem dX1_tilesOf_24 : decode cX1_tilesOf 24 = .ok (.iload_n 1, 1) := by decide +kernel
theorem dX1_tilesOf_25 : decode cX1_tilesOf 25 = .ok (.if_icmp .eq 5, 3) := by decide +kernel
theorem dX1_tilesOf_28 : decode cX1_tilesOf 28 = .ok (.iconst 0, 1) := by decide +kernel
theorem dX1_tilesOf_29 : decode cX1_tilesOf 29 = .ok (.ireturn, 1) := by decide +kernel
theorem dX1_tilesOf_30 : decode cX1_tilesOf 30 = .ok (.iload_n 0, 1) := by decide +kernel
theorem dX1_tilesOf_31 : decode cX1_tilesOf 31 = .ok (.ifCond .ne 7, 3) := by decide +kernel
theorem dX1_tilesOf_34 : decode cX1_tilesOf 34 = .ok (.iconst 3, 1) := by decide +kernel
theorem dX1_tilesOf_35 : decode cX1_tilesOf 35 = .ok (.goto 4, 3) := by decide +kernel
theorem dX1_tilesOf_38 : decode cX1_tilesOf 38 = .ok (.iconst 4, 1) := by decide +kernel
theorem dX1_tilesOf_39 : decode cX1_tilesOf 39 = .ok (.ireturn, 1) := by decide +kernel
def f_X1_tilesOf_0 (i0 : Int32) (i1 : Int32) (i2 : Int32) (M : zM) : Option (Int32 × zM) :=
  if i0 = ((1 : Int32)) then
  if i2 < i1 then
  some ((0 : Int32), M)
  else
  if ((i1 + ((2 : Int32)))) < i2 then
  some ((0 : Int32), M)
  else
  some ((1 : Int32), M)
  else
  if i2 = i1 then
  if i0 = 0 then
  some ((3 : Int32), M)
  else
  some ((4 : Int32), M)
  else
  some ((0 : Int32), M)
set_option maxRecDepth 20000 in
set_option maxHeartbeats 4000000 in
theorem s_X1_tilesOf_0 {L : zL} {X : zX} {M0 : zM} {N : Nat × Nat} {Q : State → Prop} {r : Int32 × zM} (hq : vQ L X M0 N Q (some (.int r.1)) r.2) {i0 : Int32} {i1 : Int32} {i2 : Int32} {M : zM} (h : f_X1_tilesOf_0 i0 i1 i2 M = some r) : V L X yX1_tilesOf cX1_tilesOf 3 (some FieldType.int) 1 M0 N Q M 0 [(0, .int (i0)), (1, .int (i1)), (2, .int (i2))] [] := by
  unfold f_X1_tilesOf_0 at h
  refine V_iload_n dX1_tilesOf_0 rfl 0 rfl ?_
  refine V_iconst (v := 1) dX1_tilesOf_1 (by decide) ?_
  refine V_icmp_ne (tgt := 23) dX1_tilesOf_2 (by decide) (fun c5 => ?_) (fun c5 => ?_)
  · replace h := (oi h).2 c5
    refine V_iload_n dX1_tilesOf_23 rfl 2 rfl ?_
    refine V_iload_n dX1_tilesOf_24 rfl 1 rfl ?_
    refine V_icmp_eq (tgt := 30) dX1_tilesOf_25 (by decide) (fun c2 => ?_) (fun c2 => ?_)
    · replace h := (oi h).1 c2
      refine V_iload_n dX1_tilesOf_30 rfl 0 rfl ?_
      refine V_if_ne (tgt := 38) dX1_tilesOf_31 (by decide) (fun c1 => ?_) (fun c1 => ?_)
      · replace h := (oi h).2 c1
        refine V_iconst (v := 4) dX1_tilesOf_38 (by decide) ?_
        obtain rfl := Option.some.inj h
        exact V_iret rfl hq dX1_tilesOf_39
      · replace h := (oi h).1 c1
        refine V_iconst (v := 3) dX1_tilesOf_34 (by decide) ?_
        refine V_goto (tgt := 39) dX1_tilesOf_35 (by decide) ?_
        obtain rfl := Option.some.inj h
        exact V_iret rfl hq dX1_tilesOf_39
    · replace h := (oi h).2 c2
      refine V_iconst (v := 0) dX1_tilesOf_28 (by decide) ?_
      obtain rfl := Option.some.inj h
      exact V_iret rfl hq dX1_tilesOf_29
  · replace h := (oi h).1 c5
    refine V_iload_n dX1_tilesOf_5 rfl 2 rfl ?_
    refine V_iload_n dX1_tilesOf_6 rfl 1 rfl ?_
    refine V_icmp_lt (tgt := 21) dX1_tilesOf_7 (by decide) (fun c4 => ?_) (fun c4 => ?_)
    · replace h := (oi h).1 c4
      refine V_iconst (v := 0) dX1_tilesOf_21 (by decide) ?_
      obtain rfl := Option.some.inj h
      exact V_iret rfl hq dX1_tilesOf_22
    · replace h := (oi h).2 c4
      refine V_iload_n dX1_tilesOf_10 rfl 2 rfl ?_
      refine V_iload_n dX1_tilesOf_11 rfl 1 rfl ?_
      refine V_iconst (v := 2) dX1_tilesOf_12 (by decide) ?_
      refine V_iadd dX1_tilesOf_13 ?_
      refine V_icmp_gt (tgt := 21) dX1_tilesOf_14 (by decide) (fun c3 => ?_) (fun c3 => ?_)
      · replace h := (oi h).1 c3
        refine V_iconst (v := 0) dX1_tilesOf_21 (by decide) ?_
        obtain rfl := Option.some.inj h
        exact V_iret rfl hq dX1_tilesOf_22
      · replace h := (oi h).2 c3
        refine V_iconst (v := 1) dX1_tilesOf_17 (by decide) ?_
        refine V_goto (tgt := 22) dX1_tilesOf_18 (by decide) ?_
        obtain rfl := Option.some.inj h
        exact V_iret rfl hq dX1_tilesOf_22
def f_X1_tilesOf (i0 : Int32) (i1 : Int32) (i2 : Int32) (M : zM) : Option (Int32 × zM) := f_X1_tilesOf_0 i0 i1 i2 M
theorem c_X1_tilesOf {L : zL} {l : Launch} {i0 : Int32} {i1 : Int32} {i2 : Int32} {M : zM} {r : Int32 × zM} (h : f_X1_tilesOf i0 i1 i2 M = some r) : CP L l yX1_tilesOf cX1_tilesOf 3 (some FieldType.int) 1 M [.int (i0), .int (i1), .int (i2)] (some (.int r.1)) r.2 :=
  CP.of ⟨by decide +kernel, by decide +kernel⟩ (Nat.le_of_ble_eq_true rfl) fun X Q hq => s_X1_tilesOf_0 hq h
/-! Windsparlour$Seat.inSets(I)I -/
theorem dX1_inSets_0 : decode cX1_inSets 0 = .ok (.iconst 0, 1) := by decide +kernel
theorem dX1_inSets_1 : decode cX1_inSets 1 = .ok (.istore_n 2, 1) := by decide +kernel
theorem dX1_inSets_2 : decode cX1_inSets 2 = .ok (.iconst 0, 1) := by decide +kernel
theorem dX1_inSets_3 : decode cX1_inSets 3 = .ok (.istore_n 3, 1) := by decide +kernel
theorem dX1_inSets_4 : decode cX1_inSets 4 = .ok (.iload_n 3, 1) := by decide +kernel
theorem dX1_inSets_5 : decode cX1_inSets 5 = .ok (.aload_n 0, 1) := by decide +kernel
theorem dX1_inSets_6 : decode cX1_inSets 6 = .ok (.getfield 25, 3) := by decide +kernel
theorem dX1_inSets_9 : decode cX1_inSets 9 = .ok (.if_icmp .ge 39, 3) := by decide +kernel
theorem dX1_inSets_12 : decode cX1_inSets 12 = .ok (.iload_n 3, 1) := by decide +kernel
theorem dX1_inSets_13 : decode cX1_inSets 13 = .ok (.iconst 3, 1) := by decide +kernel
theorem dX1_inSets_14 : decode cX1_inSets 14 = .ok (.if_icmp .ge 34, 3) := by decide +kernel
theorem dX1_inSets_17 : decode cX1_inSets 17 = .ok (.iload_n 2, 1) := by decide +kernel
theorem dX1_inSets_18 : decode cX1_inSets 18 = .ok (.aload_n 0, 1) := by decide +kernel
theorem dX1_inSets_19 : decode cX1_inSets 19 = .ok (.getfield 15, 3) := by decide +kernel
theorem dX1_inSets_22 : decode cX1_inSets 22 = .ok (.iload_n 3, 1) := by decide +kernel
theorem dX1_inSets_23 : decode cX1_inSets 23 = .ok (.iaload, 1) := by decide +kernel
theorem dX1_inSets_24 : decode cX1_inSets 24 = .ok (.bipush 100, 2) := by decide +kernel
theorem dX1_inSets_26 : decode cX1_inSets 26 = .ok (.idiv, 1) := by decide +kernel
theorem dX1_inSets_27 : decode cX1_inSets 27 = .ok (.aload_n 0, 1) := by decide +kernel
theorem dX1_inSets_28 : decode cX1_inSets 28 = .ok (.getfield 15, 3) := by decide +kernel
theorem dX1_inSets_31 : decode cX1_inSets 31 = .ok (.iload_n 3, 1) := by decide +kernel
theorem dX1_inSets_32 : decode cX1_inSets 32 = .ok (.iaload, 1) := by decide +kernel
theorem dX1_inSets_33 : decode cX1_inSets 33 = .ok (.bipush 100, 2) := by decide +kernel
theorem dX1_inSets_35 : decode cX1_inSets 35 = .ok (.irem, 1) := by decide +kernel
theorem dX1_inSets_36 : decode cX1_inSets 36 = .ok (.iload_n 1, 1) := by decide +kernel
theorem dX1_inSets_37 : decode cX1_inSets 37 = .ok (.invokestatic 46, 3) := by decide +kernel
theorem dX1_inSets_40 : decode cX1_inSets 40 = .ok (.iadd, 1) := by decide +kernel
theorem dX1_inSets_41 : decode cX1_inSets 41 = .ok (.istore_n 2, 1) := by decide +kernel
theorem dX1_inSets_42 : decode cX1_inSets 42 = .ok (.iinc 3 1, 3) := by decide +kernel
theorem dX1_inSets_45 : decode cX1_inSets 45 = .ok (.goto (-41), 3) := by decide +kernel
theorem dX1_inSets_48 : decode cX1_inSets 48 = .ok (.iload_n 2, 1) := by decide +kernel
theorem dX1_inSets_49 : decode cX1_inSets 49 = .ok (.ireturn, 1) := by decide +kernel
def f_X1_inSets_4 (n : Nat) (a0 : Nat) (i1 : Int32) (i2 : Int32) (i3 : Int32) (M : zM) : Option (Int32 × zM) := match n with
  | 0 => none
  | n + 1 =>
    (gI 7 4 M a0).bind fun v1 =>
    if v1 ≤ i3 then
    some (i2, M)
    else
    if ((3 : Int32)) ≤ i3 then
    some (i2, M)
    else
    (gR 7 1 M a0).bind fun v2 =>
    (lA 0 M v2 i3).bind fun v3 =>
    (gR 7 1 M a0).bind fun v4 =>
    (lA 0 M v4 i3).bind fun v5 =>
    (f_X1_tilesOf ((v3 / ((100 : Int32)))) ((zmd v5 ((100 : Int32)))) i1 M).bind fun r6 =>
    f_X1_inSets_4 n a0 i1 ((i2 + r6.1)) ((i3 + (1 : Int32))) r6.2
set_option maxRecDepth 20000 in
set_option maxHeartbeats 4000000 in
theorem s_X1_inSets_4 {L : zL} {X : zX} {M0 : zM} {N : Nat × Nat} {Q : State → Prop} {r : Int32 × zM} (hq : vQ L X M0 N Q (some (.int r.1)) r.2) {n : Nat} {a0 : Nat} {i1 : Int32} {i2 : Int32} {i3 : Int32} {M : zM} : f_X1_inSets_4 n a0 i1 i2 i3 M = some r → V L X yX1_inSets cX1_inSets 4 (some FieldType.int) 2 M0 N Q M 4 [(0, .ref (zad L (a0))), (1, .int (i1)), (2, .int (i2)), (3, .int (i3))] [] := by
  induction n generalizing a0 i1 i2 i3 M with
  | zero =>
    intro h
    rw [f_X1_inSets_4] at h
    cases h
  | succ n ih0 =>
    intro h
    have ih : ∀ (a0 : Nat) (i1 : Int32) (i2 : Int32) (i3 : Int32) (M : zM), f_X1_inSets_4 n a0 i1 i2 i3 M = some r → V L X yX1_inSets cX1_inSets 4 (some FieldType.int) 2 M0 N Q M 4 [(0, .ref (zad L (a0))), (1, .int (i1)), (2, .int (i2)), (3, .int (i3))] [] := fun a0 i1 i2 i3 M h => ih0 h
    rw [f_X1_inSets_4] at h
    refine V_iload_n dX1_inSets_4 rfl 3 rfl ?_
    refine V_aload_n dX1_inSets_5 rfl 0 rfl ?_
    replace h := ob h
    obtain ⟨v1, e_v1, h⟩ := h
    refine V_getI zf_7_4 zl_X1_25 e_v1 dX1_inSets_6 ?_
    refine V_pc (pc' := 9) rfl ?_
    refine V_icmp_ge (tgt := 48) dX1_inSets_9 (by decide) (fun c8 => ?_) (fun c8 => ?_)
    · replace h := (oi h).1 c8
      refine V_iload_n dX1_inSets_48 rfl 2 rfl ?_
      obtain rfl := Option.some.inj h
      exact V_iret rfl hq dX1_inSets_49
    · replace h := (oi h).2 c8
      refine V_iload_n dX1_inSets_12 rfl 3 rfl ?_
      refine V_iconst (v := 3) dX1_inSets_13 (by decide) ?_
      refine V_icmp_ge (tgt := 48) dX1_inSets_14 (by decide) (fun c7 => ?_) (fun c7 => ?_)
      · replace h := (oi h).1 c7
        refine V_iload_n dX1_inSets_48 rfl 2 rfl ?_
        obtain rfl := Option.some.inj h
        exact V_iret rfl hq dX1_inSets_49
      · replace h := (oi h).2 c7
        refine V_iload_n dX1_inSets_17 rfl 2 rfl ?_
        refine V_aload_n dX1_inSets_18 rfl 0 rfl ?_
        replace h := ob h
        obtain ⟨v2, e_v2, h⟩ := h
        refine V_getR zf_7_1 zl_X1_15 e_v2 dX1_inSets_19 ?_
        refine V_pc (pc' := 22) rfl ?_
        refine V_iload_n dX1_inSets_22 rfl 3 rfl ?_
        replace h := ob h
        obtain ⟨v3, e_v3, h⟩ := h
        refine V_iald e_v3 dX1_inSets_23 ?_
        refine V_pc (pc' := 24) rfl ?_
        refine V_bipush (v := 100) dX1_inSets_24 (by decide) ?_
        refine V_idiv dX1_inSets_26 (by decide) ?_
        refine V_aload_n dX1_inSets_27 rfl 0 rfl ?_
        replace h := ob h
        obtain ⟨v4, e_v4, h⟩ := h
        refine V_getR zf_7_1 zl_X1_15 e_v4 dX1_inSets_28 ?_
        refine V_pc (pc' := 31) rfl ?_
        refine V_iload_n dX1_inSets_31 rfl 3 rfl ?_
        replace h := ob h
        obtain ⟨v5, e_v5, h⟩ := h
        refine V_iald e_v5 dX1_inSets_32 ?_
        refine V_pc (pc' := 33) rfl ?_
        refine V_bipush (v := 100) dX1_inSets_33 (by decide) ?_
        refine V_irem dX1_inSets_35 (by decide) ?_
        refine V_iload_n dX1_inSets_36 rfl 1 rfl ?_
        replace h := ob h
        obtain ⟨r6, e_r6, h⟩ := h
        refine V_callS_I (As := [.int ((v3 / ((100 : Int32)))), .int ((zmd v5 ((100 : Int32)))), .int (i1)]) (rest := [.int (i2)]) (c_X1_tilesOf e_r6) zc_X1_tilesOf rfl (by decide) zm_X1_46 (Nat.le_of_ble_eq_true rfl) rfl dX1_inSets_37 ?_
        refine V_pc (pc' := 40) rfl ?_
        refine V_iadd dX1_inSets_40 ?_
        refine V_istore_n (ls' := [(2, .int ((i2 + r6.1))), (0, .ref (zad L (a0))), (1, .int (i1)), (3, .int (i3))]) dX1_inSets_41 rfl (by decide) rfl ?_
        refine V_iinc (v := i3 + (1 : Int32)) (ls' := [(3, .int ((i3 + (1 : Int32)))), (2, .int ((i2 + r6.1))), (0, .ref (zad L (a0))), (1, .int (i1))]) dX1_inSets_42 3 rfl (by rfl) (by decide) rfl ?_
        refine V_goto (tgt := 4) dX1_inSets_45 (by decide) ?_
        refine V_sub [2, 3, 1, 0] rfl ?_
        exact ih _ _ _ _ _ h
def f_X1_inSets_0 (a0 : Nat) (i1 : Int32) (M : zM) : Option (Int32 × zM) :=
  f_X1_inSets_4 zN a0 i1 ((0 : Int32)) ((0 : Int32)) M
set_option maxRecDepth 20000 in
set_option maxHeartbeats 4000000 in
theorem s_X1_inSets_0 {L : zL} {X : zX} {M0 : zM} {N : Nat × Nat} {Q : State → Prop} {r : Int32 × zM} (hq : vQ L X M0 N Q (some (.int r.1)) r.2) {a0 : Nat} {i1 : Int32} {M : zM} (h : f_X1_inSets_0 a0 i1 M = some r) : V L X yX1_inSets cX1_inSets 4 (some FieldType.int) 2 M0 N Q M 0 [(0, .ref (zad L (a0))), (1, .int (i1))] [] := by
  unfold f_X1_inSets_0 at h
  refine V_iconst (v := 0) dX1_inSets_0 (by decide) ?_
  refine V_istore_n (ls' := [(2, .int ((0 : Int32))), (0, .ref (zad L (a0))), (1, .int (i1))]) dX1_inSets_1 rfl (by decide) rfl ?_
  refine V_iconst (v := 0) dX1_inSets_2 (by decide) ?_
  refine V_istore_n (ls' := [(3, .int ((0 : Int32))), (2, .int ((0 : Int32))), (0, .ref (zad L (a0))), (1, .int (i1))]) dX1_inSets_3 rfl (by decide) rfl ?_
  refine V_sub [2, 3, 1, 0] rfl ?_
  exact s_X1_inSets_4 hq h
def f_X1_inSets (a0 : Nat) (i1 : Int32) (M : zM) : Option (Int32 × zM) := f_X1_inSets_0 a0 i1 M
theorem c_X1_inSets {L : zL} {l : Launch} {a0 : Nat} {i1 : Int32} {M : zM} {r : Int32 × zM} (h : f_X1_inSets a0 i1 M = some r) : CP L l yX1_inSets cX1_inSets 4 (some FieldType.int) 2 M [.ref (zad L (a0)), .int (i1)] (some (.int r.1)) r.2 :=
  CP.of ⟨by decide +kernel, by decide +kernel⟩ (Nat.le_of_ble_eq_true rfl) fun X Q hq => s_X1_inSets_0 hq h
/-! Windsparlour$Seat.lying(I)I -/
theorem dX1_lying_0 : decode cX1_lying 0 = .ok (.aload_n 0, 1) := by decide +kernel
theorem dX1_lying_1 : decode cX1_lying 1 = .ok (.iload_n 1, 1) := by decide +kernel
theorem dX1_lying_2 : decode cX1_lying 2 = .ok (.invokevirtual 50, 3) := by decide +kernel
theorem dX1_lying_5 : decode cX1_lying 5 = .ok (.istore_n 2, 1) := by decide +kernel
theorem dX1_lying_6 : decode cX1_lying 6 = .ok (.iconst 0, 1) := by decide +kernel
theorem dX1_lying_7 : decode cX1_lying 7 = .ok (.istore_n 3, 1) := by decide +kernel
theorem dX1_lying_8 : decode cX1_lying 8 = .ok (.iload_n 3, 1) := by decide +kernel
theorem dX1_lying_9 : decode cX1_lying 9 = .ok (.aload_n 0, 1) := by decide +kernel
theorem dX1_lying_10 : decode cX1_lying 10 = .ok (.getfield 29, 3) := by decide +kernel
theorem dX1_lying_13 : decode cX1_lying 13 = .ok (.if_icmp .ge 33, 3) := by decide +kernel
theorem dX1_lying_16 : decode cX1_lying 16 = .ok (.iload_n 3, 1) := by decide +kernel
theorem dX1_lying_17 : decode cX1_lying 17 = .ok (.bipush 64, 2) := by decide +kernel
theorem dX1_lying_19 : decode cX1_lying 19 = .ok (.if_icmp .ge 27, 3) := by decide +kernel
theorem dX1_lying_22 : decode cX1_lying 22 = .ok (.iload_n 2, 1) := by decide +kernel
theorem dX1_lying_23 : decode cX1_lying 23 = .ok (.aload_n 0, 1) := by decide +kernel
theorem dX1_lying_24 : decode cX1_lying 24 = .ok (.getfield 18, 3) := by decide +kernel
theorem dX1_lying_27 : decode cX1_lying 27 = .ok (.iload_n 3, 1) := by decide +kernel
theorem dX1_lying_28 : decode cX1_lying 28 = .ok (.iaload, 1) := by decide +kernel
theorem dX1_lying_29 : decode cX1_lying 29 = .ok (.iload_n 1, 1) := by decide +kernel
theorem dX1_lying_30 : decode cX1_lying 30 = .ok (.if_icmp .ne 7, 3) := by decide +kernel
theorem dX1_lying_33 : decode cX1_lying 33 = .ok (.iconst 1, 1) := by decide +kernel
theorem dX1_lying_34 : decode cX1_lying 34 = .ok (.goto 4, 3) := by decide +kernel
theorem dX1_lying_37 : decode cX1_lying 37 = .ok (.iconst 0, 1) := by decide +kernel
theorem dX1_lying_38 : decode cX1_lying 38 = .ok (.iadd, 1) := by decide +kernel
theorem dX1_lying_39 : decode cX1_lying 39 = .ok (.istore_n 2, 1) := by decide +kernel
theorem dX1_lying_40 : decode cX1_lying 40 = .ok (.iinc 3 1, 3) := by decide +kernel
theorem dX1_lying_43 : decode cX1_lying 43 = .ok (.goto (-35), 3) := by decide +kernel
theorem dX1_lying_46 : decode cX1_lying 46 = .ok (.iload_n 2, 1) := by decide +kernel
theorem dX1_lying_47 : decode cX1_lying 47 = .ok (.ireturn, 1) := by decide +kernel
def f_X1_lying_8 (n : Nat) (a0 : Nat) (i1 : Int32) (i2 : Int32) (i3 : Int32) (M : zM) : Option (Int32 × zM) := match n with
  | 0 => none
  | n + 1 =>
    (gI 7 5 M a0).bind fun v1 =>
    if v1 ≤ i3 then
    some (i2, M)
    else
    if ((64 : Int32)) ≤ i3 then
    some (i2, M)
    else
    (gR 7 2 M a0).bind fun v2 =>
    (lA 0 M v2 i3).bind fun v3 =>
    if v3 = i1 then
    f_X1_lying_8 n a0 i1 ((i2 + ((1 : Int32)))) ((i3 + (1 : Int32))) M
    else
    f_X1_lying_8 n a0 i1 ((i2 + ((0 : Int32)))) ((i3 + (1 : Int32))) M
set_option maxRecDepth 20000 in
set_option maxHeartbeats 4000000 in
theorem s_X1_lying_8 {L : zL} {X : zX} {M0 : zM} {N : Nat × Nat} {Q : State → Prop} {r : Int32 × zM} (hq : vQ L X M0 N Q (some (.int r.1)) r.2) {n : Nat} {a0 : Nat} {i1 : Int32} {i2 : Int32} {i3 : Int32} {M : zM} : f_X1_lying_8 n a0 i1 i2 i3 M = some r → V L X yX1_lying cX1_lying 4 (some FieldType.int) 3 M0 N Q M 8 [(0, .ref (zad L (a0))), (1, .int (i1)), (2, .int (i2)), (3, .int (i3))] [] := by
  induction n generalizing a0 i1 i2 i3 M with
  | zero =>
    intro h
    rw [f_X1_lying_8] at h
    cases h
  | succ n ih0 =>
    intro h
    have ih : ∀ (a0 : Nat) (i1 : Int32) (i2 : Int32) (i3 : Int32) (M : zM), f_X1_lying_8 n a0 i1 i2 i3 M = some r → V L X yX1_lying cX1_lying 4 (some FieldType.int) 3 M0 N Q M 8 [(0, .ref (zad L (a0))), (1, .int (i1)), (2, .int (i2)), (3, .int (i3))] [] := fun a0 i1 i2 i3 M h => ih0 h
    rw [f_X1_lying_8] at h
    refine V_iload_n dX1_lying_8 rfl 3 rfl ?_
    refine V_aload_n dX1_lying_9 rfl 0 rfl ?_
    replace h := ob h
    obtain ⟨v1, e_v1, h⟩ := h
    refine V_getI zf_7_5 zl_X1_29 e_v1 dX1_lying_10 ?_
    refine V_pc (pc' := 13) rfl ?_
    refine V_icmp_ge (tgt := 46) dX1_lying_13 (by decide) (fun c6 => ?_) (fun c6 => ?_)
    · replace h := (oi h).1 c6
      refine V_iload_n dX1_lying_46 rfl 2 rfl ?_
      obtain rfl := Option.some.inj h
      exact V_iret rfl hq dX1_lying_47
    · replace h := (oi h).2 c6
      refine V_iload_n dX1_lying_16 rfl 3 rfl ?_
      refine V_bipush (v := 64) dX1_lying_17 (by decide) ?_
      refine V_icmp_ge (tgt := 46) dX1_lying_19 (by decide) (fun c5 => ?_) (fun c5 => ?_)
      · replace h := (oi h).1 c5
        refine V_iload_n dX1_lying_46 rfl 2 rfl ?_
        obtain rfl := Option.some.inj h
        exact V_iret rfl hq dX1_lying_47
      · replace h := (oi h).2 c5
        refine V_iload_n dX1_lying_22 rfl 2 rfl ?_
        refine V_aload_n dX1_lying_23 rfl 0 rfl ?_
        replace h := ob h
        obtain ⟨v2, e_v2, h⟩ := h
        refine V_getR zf_7_2 zl_X1_18 e_v2 dX1_lying_24 ?_
        refine V_pc (pc' := 27) rfl ?_
        refine V_iload_n dX1_lying_27 rfl 3 rfl ?_
        replace h := ob h
        obtain ⟨v3, e_v3, h⟩ := h
        refine V_iald e_v3 dX1_lying_28 ?_
        refine V_pc (pc' := 29) rfl ?_
        refine V_iload_n dX1_lying_29 rfl 1 rfl ?_
        refine V_icmp_ne (tgt := 37) dX1_lying_30 (by decide) (fun c4 => ?_) (fun c4 => ?_)
        · replace h := (oi h).2 c4
          refine V_iconst (v := 0) dX1_lying_37 (by decide) ?_
          refine V_iadd dX1_lying_38 ?_
          refine V_istore_n (ls' := [(2, .int ((i2 + ((0 : Int32))))), (0, .ref (zad L (a0))), (1, .int (i1)), (3, .int (i3))]) dX1_lying_39 rfl (by decide) rfl ?_
          refine V_iinc (v := i3 + (1 : Int32)) (ls' := [(3, .int ((i3 + (1 : Int32)))), (2, .int ((i2 + ((0 : Int32))))), (0, .ref (zad L (a0))), (1, .int (i1))]) dX1_lying_40 3 rfl (by rfl) (by decide) rfl ?_
          refine V_goto (tgt := 8) dX1_lying_43 (by decide) ?_
          refine V_sub [2, 3, 1, 0] rfl ?_
          exact ih _ _ _ _ _ h
        · replace h := (oi h).1 c4
          refine V_iconst (v := 1) dX1_lying_33 (by decide) ?_
          refine V_goto (tgt := 38) dX1_lying_34 (by decide) ?_
          refine V_iadd dX1_lying_38 ?_
          refine V_istore_n (ls' := [(2, .int ((i2 + ((1 : Int32))))), (0, .ref (zad L (a0))), (1, .int (i1)), (3, .int (i3))]) dX1_lying_39 rfl (by decide) rfl ?_
          refine V_iinc (v := i3 + (1 : Int32)) (ls' := [(3, .int ((i3 + (1 : Int32)))), (2, .int ((i2 + ((1 : Int32))))), (0, .ref (zad L (a0))), (1, .int (i1))]) dX1_lying_40 3 rfl (by rfl) (by decide) rfl ?_
          refine V_goto (tgt := 8) dX1_lying_43 (by decide) ?_
          refine V_sub [2, 3, 1, 0] rfl ?_
          exact ih _ _ _ _ _ h
def f_X1_lying_0 (a0 : Nat) (i1 : Int32) (M : zM) : Option (Int32 × zM) :=
  if mK M a0 = 7 then
  (f_X1_inSets a0 i1 M).bind fun r1 =>
  f_X1_lying_8 zN a0 i1 r1.1 ((0 : Int32)) r1.2
  else none
set_option maxRecDepth 20000 in
set_option maxHeartbeats 4000000 in
theorem s_X1_lying_0 {L : zL} {X : zX} {M0 : zM} {N : Nat × Nat} {Q : State → Prop} {r : Int32 × zM} (hq : vQ L X M0 N Q (some (.int r.1)) r.2) {a0 : Nat} {i1 : Int32} {M : zM} (h : f_X1_lying_0 a0 i1 M = some r) : V L X yX1_lying cX1_lying 4 (some FieldType.int) 3 M0 N Q M 0 [(0, .ref (zad L (a0))), (1, .int (i1))] [] := by
  unfold f_X1_lying_0 at h
  refine V_aload_n dX1_lying_0 rfl 0 rfl ?_
  refine V_iload_n dX1_lying_1 rfl 1 rfl ?_
  replace h := ox h
  obtain ⟨c2, h⟩ := h
  replace h := ob h
  obtain ⟨r1, e_r1, h⟩ := h
  refine V_callV_I (As := [.int (i1)]) (rest := []) (c_X1_inSets e_r1) zc_X1_inSets rfl (by decide) rfl (by decide) (Or.inl c2) zm_X1_50 (Nat.le_of_ble_eq_true rfl) rfl dX1_lying_2 ?_
  refine V_pc (pc' := 5) rfl ?_
  refine V_istore_n (ls' := [(2, .int (r1.1)), (0, .ref (zad L (a0))), (1, .int (i1))]) dX1_lying_5 rfl (by decide) rfl ?_
  refine V_iconst (v := 0) dX1_lying_6 (by decide) ?_
  refine V_istore_n (ls' := [(3, .int ((0 : Int32))), (2, .int (r1.1)), (0, .ref (zad L (a0))), (1, .int (i1))]) dX1_lying_7 rfl (by decide) rfl ?_
  refine V_sub [2, 3, 1, 0] rfl ?_
  exact s_X1_lying_8 hq h
def f_X1_lying (a0 : Nat) (i1 : Int32) (M : zM) : Option (Int32 × zM) := f_X1_lying_0 a0 i1 M
theorem c_X1_lying {L : zL} {l : Launch} {a0 : Nat} {i1 : Int32} {M : zM} {r : Int32 × zM} (h : f_X1_lying a0 i1 M = some r) : CP L l yX1_lying cX1_lying 4 (some FieldType.int) 3 M [.ref (zad L (a0)), .int (i1)] (some (.int r.1)) r.2 :=
  CP.of ⟨by decide +kernel, by decide +kernel⟩ (Nat.le_of_ble_eq_true rfl) fun X Q hq => s_X1_lying_0 hq h
/-! Windsparlour$Seat.laySet(II)V -/
theorem dX1_laySet_0 : decode cX1_laySet 0 = .ok (.aload_n 0, 1) := by decide +kernel
theorem dX1_laySet_1 : decode cX1_laySet 1 = .ok (.getfield 25, 3) := by decide +kernel
theorem dX1_laySet_4 : decode cX1_laySet 4 = .ok (.ifCond .lt 11, 3) := by decide +kernel
theorem dX1_laySet_7 : decode cX1_laySet 7 = .ok (.aload_n 0, 1) := by decide +kernel
theorem dX1_laySet_8 : decode cX1_laySet 8 = .ok (.getfield 25, 3) := by decide +kernel
theorem dX1_laySet_11 : decode cX1_laySet 11 = .ok (.iconst 3, 1) := by decide +kernel
theorem dX1_laySet_12 : decode cX1_laySet 12 = .ok (.if_icmp .lt 4, 3) := by decide +kernel
theorem dX1_laySet_15 : decode cX1_laySet 15 = .ok (.return_, 1) := by decide +kernel
theorem dX1_laySet_16 : decode cX1_laySet 16 = .ok (.iconst 0, 1) := by decide +kernel
theorem dX1_laySet_17 : decode cX1_laySet 17 = .ok (.istore_n 3, 1) := by decide +kernel
theorem dX1_laySet_18 : decode cX1_laySet 18 = .ok (.iload_n 3, 1) := by decide +kernel
theorem dX1_laySet_19 : decode cX1_laySet 19 = .ok (.bipush 25, 2) := by decide +kernel
theorem dX1_laySet_21 : decode cX1_laySet 21 = .ok (.if_icmp .ge 24, 3) := by decide +kernel
theorem dX1_laySet_24 : decode cX1_laySet 24 = .ok (.aload_n 0, 1) := by decide +kernel
theorem dX1_laySet_25 : decode cX1_laySet 25 = .ok (.getfield 9, 3) := by decide +kernel
theorem dX1_laySet_28 : decode cX1_laySet 28 = .ok (.iload_n 3, 1) := by decide +kernel
theorem dX1_laySet_29 : decode cX1_laySet 29 = .ok (.dup2, 1) := by decide +kernel
theorem dX1_laySet_30 : decode cX1_laySet 30 = .ok (.iaload, 1) := by decide +kernel
theorem dX1_laySet_31 : decode cX1_laySet 31 = .ok (.iload_n 1, 1) := by decide +kernel
theorem dX1_laySet_32 : decode cX1_laySet 32 = .ok (.iload_n 2, 1) := by decide +kernel
theorem dX1_laySet_33 : decode cX1_laySet 33 = .ok (.iload_n 3, 1) := by decide +kernel
theorem dX1_laySet_34 : decode cX1_laySet 34 = .ok (.invokestatic 46, 3) := by decide +kernel
theorem dX1_laySet_37 : decode cX1_laySet 37 = .ok (.isub, 1) := by decide +kernel
theorem dX1_laySet_38 : decode cX1_laySet 38 = .ok (.iastore, 1) := by decide +kernel
theorem dX1_laySet_39 : decode cX1_laySet 39 = .ok (.iinc 3 1, 3) := by decide +kernel
theorem dX1_laySet_42 : decode cX1_laySet 42 = .ok (.goto (-24), 3) := by decide +kernel
theorem dX1_laySet_45 : decode cX1_laySet 45 = .ok (.aload_n 0, 1) := by decide +kernel
theorem dX1_laySet_46 : decode cX1_laySet 46 = .ok (.getfield 15, 3) := by decide +kernel
theorem dX1_laySet_49 : decode cX1_laySet 49 = .ok (.aload_n 0, 1) := by decide +kernel
theorem dX1_laySet_50 : decode cX1_laySet 50 = .ok (.getfield 25, 3) := by decide +kernel
theorem dX1_laySet_53 : decode cX1_laySet 53 = .ok (.bipush 100, 2) := by decide +kernel
theorem dX1_laySet_55 : decode cX1_laySet 55 = .ok (.iload_n 1, 1) := by decide +kernel
theorem dX1_laySet_56 : decode cX1_laySet 56 = .ok (.imul, 1) := by decide +kernel
theorem dX1_laySet_57 : decode cX1_laySet 57 = .ok (.iload_n 2, 1) := by decide +kernel
theorem dX1_laySet_58 : decode cX1_laySet 58 = .ok (.iadd, 1) := by decide +kernel
theorem dX1_laySet_59 : decode cX1_laySet 59 = .ok (.iastore, 1) := by decide +kernel
theorem dX1_laySet_60 : decode cX1_laySet 60 = .ok (.aload_n 0, 1) := by decide +kernel
theorem dX1_laySet_61 : decode cX1_laySet 61 = .ok (.dup, 1) := by decide +kernel
theorem dX1_laySet_62 : decode cX1_laySet 62 = .ok (.getfield 25, 3) := by decide +kernel
theorem dX1_laySet_65 : decode cX1_laySet 65 = .ok (.iconst 1, 1) := by decide +kernel
theorem dX1_laySet_66 : decode cX1_laySet 66 = .ok (.iadd, 1) := by decide +kernel
theorem dX1_laySet_67 : decode cX1_laySet 67 = .ok (.putfield 25, 3) := by decide +kernel
theorem dX1_laySet_70 : decode cX1_laySet 70 = .ok (.return_, 1) := by decide +kernel
def f_X1_laySet_18 (n : Nat) (a0 : Nat) (i1 : Int32) (i2 : Int32) (i3 : Int32) (M : zM) : Option (Unit × zM) := match n with
  | 0 => none
  | n + 1 =>
    if ((25 : Int32)) ≤ i3 then
    (gR 7 1 M a0).bind fun v1 =>
    (gI 7 4 M a0).bind fun v2 =>
    (tA M v1 v2 ((((((100 : Int32)) * i1)) + i2))).bind fun M3 =>
    (gI 7 4 M3 a0).bind fun v4 =>
    (pI 7 4 M3 a0 ((v4 + ((1 : Int32))))).bind fun M5 =>
    some ((), M5)
    else
    (gR 7 0 M a0).bind fun v6 =>
    (lA 0 M v6 i3).bind fun v7 =>
    (f_X1_tilesOf i1 i2 i3 M).bind fun r8 =>
    (tA r8.2 v6 i3 ((v7 - r8.1))).bind fun M9 =>
    f_X1_laySet_18 n a0 i1 i2 ((i3 + (1 : Int32))) M9
set_option maxRecDepth 20000 in
set_option maxHeartbeats 4000000 in
theorem s_X1_laySet_18 {L : zL} {X : zX} {M0 : zM} {N : Nat × Nat} {Q : State → Prop} {r : Unit × zM} (hq : vQ L X M0 N Q none r.2) {n : Nat} {a0 : Nat} {i1 : Int32} {i2 : Int32} {i3 : Int32} {M : zM} : f_X1_laySet_18 n a0 i1 i2 i3 M = some r → V L X yX1_laySet cX1_laySet 4 (none : Option FieldType) 2 M0 N Q M 18 [(0, .ref (zad L (a0))), (1, .int (i1)), (2, .int (i2)), (3, .int (i3))] [] := by
  induction n generalizing a0 i1 i2 i3 M with
  | zero =>
    intro h
    rw [f_X1_laySet_18] at h
    cases h
  | succ n ih0 =>
    intro h
    have ih : ∀ (a0 : Nat) (i1 : Int32) (i2 : Int32) (i3 : Int32) (M : zM), f_X1_laySet_18 n a0 i1 i2 i3 M = some r → V L X yX1_laySet cX1_laySet 4 (none : Option FieldType) 2 M0 N Q M 18 [(0, .ref (zad L (a0))), (1, .int (i1)), (2, .int (i2)), (3, .int (i3))] [] := fun a0 i1 i2 i3 M h => ih0 h
    rw [f_X1_laySet_18] at h
    refine V_iload_n dX1_laySet_18 rfl 3 rfl ?_
    refine V_bipush (v := 25) dX1_laySet_19 (by decide) ?_
    refine V_icmp_ge (tgt := 45) dX1_laySet_21 (by decide) (fun c10 => ?_) (fun c10 => ?_)
    · replace h := (oi h).1 c10
      refine V_aload_n dX1_laySet_45 rfl 0 rfl ?_
      replace h := ob h
      obtain ⟨v1, e_v1, h⟩ := h
      refine V_getR zf_7_1 zl_X1_15 e_v1 dX1_laySet_46 ?_
      refine V_pc (pc' := 49) rfl ?_
      refine V_aload_n dX1_laySet_49 rfl 0 rfl ?_
      replace h := ob h
      obtain ⟨v2, e_v2, h⟩ := h
      refine V_getI zf_7_4 zl_X1_25 e_v2 dX1_laySet_50 ?_
      refine V_pc (pc' := 53) rfl ?_
      refine V_bipush (v := 100) dX1_laySet_53 (by decide) ?_
      refine V_iload_n dX1_laySet_55 rfl 1 rfl ?_
      refine V_imul dX1_laySet_56 ?_
      refine V_iload_n dX1_laySet_57 rfl 2 rfl ?_
      refine V_iadd dX1_laySet_58 ?_
      replace h := ob h
      obtain ⟨M3, e_M3, h⟩ := h
      refine V_iast e_M3 dX1_laySet_59 ?_
      refine V_aload_n dX1_laySet_60 rfl 0 rfl ?_
      refine V_dup dX1_laySet_61 rfl ?_
      replace h := ob h
      obtain ⟨v4, e_v4, h⟩ := h
      refine V_getI zf_7_4 zl_X1_25 e_v4 dX1_laySet_62 ?_
      refine V_pc (pc' := 65) rfl ?_
      refine V_iconst (v := 1) dX1_laySet_65 (by decide) ?_
      refine V_iadd dX1_laySet_66 ?_
      replace h := ob h
      obtain ⟨M5, e_M5, h⟩ := h
      refine V_putI zf_7_4 zl_X1_25 (Or.inl rfl) rfl e_M5 dX1_laySet_67 ?_
      refine V_pc (pc' := 70) rfl ?_
      obtain rfl := Option.some.inj h
      exact V_vret rfl hq dX1_laySet_70
    · replace h := (oi h).2 c10
      refine V_aload_n dX1_laySet_24 rfl 0 rfl ?_
      replace h := ob h
      obtain ⟨v6, e_v6, h⟩ := h
      refine V_getR zf_7_0 zl_X1_9 e_v6 dX1_laySet_25 ?_
      refine V_pc (pc' := 28) rfl ?_
      refine V_iload_n dX1_laySet_28 rfl 3 rfl ?_
      refine V_dup2 dX1_laySet_29 rfl rfl ?_
      replace h := ob h
      obtain ⟨v7, e_v7, h⟩ := h
      refine V_iald e_v7 dX1_laySet_30 ?_
      refine V_pc (pc' := 31) rfl ?_
      refine V_iload_n dX1_laySet_31 rfl 1 rfl ?_
      refine V_iload_n dX1_laySet_32 rfl 2 rfl ?_
      refine V_iload_n dX1_laySet_33 rfl 3 rfl ?_
      replace h := ob h
      obtain ⟨r8, e_r8, h⟩ := h
      refine V_callS_I (As := [.int (i1), .int (i2), .int (i3)]) (rest := [.int (v7), .int (i3), .ref (zad L (v6))]) (c_X1_tilesOf e_r8) zc_X1_tilesOf rfl (by decide) zm_X1_46 (Nat.le_of_ble_eq_true rfl) rfl dX1_laySet_34 ?_
      refine V_pc (pc' := 37) rfl ?_
      refine V_isub dX1_laySet_37 ?_
      replace h := ob h
      obtain ⟨M9, e_M9, h⟩ := h
      refine V_iast e_M9 dX1_laySet_38 ?_
      refine V_iinc (v := i3 + (1 : Int32)) (ls' := [(3, .int ((i3 + (1 : Int32)))), (0, .ref (zad L (a0))), (1, .int (i1)), (2, .int (i2))]) dX1_laySet_39 3 rfl (by rfl) (by decide) rfl ?_
      refine V_goto (tgt := 18) dX1_laySet_42 (by decide) ?_
      refine V_sub [1, 2, 3, 0] rfl ?_
      exact ih _ _ _ _ _ h
def f_X1_laySet_0 (a0 : Nat) (i1 : Int32) (i2 : Int32) (M : zM) : Option (Unit × zM) :=
  (gI 7 4 M a0).bind fun v1 =>
  if v1 < 0 then
  some ((), M)
  else
  (gI 7 4 M a0).bind fun v2 =>
  if v2 < ((3 : Int32)) then
  f_X1_laySet_18 zN a0 i1 i2 ((0 : Int32)) M
  else
  some ((), M)
set_option maxRecDepth 20000 in
set_option maxHeartbeats 4000000 in
theorem s_X1_laySet_0 {L : zL} {X : zX} {M0 : zM} {N : Nat × Nat} {Q : State → Prop} {r : Unit × zM} (hq : vQ L X M0 N Q none r.2) {a0 : Nat} {i1 : Int32} {i2 : Int32} {M : zM} (h : f_X1_laySet_0 a0 i1 i2 M = some r) : V L X yX1_laySet cX1_laySet 4 (none : Option FieldType) 2 M0 N Q M 0 [(0, .ref (zad L (a0))), (1, .int (i1)), (2, .int (i2))] [] := by
  unfold f_X1_laySet_0 at h
  refine V_aload_n dX1_laySet_0 rfl 0 rfl ?_
  replace h := ob h
  obtain ⟨v1, e_v1, h⟩ := h
  refine V_getI zf_7_4 zl_X1_25 e_v1 dX1_laySet_1 ?_
  refine V_pc (pc' := 4) rfl ?_
  refine V_if_lt (tgt := 15) dX1_laySet_4 (by decide) (fun c4 => ?_) (fun c4 => ?_)
  · replace h := (oi h).1 c4
    obtain rfl := Option.some.inj h
    exact V_vret rfl hq dX1_laySet_15
  · replace h := (oi h).2 c4
    refine V_aload_n dX1_laySet_7 rfl 0 rfl ?_
    replace h := ob h
    obtain ⟨v2, e_v2, h⟩ := h
    refine V_getI zf_7_4 zl_X1_25 e_v2 dX1_laySet_8 ?_
    refine V_pc (pc' := 11) rfl ?_
    refine V_iconst (v := 3) dX1_laySet_11 (by decide) ?_
    refine V_icmp_lt (tgt := 16) dX1_laySet_12 (by decide) (fun c3 => ?_) (fun c3 => ?_)
    · replace h := (oi h).1 c3
      refine V_iconst (v := 0) dX1_laySet_16 (by decide) ?_
      refine V_istore_n (ls' := [(3, .int ((0 : Int32))), (0, .ref (zad L (a0))), (1, .int (i1)), (2, .int (i2))]) dX1_laySet_17 rfl (by decide) rfl ?_
      refine V_sub [1, 2, 3, 0] rfl ?_
      exact s_X1_laySet_18 hq h
    · replace h := (oi h).2 c3
      obtain rfl := Option.some.inj h
      exact V_vret rfl hq dX1_laySet_15
def f_X1_laySet (a0 : Nat) (i1 : Int32) (i2 : Int32) (M : zM) : Option (Unit × zM) := f_X1_laySet_0 a0 i1 i2 M
theorem c_X1_laySet {L : zL} {l : Launch} {a0 : Nat} {i1 : Int32} {i2 : Int32} {M : zM} {r : Unit × zM} (h : f_X1_laySet a0 i1 i2 M = some r) : CP L l yX1_laySet cX1_laySet 4 (none : Option FieldType) 2 M [.ref (zad L (a0)), .int (i1), .int (i2)] none r.2 :=
  CP.of ⟨by decide +kernel, by decide +kernel⟩ (Nat.le_of_ble_eq_true rfl) fun X Q hq => s_X1_laySet_0 hq h
/-! Windsparlour$Seat.toRiver(I)V -/
theorem dX1_toRiver_0 : decode cX1_toRiver 0 = .ok (.aload_n 0, 1) := by decide +kernel
theorem dX1_toRiver_1 : decode cX1_toRiver 1 = .ok (.getfield 29, 3) := by decide +kernel
theorem dX1_toRiver_4 : decode cX1_toRiver 4 = .ok (.ifCond .lt 12, 3) := by decide +kernel
theorem dX1_toRiver_7 : decode cX1_toRiver 7 = .ok (.aload_n 0, 1) := by decide +kernel
theorem dX1_toRiver_8 : decode cX1_toRiver 8 = .ok (.getfield 29, 3) := by decide +kernel
theorem dX1_toRiver_11 : decode cX1_toRiver 11 = .ok (.bipush 64, 2) := by decide +kernel
theorem dX1_toRiver_13 : decode cX1_toRiver 13 = .ok (.if_icmp .lt 4, 3) := by decide +kernel
theorem dX1_toRiver_16 : decode cX1_toRiver 16 = .ok (.return_, 1) := by decide +kernel
theorem dX1_toRiver_17 : decode cX1_toRiver 17 = .ok (.aload_n 0, 1) := by decide +kernel
theorem dX1_toRiver_18 : decode cX1_toRiver 18 = .ok (.iload_n 1, 1) := by decide +kernel
theorem dX1_toRiver_19 : decode cX1_toRiver 19 = .ok (.iconst (-1), 1) := by decide +kernel
theorem dX1_toRiver_20 : decode cX1_toRiver 20 = .ok (.invokevirtual 54, 3) := by decide +kernel
theorem dX1_toRiver_23 : decode cX1_toRiver 23 = .ok (.aload_n 0, 1) := by decide +kernel
theorem dX1_toRiver_24 : decode cX1_toRiver 24 = .ok (.getfield 18, 3) := by decide +kernel
theorem dX1_toRiver_27 : decode cX1_toRiver 27 = .ok (.aload_n 0, 1) := by decide +kernel
theorem dX1_toRiver_28 : decode cX1_toRiver 28 = .ok (.getfield 29, 3) := by decide +kernel
theorem dX1_toRiver_31 : decode cX1_toRiver 31 = .ok (.iload_n 1, 1) := by decide +kernel
theorem dX1_toRiver_32 : decode cX1_toRiver 32 = .ok (.iastore, 1) := by decide +kernel
theorem dX1_toRiver_33 : decode cX1_toRiver 33 = .ok (.aload_n 0, 1) := by decide +kernel
theorem dX1_toRiver_34 : decode cX1_toRiver 34 = .ok (.dup, 1) := by decide +kernel
theorem dX1_toRiver_35 : decode cX1_toRiver 35 = .ok (.getfield 29, 3) := by decide +kernel
theorem dX1_toRiver_38 : decode cX1_toRiver 38 = .ok (.iconst 1, 1) := by decide +kernel
theorem dX1_toRiver_39 : decode cX1_toRiver 39 = .ok (.iadd, 1) := by decide +kernel
theorem dX1_toRiver_40 : decode cX1_toRiver 40 = .ok (.putfield 29, 3) := by decide +kernel
theorem dX1_toRiver_43 : decode cX1_toRiver 43 = .ok (.aload_n 0, 1) := by decide +kernel
theorem dX1_toRiver_44 : decode cX1_toRiver 44 = .ok (.dup, 1) := by decide +kernel
theorem dX1_toRiver_45 : decode cX1_toRiver 45 = .ok (.getfield 21, 3) := by decide +kernel
theorem dX1_toRiver_48 : decode cX1_toRiver 48 = .ok (.lconst 1, 1) := by decide +kernel
theorem dX1_toRiver_49 : decode cX1_toRiver 49 = .ok (.iload_n 1, 1) := by decide +kernel
theorem dX1_toRiver_50 : decode cX1_toRiver 50 = .ok (.lshl, 1) := by decide +kernel
theorem dX1_toRiver_51 : decode cX1_toRiver 51 = .ok (.lor, 1) := by decide +kernel
theorem dX1_toRiver_52 : decode cX1_toRiver 52 = .ok (.putfield 21, 3) := by decide +kernel
theorem dX1_toRiver_55 : decode cX1_toRiver 55 = .ok (.return_, 1) := by decide +kernel
def f_X1_toRiver_0 (a0 : Nat) (i1 : Int32) (M : zM) : Option (Unit × zM) :=
  (gI 7 5 M a0).bind fun v1 =>
  if v1 < 0 then
  some ((), M)
  else
  (gI 7 5 M a0).bind fun v2 =>
  if v2 < ((64 : Int32)) then
  if mK M a0 = 7 then
  (f_X1_change a0 i1 ((-1 : Int32)) M).bind fun r3 =>
  (gR 7 2 r3.2 a0).bind fun v5 =>
  (gI 7 5 r3.2 a0).bind fun v6 =>
  (tA r3.2 v5 v6 i1).bind fun M7 =>
  (gI 7 5 M7 a0).bind fun v8 =>
  (pI 7 5 M7 a0 ((v8 + ((1 : Int32))))).bind fun M9 =>
  (gJ 7 3 M9 a0).bind fun v10 =>
  (pJ 7 3 M9 a0 ((v10 ||| ((((1 : Int64)) <<< (i1.toInt64 &&& 63)))))).bind fun M11 =>
  some ((), M11)
  else none
  else
  some ((), M)
set_option maxRecDepth 20000 in
set_option maxHeartbeats 4000000 in
theorem s_X1_toRiver_0 {L : zL} {X : zX} {M0 : zM} {N : Nat × Nat} {Q : State → Prop} {r : Unit × zM} (hq : vQ L X M0 N Q none r.2) {a0 : Nat} {i1 : Int32} {M : zM} (h : f_X1_toRiver_0 a0 i1 M = some r) : V L X yX1_toRiver cX1_toRiver 2 (none : Option FieldType) 2 M0 N Q M 0 [(0, .ref (zad L (a0))), (1, .int (i1))] [] := by
  unfold f_X1_toRiver_0 at h
  refine V_aload_n dX1_toRiver_0 rfl 0 rfl ?_
  replace h := ob h
  obtain ⟨v1, e_v1, h⟩ := h
  refine V_getI zf_7_5 zl_X1_29 e_v1 dX1_toRiver_1 ?_
  refine V_pc (pc' := 4) rfl ?_
  refine V_if_lt (tgt := 16) dX1_toRiver_4 (by decide) (fun c13 => ?_) (fun c13 => ?_)
  · replace h := (oi h).1 c13
    obtain rfl := Option.some.inj h
    exact V_vret rfl hq dX1_toRiver_16
  · replace h := (oi h).2 c13
    refine V_aload_n dX1_toRiver_7 rfl 0 rfl ?_
    replace h := ob h
    obtain ⟨v2, e_v2, h⟩ := h
    refine V_getI zf_7_5 zl_X1_29 e_v2 dX1_toRiver_8 ?_
    refine V_pc (pc' := 11) rfl ?_
    refine V_bipush (v := 64) dX1_toRiver_11 (by decide) ?_
    refine V_icmp_lt (tgt := 17) dX1_toRiver_13 (by decide) (fun c12 => ?_) (fun c12 => ?_)
    · replace h := (oi h).1 c12
      refine V_aload_n dX1_toRiver_17 rfl 0 rfl ?_
      refine V_iload_n dX1_toRiver_18 rfl 1 rfl ?_
      refine V_iconst (v := -1) dX1_toRiver_19 (by decide) ?_
      replace h := ox h
      obtain ⟨c4, h⟩ := h
      replace h := ob h
      obtain ⟨r3, e_r3, h⟩ := h
      refine V_callV_V (As := [.int (i1), .int ((-1 : Int32))]) (rest := []) (c_X1_change e_r3) zc_X1_change rfl (by decide) rfl (by decide) (Or.inl c4) zm_X1_54 (Nat.le_of_ble_eq_true rfl) rfl dX1_toRiver_20 ?_
      refine V_pc (pc' := 23) rfl ?_
      refine V_aload_n dX1_toRiver_23 rfl 0 rfl ?_
      replace h := ob h
      obtain ⟨v5, e_v5, h⟩ := h
      refine V_getR zf_7_2 zl_X1_18 e_v5 dX1_toRiver_24 ?_
      refine V_pc (pc' := 27) rfl ?_
      refine V_aload_n dX1_toRiver_27 rfl 0 rfl ?_
      replace h := ob h
      obtain ⟨v6, e_v6, h⟩ := h
      refine V_getI zf_7_5 zl_X1_29 e_v6 dX1_toRiver_28 ?_
      refine V_pc (pc' := 31) rfl ?_
      refine V_iload_n dX1_toRiver_31 rfl 1 rfl ?_
      replace h := ob h
      obtain ⟨M7, e_M7, h⟩ := h
      refine V_iast e_M7 dX1_toRiver_32 ?_
      refine V_aload_n dX1_toRiver_33 rfl 0 rfl ?_
      refine V_dup dX1_toRiver_34 rfl ?_
      replace h := ob h
      obtain ⟨v8, e_v8, h⟩ := h
      refine V_getI zf_7_5 zl_X1_29 e_v8 dX1_toRiver_35 ?_
      refine V_pc (pc' := 38) rfl ?_
      refine V_iconst (v := 1) dX1_toRiver_38 (by decide) ?_
      refine V_iadd dX1_toRiver_39 ?_
      replace h := ob h
      obtain ⟨M9, e_M9, h⟩ := h
      refine V_putI zf_7_5 zl_X1_29 (Or.inl rfl) rfl e_M9 dX1_toRiver_40 ?_
      refine V_pc (pc' := 43) rfl ?_
      refine V_aload_n dX1_toRiver_43 rfl 0 rfl ?_
      refine V_dup dX1_toRiver_44 rfl ?_
      replace h := ob h
      obtain ⟨v10, e_v10, h⟩ := h
      refine V_getJ zf_7_3 zl_X1_21 e_v10 dX1_toRiver_45 ?_
      refine V_pc (pc' := 48) rfl ?_
      refine V_lconst (v := 1) dX1_toRiver_48 (by decide) ?_
      refine V_iload_n dX1_toRiver_49 rfl 1 rfl ?_
      refine V_lshl dX1_toRiver_50 ?_
      refine V_lor dX1_toRiver_51 ?_
      replace h := ob h
      obtain ⟨M11, e_M11, h⟩ := h
      refine V_putJ zf_7_3 zl_X1_21 (Or.inl rfl) rfl e_M11 dX1_toRiver_52 ?_
      refine V_pc (pc' := 55) rfl ?_
      obtain rfl := Option.some.inj h
      exact V_vret rfl hq dX1_toRiver_55
    · replace h := (oi h).2 c12
      obtain rfl := Option.some.inj h
      exact V_vret rfl hq dX1_toRiver_16
def f_X1_toRiver (a0 : Nat) (i1 : Int32) (M : zM) : Option (Unit × zM) := f_X1_toRiver_0 a0 i1 M
theorem c_X1_toRiver {L : zL} {l : Launch} {a0 : Nat} {i1 : Int32} {M : zM} {r : Unit × zM} (h : f_X1_toRiver a0 i1 M = some r) : CP L l yX1_toRiver cX1_toRiver 2 (none : Option FieldType) 2 M [.ref (zad L (a0)), .int (i1)] none r.2 :=
  CP.of ⟨by decide +kernel, by decide +kernel⟩ (Nat.le_of_ble_eq_true rfl) fun X Q hq => s_X1_toRiver_0 hq h
/-! Windsparlour$Seat.latestInRiver()I -/
theorem dX1_latestInRiver_0 : decode cX1_latestInRiver 0 = .ok (.aload_n 0, 1) := by decide +kernel
theorem dX1_latestInRiver_1 : decode cX1_latestInRiver 1 = .ok (.getfield 29, 3) := by decide +kernel
theorem dX1_latestInRiver_4 : decode cX1_latestInRiver 4 = .ok (.ifCond .le 26, 3) := by decide +kernel
theorem dX1_latestInRiver_7 : decode cX1_latestInRiver 7 = .ok (.aload_n 0, 1) := by decide +kernel
theorem dX1_latestInRiver_8 : decode cX1_latestInRiver 8 = .ok (.getfield 29, 3) := by decide +kernel
theorem dX1_latestInRiver_11 : decode cX1_latestInRiver 11 = .ok (.bipush 64, 2) := by decide +kernel
theorem dX1_latestInRiver_13 : decode cX1_latestInRiver 13 = .ok (.if_icmp .gt 17, 3) := by decide +kernel
theorem dX1_latestInRiver_16 : decode cX1_latestInRiver 16 = .ok (.aload_n 0, 1) := by decide +kernel
theorem dX1_latestInRiver_17 : decode cX1_latestInRiver 17 = .ok (.getfield 18, 3) := by decide +kernel
theorem dX1_latestInRiver_20 : decode cX1_latestInRiver 20 = .ok (.aload_n 0, 1) := by decide +kernel
theorem dX1_latestInRiver_21 : decode cX1_latestInRiver 21 = .ok (.getfield 29, 3) := by decide +kernel
theorem dX1_latestInRiver_24 : decode cX1_latestInRiver 24 = .ok (.iconst 1, 1) := by decide +kernel
theorem dX1_latestInRiver_25 : decode cX1_latestInRiver 25 = .ok (.isub, 1) := by decide +kernel
theorem dX1_latestInRiver_26 : decode cX1_latestInRiver 26 = .ok (.iaload, 1) := by decide +kernel
theorem dX1_latestInRiver_27 : decode cX1_latestInRiver 27 = .ok (.goto 4, 3) := by decide +kernel
theorem dX1_latestInRiver_30 : decode cX1_latestInRiver 30 = .ok (.iconst (-1), 1) := by decide +kernel
theorem dX1_latestInRiver_31 : decode cX1_latestInRiver 31 = .ok (.ireturn, 1) := by decide +kernel
def f_X1_latestInRiver_0 (a0 : Nat) (M : zM) : Option (Int32 × zM) :=
  (gI 7 5 M a0).bind fun v1 =>
  if v1 ≤ 0 then
  some ((-1 : Int32), M)
  else
  (gI 7 5 M a0).bind fun v2 =>
  if ((64 : Int32)) < v2 then
  some ((-1 : Int32), M)
  else
  (gR 7 2 M a0).bind fun v3 =>
  (gI 7 5 M a0).bind fun v4 =>
  (lA 0 M v3 ((v4 - ((1 : Int32))))).bind fun v5 =>
  some (v5, M)
set_option maxRecDepth 20000 in
set_option maxHeartbeats 4000000 in
theorem s_X1_latestInRiver_0 {L : zL} {X : zX} {M0 : zM} {N : Nat × Nat} {Q : State → Prop} {r : Int32 × zM} (hq : vQ L X M0 N Q (some (.int r.1)) r.2) {a0 : Nat} {M : zM} (h : f_X1_latestInRiver_0 a0 M = some r) : V L X yX1_latestInRiver cX1_latestInRiver 1 (some FieldType.int) 1 M0 N Q M 0 [(0, .ref (zad L (a0)))] [] := by
  unfold f_X1_latestInRiver_0 at h
  refine V_aload_n dX1_latestInRiver_0 rfl 0 rfl ?_
  replace h := ob h
  obtain ⟨v1, e_v1, h⟩ := h
  refine V_getI zf_7_5 zl_X1_29 e_v1 dX1_latestInRiver_1 ?_
  refine V_pc (pc' := 4) rfl ?_
  refine V_if_le (tgt := 30) dX1_latestInRiver_4 (by decide) (fun c7 => ?_) (fun c7 => ?_)
  · replace h := (oi h).1 c7
    refine V_iconst (v := -1) dX1_latestInRiver_30 (by decide) ?_
    obtain rfl := Option.some.inj h
    exact V_iret rfl hq dX1_latestInRiver_31
  · replace h := (oi h).2 c7
    refine V_aload_n dX1_latestInRiver_7 rfl 0 rfl ?_
    replace h := ob h
    obtain ⟨v2, e_v2, h⟩ := h
    refine V_getI zf_7_5 zl_X1_29 e_v2 dX1_latestInRiver_8 ?_
    refine V_pc (pc' := 11) rfl ?_
    refine V_bipush (v := 64) dX1_latestInRiver_11 (by decide) ?_
    refine V_icmp_gt (tgt := 30) dX1_latestInRiver_13 (by decide) (fun c6 => ?_) (fun c6 => ?_)
    · replace h := (oi h).1 c6
      refine V_iconst (v := -1) dX1_latestInRiver_30 (by decide) ?_
      obtain rfl := Option.some.inj h
      exact V_iret rfl hq dX1_latestInRiver_31
    · replace h := (oi h).2 c6
      refine V_aload_n dX1_latestInRiver_16 rfl 0 rfl ?_
      replace h := ob h
      obtain ⟨v3, e_v3, h⟩ := h
      refine V_getR zf_7_2 zl_X1_18 e_v3 dX1_latestInRiver_17 ?_
      refine V_pc (pc' := 20) rfl ?_
      refine V_aload_n dX1_latestInRiver_20 rfl 0 rfl ?_
      replace h := ob h
      obtain ⟨v4, e_v4, h⟩ := h
      refine V_getI zf_7_5 zl_X1_29 e_v4 dX1_latestInRiver_21 ?_
      refine V_pc (pc' := 24) rfl ?_
      refine V_iconst (v := 1) dX1_latestInRiver_24 (by decide) ?_
      refine V_isub dX1_latestInRiver_25 ?_
      replace h := ob h
      obtain ⟨v5, e_v5, h⟩ := h
      refine V_iald e_v5 dX1_latestInRiver_26 ?_
      refine V_pc (pc' := 27) rfl ?_
      refine V_goto (tgt := 31) dX1_latestInRiver_27 (by decide) ?_
      obtain rfl := Option.some.inj h
      exact V_iret rfl hq dX1_latestInRiver_31
def f_X1_latestInRiver (a0 : Nat) (M : zM) : Option (Int32 × zM) := f_X1_latestInRiver_0 a0 M
theorem c_X1_latestInRiver {L : zL} {l : Launch} {a0 : Nat} {M : zM} {r : Int32 × zM} (h : f_X1_latestInRiver a0 M = some r) : CP L l yX1_latestInRiver cX1_latestInRiver 1 (some FieldType.int) 1 M [.ref (zad L (a0))] (some (.int r.1)) r.2 :=
  CP.of ⟨by decide +kernel, by decide +kernel⟩ (Nat.le_of_ble_eq_true rfl) fun X Q hq => s_X1_latestInRiver_0 hq h
/-! Windsparlour$Seat.leaveRiver()I -/
theorem dX1_leaveRiver_0 : decode cX1_leaveRiver 0 = .ok (.aload_n 0, 1) := by decide +kernel
theorem dX1_leaveRiver_1 : decode cX1_leaveRiver 1 = .ok (.invokevirtual 58, 3) := by decide +kernel
theorem dX1_leaveRiver_4 : decode cX1_leaveRiver 4 = .ok (.istore_n 1, 1) := by decide +kernel
theorem dX1_leaveRiver_5 : decode cX1_leaveRiver 5 = .ok (.aload_n 0, 1) := by decide +kernel
theorem dX1_leaveRiver_6 : decode cX1_leaveRiver 6 = .ok (.getfield 29, 3) := by decide +kernel
theorem dX1_leaveRiver_9 : decode cX1_leaveRiver 9 = .ok (.ifCond .le 13, 3) := by decide +kernel
theorem dX1_leaveRiver_12 : decode cX1_leaveRiver 12 = .ok (.aload_n 0, 1) := by decide +kernel
theorem dX1_leaveRiver_13 : decode cX1_leaveRiver 13 = .ok (.dup, 1) := by decide +kernel
theorem dX1_leaveRiver_14 : decode cX1_leaveRiver 14 = .ok (.getfield 29, 3) := by decide +kernel
theorem dX1_leaveRiver_17 : decode cX1_leaveRiver 17 = .ok (.iconst 1, 1) := by decide +kernel
theorem dX1_leaveRiver_18 : decode cX1_leaveRiver 18 = .ok (.isub, 1) := by decide +kernel
theorem dX1_leaveRiver_19 : decode cX1_leaveRiver 19 = .ok (.putfield 29, 3) := by decide +kernel
theorem dX1_leaveRiver_22 : decode cX1_leaveRiver 22 = .ok (.iload_n 1, 1) := by decide +kernel
theorem dX1_leaveRiver_23 : decode cX1_leaveRiver 23 = .ok (.ireturn, 1) := by decide +kernel
def f_X1_leaveRiver_0 (a0 : Nat) (M : zM) : Option (Int32 × zM) :=
  if mK M a0 = 7 then
  (f_X1_latestInRiver a0 M).bind fun r1 =>
  (gI 7 5 r1.2 a0).bind fun v3 =>
  if v3 ≤ 0 then
  some (r1.1, r1.2)
  else
  (gI 7 5 r1.2 a0).bind fun v4 =>
  (pI 7 5 r1.2 a0 ((v4 - ((1 : Int32))))).bind fun M5 =>
  some (r1.1, M5)
  else none
set_option maxRecDepth 20000 in
set_option maxHeartbeats 4000000 in
theorem s_X1_leaveRiver_0 {L : zL} {X : zX} {M0 : zM} {N : Nat × Nat} {Q : State → Prop} {r : Int32 × zM} (hq : vQ L X M0 N Q (some (.int r.1)) r.2) {a0 : Nat} {M : zM} (h : f_X1_leaveRiver_0 a0 M = some r) : V L X yX1_leaveRiver cX1_leaveRiver 2 (some FieldType.int) 2 M0 N Q M 0 [(0, .ref (zad L (a0)))] [] := by
  unfold f_X1_leaveRiver_0 at h
  refine V_aload_n dX1_leaveRiver_0 rfl 0 rfl ?_
  replace h := ox h
  obtain ⟨c2, h⟩ := h
  replace h := ob h
  obtain ⟨r1, e_r1, h⟩ := h
  refine V_callV_I (As := []) (rest := []) (c_X1_latestInRiver e_r1) zc_X1_latestInRiver rfl (by decide) rfl (by decide) (Or.inl c2) zm_X1_58 (Nat.le_of_ble_eq_true rfl) rfl dX1_leaveRiver_1 ?_
  refine V_pc (pc' := 4) rfl ?_
  refine V_istore_n (ls' := [(1, .int (r1.1)), (0, .ref (zad L (a0)))]) dX1_leaveRiver_4 rfl (by decide) rfl ?_
  refine V_aload_n dX1_leaveRiver_5 rfl 1 rfl ?_
  replace h := ob h
  obtain ⟨v3, e_v3, h⟩ := h
  refine V_getI zf_7_5 zl_X1_29 e_v3 dX1_leaveRiver_6 ?_
  refine V_pc (pc' := 9) rfl ?_
  refine V_if_le (tgt := 22) dX1_leaveRiver_9 (by decide) (fun c6 => ?_) (fun c6 => ?_)
  · replace h := (oi h).1 c6
    refine V_iload_n dX1_leaveRiver_22 rfl 0 rfl ?_
    obtain rfl := Option.some.inj h
    exact V_iret rfl hq dX1_leaveRiver_23
  · replace h := (oi h).2 c6
    refine V_aload_n dX1_leaveRiver_12 rfl 1 rfl ?_
    refine V_dup dX1_leaveRiver_13 rfl ?_
    replace h := ob h
    obtain ⟨v4, e_v4, h⟩ := h
    refine V_getI zf_7_5 zl_X1_29 e_v4 dX1_leaveRiver_14 ?_
    refine V_pc (pc' := 17) rfl ?_
    refine V_iconst (v := 1) dX1_leaveRiver_17 (by decide) ?_
    refine V_isub dX1_leaveRiver_18 ?_
    replace h := ob h
    obtain ⟨M5, e_M5, h⟩ := h
    refine V_putI zf_7_5 zl_X1_29 (Or.inl rfl) rfl e_M5 dX1_leaveRiver_19 ?_
    refine V_pc (pc' := 22) rfl ?_
    refine V_iload_n dX1_leaveRiver_22 rfl 0 rfl ?_
    obtain rfl := Option.some.inj h
    exact V_iret rfl hq dX1_leaveRiver_23
def f_X1_leaveRiver (a0 : Nat) (M : zM) : Option (Int32 × zM) := f_X1_leaveRiver_0 a0 M
theorem c_X1_leaveRiver {L : zL} {l : Launch} {a0 : Nat} {M : zM} {r : Int32 × zM} (h : f_X1_leaveRiver a0 M = some r) : CP L l yX1_leaveRiver cX1_leaveRiver 2 (some FieldType.int) 2 M [.ref (zad L (a0))] (some (.int r.1)) r.2 :=
  CP.of ⟨by decide +kernel, by decide +kernel⟩ (Nat.le_of_ble_eq_true rfl) fun X Q hq => s_X1_leaveRiver_0 hq h
/-! Windsparlour$Parting.<init>()V -/
theorem dX0_init_0 : decode cX0_init 0 = .ok (.aload_n 0, 1) := by decide +kernel
theorem dX0_init_1 : decode cX0_init 1 = .ok (.invokespecial 3, 3) := by decide +kernel
theorem dX0_init_4 : decode cX0_init 4 = .ok (.aload_n 0, 1) := by decide +kernel
theorem dX0_init_5 : decode cX0_init 5 = .ok (.bipush 25, 2) := by decide +kernel
theorem dX0_init_7 : decode cX0_init 7 = .ok (.newarray .int, 2) := by decide +kernel
theorem dX0_init_9 : decode cX0_init 9 = .ok (.putfield 9, 3) := by decide +kernel
theorem dX0_init_12 : decode cX0_init 12 = .ok (.aload_n 0, 1) := by decide +kernel
theorem dX0_init_13 : decode cX0_init 13 = .ok (.iconst 4, 1) := by decide +kernel
theorem dX0_init_14 : decode cX0_init 14 = .ok (.newarray .int, 2) := by decide +kernel
theorem dX0_init_16 : decode cX0_init 16 = .ok (.putfield 15, 3) := by decide +kernel
theorem dX0_init_19 : decode cX0_init 19 = .ok (.aload_n 0, 1) := by decide +kernel
theorem dX0_init_20 : decode cX0_init 20 = .ok (.iconst 4, 1) := by decide +kernel
theorem dX0_init_21 : decode cX0_init 21 = .ok (.newarray .int, 2) := by decide +kernel
theorem dX0_init_23 : decode cX0_init 23 = .ok (.putfield 18, 3) := by decide +kernel
theorem dX0_init_26 : decode cX0_init 26 = .ok (.aload_n 0, 1) := by decide +kernel
theorem dX0_init_27 : decode cX0_init 27 = .ok (.iconst 4, 1) := by decide +kernel
theorem dX0_init_28 : decode cX0_init 28 = .ok (.newarray .int, 2) := by decide +kernel
theorem dX0_init_30 : decode cX0_init 30 = .ok (.putfield 21, 3) := by decide +kernel
theorem dX0_init_33 : decode cX0_init 33 = .ok (.aload_n 0, 1) := by decide +kernel
theorem dX0_init_34 : decode cX0_init 34 = .ok (.iconst 4, 1) := by decide +kernel
theorem dX0_init_35 : decode cX0_init 35 = .ok (.newarray .int, 2) := by decide +kernel
theorem dX0_init_37 : decode cX0_init 37 = .ok (.putfield 24, 3) := by decide +kernel
theorem dX0_init_40 : decode cX0_init 40 = .ok (.return_, 1) := by decide +kernel
def f_X0_init_0 (a0 : Nat) (M : zM) : Option (Unit × zM) :=
  (aA 0 M ((25 : Int32))).bind fun r1 =>
  (pR 6 0 r1.2 a0 r1.1).bind fun M2 =>
  (aA 0 M2 ((4 : Int32))).bind fun r3 =>
  (pR 6 1 r3.2 a0 r3.1).bind fun M4 =>
  (aA 0 M4 ((4 : Int32))).bind fun r5 =>
  (pR 6 2 r5.2 a0 r5.1).bind fun M6 =>
  (aA 0 M6 ((4 : Int32))).bind fun r7 =>
  (pR 6 3 r7.2 a0 r7.1).bind fun M8 =>
  (aA 0 M8 ((4 : Int32))).bind fun r9 =>
  (pR 6 4 r9.2 a0 r9.1).bind fun M10 =>
  some ((), M10)
set_option maxRecDepth 20000 in
set_option maxHeartbeats 4000000 in
theorem s_X0_init_0 {L : zL} {X : zX} {M0 : zM} {N : Nat × Nat} {Q : State → Prop} {r : Unit × zM} (hq : vQ L X M0 N Q none r.2) {a0 : Nat} {M : zM} (h : f_X0_init_0 a0 M = some r) : V L X yX0_init cX0_init 1 (none : Option FieldType) 1 M0 N Q M 0 [(0, .ref (zad L (a0)))] [] := by
  unfold f_X0_init_0 at h
  refine V_aload_n dX0_init_0 rfl 0 rfl ?_
  refine V_objInit zo_X0_3 (by decide) (Nat.le_of_ble_eq_true rfl) dX0_init_1 ?_
  refine V_aload_n dX0_init_4 rfl 0 rfl ?_
  refine V_bipush (v := 25) dX0_init_5 (by decide) ?_
  replace h := ob h
  obtain ⟨r1, e_r1, h⟩ := h
  refine V_newa (t := 0) (by decide) rfl zna_0 e_r1 dX0_init_7 ?_
  refine V_pc (pc' := 9) rfl ?_
  replace h := ob h
  obtain ⟨M2, e_M2, h⟩ := h
  refine V_putR zf_6_0 zl_X0_9 (Or.inr ⟨rfl, rfl, rfl⟩) rfl e_M2 dX0_init_9 ?_
  refine V_pc (pc' := 12) rfl ?_
  refine V_aload_n dX0_init_12 rfl 0 rfl ?_
  refine V_iconst (v := 4) dX0_init_13 (by decide) ?_
  replace h := ob h
  obtain ⟨r3, e_r3, h⟩ := h
  refine V_newa (t := 0) (by decide) rfl zna_0 e_r3 dX0_init_14 ?_
  refine V_pc (pc' := 16) rfl ?_
  replace h := ob h
  obtain ⟨M4, e_M4, h⟩ := h
  refine V_putR zf_6_1 zl_X0_15 (Or.inr ⟨rfl, rfl, rfl⟩) rfl e_M4 dX0_init_16 ?_
  refine V_pc (pc' := 19) rfl ?_
  refine V_aload_n dX0_init_19 rfl 0 rfl ?_
  refine V_iconst (v := 4) dX0_init_20 (by decide) ?_
  replace h := ob h
  obtain ⟨r5, e_r5, h⟩ := h
  refine V_newa (t := 0) (by decide) rfl zna_0 e_r5 dX0_init_21 ?_
  refine V_pc (pc' := 23) rfl ?_
  replace h := ob h
  obtain ⟨M6, e_M6, h⟩ := h
  refine V_putR zf_6_2 zl_X0_18 (Or.inr ⟨rfl, rfl, rfl⟩) rfl e_M6 dX0_init_23 ?_
  refine V_pc (pc' := 26) rfl ?_
  refine V_aload_n dX0_init_26 rfl 0 rfl ?_
  refine V_iconst (v := 4) dX0_init_27 (by decide) ?_
  replace h := ob h
  obtain ⟨r7, e_r7, h⟩ := h
  refine V_newa (t := 0) (by decide) rfl zna_0 e_r7 dX0_init_28 ?_
  refine V_pc (pc' := 30) rfl ?_
  replace h := ob h
  obtain ⟨M8, e_M8, h⟩ := h
  refine V_putR zf_6_3 zl_X0_21 (Or.inr ⟨rfl, rfl, rfl⟩) rfl e_M8 dX0_init_30 ?_
  refine V_pc (pc' := 33) rfl ?_
  refine V_aload_n dX0_init_33 rfl 0 rfl ?_
  refine V_iconst (v := 4) dX0_init_34 (by decide) ?_
  replace h := ob h
  obtain ⟨r9, e_r9, h⟩ := h
  refine V_newa (t := 0) (by decide) rfl zna_0 e_r9 dX0_init_35 ?_
  refine V_pc (pc' := 37) rfl ?_
  replace h := ob h
  obtain ⟨M10, e_M10, h⟩ := h
  refine V_putR zf_6_4 zl_X0_24 (Or.inr ⟨rfl, rfl, rfl⟩) rfl e_M10 dX0_init_37 ?_
  refine V_pc (pc' := 40) rfl ?_
  obtain rfl := Option.some.inj h
  exact V_vret rfl hq dX0_init_40
def f_X0_init (a0 : Nat) (M : zM) : Option (Unit × zM) := f_X0_init_0 a0 M
theorem c_X0_init {L : zL} {l : Launch} {a0 : Nat} {M : zM} {r : Unit × zM} (h : f_X0_init a0 M = some r) : CP L l yX0_init cX0_init 1 (none : Option FieldType) 1 M [.ref (zad L (a0))] none r.2 :=
  CP.of ⟨by decide +kernel, by decide +kernel⟩ (Nat.le_of_ble_eq_true rfl) fun X Q hq => s_X0_init_0 hq h
/-! Windsparlour$Parting.copy([I)V -/
theorem dX0_copy_0 : decode cX0_copy 0 = .ok (.iconst 0, 1) := by decide +kernel
theorem dX0_copy_1 : decode cX0_copy 1 = .ok (.istore_n 2, 1) := by decide +kernel
theorem dX0_copy_2 : decode cX0_copy 2 = .ok (.iload_n 2, 1) := by decide +kernel
theorem dX0_copy_3 : decode cX0_copy 3 = .ok (.bipush 25, 2) := by decide +kernel
theorem dX0_copy_5 : decode cX0_copy 5 = .ok (.if_icmp .ge 24, 3) := by decide +kernel
theorem dX0_copy_8 : decode cX0_copy 8 = .ok (.iload_n 2, 1) := by decide +kernel
theorem dX0_copy_9 : decode cX0_copy 9 = .ok (.aload_n 1, 1) := by decide +kernel
theorem dX0_copy_10 : decode cX0_copy 10 = .ok (.arraylength, 1) := by decide +kernel
theorem dX0_copy_11 : decode cX0_copy 11 = .ok (.if_icmp .ge 18, 3) := by decide +kernel
theorem dX0_copy_14 : decode cX0_copy 14 = .ok (.aload_n 0, 1) := by decide +kernel
theorem dX0_copy_15 : decode cX0_copy 15 = .ok (.getfield 9, 3) := by decide +kernel
theorem dX0_copy_18 : decode cX0_copy 18 = .ok (.iload_n 2, 1) := by decide +kernel
theorem dX0_copy_19 : decode cX0_copy 19 = .ok (.aload_n 1, 1) := by decide +kernel
theorem dX0_copy_20 : decode cX0_copy 20 = .ok (.iload_n 2, 1) := by decide +kernel
theorem dX0_copy_21 : decode cX0_copy 21 = .ok (.iaload, 1) := by decide +kernel
theorem dX0_copy_22 : decode cX0_copy 22 = .ok (.iastore, 1) := by decide +kernel
theorem dX0_copy_23 : decode cX0_copy 23 = .ok (.iinc 2 1, 3) := by decide +kernel
theorem dX0_copy_26 : decode cX0_copy 26 = .ok (.goto (-24), 3) := by decide +kernel
theorem dX0_copy_29 : decode cX0_copy 29 = .ok (.return_, 1) := by decide +kernel
def f_X0_copy_2 (n : Nat) (a0 : Nat) (a1 : Nat) (i2 : Int32) (M : zM) : Option (Unit × zM) := match n with
  | 0 => none
  | n + 1 =>
    if ((25 : Int32)) ≤ i2 then
    some ((), M)
    else
    (gL M a1).bind fun v1 =>
    if v1 ≤ i2 then
    some ((), M)
    else
    (gR 6 0 M a0).bind fun v2 =>
    (lA 0 M a1 i2).bind fun v3 =>
    (tA M v2 i2 v3).bind fun M4 =>
    f_X0_copy_2 n a0 a1 ((i2 + (1 : Int32))) M4
set_option maxRecDepth 20000 in
set_option maxHeartbeats 4000000 in
theorem s_X0_copy_2 {L : zL} {X : zX} {M0 : zM} {N : Nat × Nat} {Q : State → Prop} {r : Unit × zM} (hq : vQ L X M0 N Q none r.2) {n : Nat} {a0 : Nat} {a1 : Nat} {i2 : Int32} {M : zM} : f_X0_copy_2 n a0 a1 i2 M = some r → V L X yX0_copy cX0_copy 3 (none : Option FieldType) 1 M0 N Q M 2 [(0, .ref (zad L (a0))), (1, .ref (zad L (a1))), (2, .int (i2))] [] := by
  induction n generalizing a0 a1 i2 M with
  | zero =>
    intro h
    rw [f_X0_copy_2] at h
    cases h
  | succ n ih0 =>
    intro h
    have ih : ∀ (a0 : Nat) (a1 : Nat) (i2 : Int32) (M : zM), f_X0_copy_2 n a0 a1 i2 M = some r → V L X yX0_copy cX0_copy 3 (none : Option FieldType) 1 M0 N Q M 2 [(0, .ref (zad L (a0))), (1, .ref (zad L (a1))), (2, .int (i2))] [] := fun a0 a1 i2 M h => ih0 h
    rw [f_X0_copy_2] at h
    refine V_iload_n dX0_copy_2 rfl 2 rfl ?_
    refine V_bipush (v := 25) dX0_copy_3 (by decide) ?_
    refine V_icmp_ge (tgt := 29) dX0_copy_5 (by decide) (fun c6 => ?_) (fun c6 => ?_)
    · replace h := (oi h).1 c6
      obtain rfl := Option.some.inj h
      exact V_vret rfl hq dX0_copy_29
    · replace h := (oi h).2 c6
      refine V_iload_n dX0_copy_8 rfl 2 rfl ?_
      refine V_aload_n dX0_copy_9 rfl 1 rfl ?_
      replace h := ob h
      obtain ⟨v1, e_v1, h⟩ := h
      refine V_alen e_v1 dX0_copy_10 ?_
      refine V_pc (pc' := 11) rfl ?_
      refine V_icmp_ge (tgt := 29) dX0_copy_11 (by decide) (fun c5 => ?_) (fun c5 => ?_)
      · replace h := (oi h).1 c5
        obtain rfl := Option.some.inj h
        exact V_vret rfl hq dX0_copy_29
      · replace h := (oi h).2 c5
        refine V_aload_n dX0_copy_14 rfl 0 rfl ?_
        replace h := ob h
        obtain ⟨v2, e_v2, h⟩ := h
        refine V_getR zf_6_0 zl_X0_9 e_v2 dX0_copy_15 ?_
        refine V_pc (pc' := 18) rfl ?_
        refine V_iload_n dX0_copy_18 rfl 2 rfl ?_
        refine V_aload_n dX0_copy_19 rfl 1 rfl ?_
        refine V_iload_n dX0_copy_20 rfl 2 rfl ?_
        replace h := ob h
        obtain ⟨v3, e_v3, h⟩ := h
        refine V_iald e_v3 dX0_copy_21 ?_
        refine V_pc (pc' := 22) rfl ?_
        replace h := ob h
        obtain ⟨M4, e_M4, h⟩ := h
        refine V_iast e_M4 dX0_copy_22 ?_
        refine V_iinc (v := i2 + (1 : Int32)) (ls' := [(2, .int ((i2 + (1 : Int32)))), (0, .ref (zad L (a0))), (1, .ref (zad L (a1)))]) dX0_copy_23 2 rfl (by rfl) (by decide) rfl ?_
        refine V_goto (tgt := 2) dX0_copy_26 (by decide) ?_
        refine V_sub [1, 2, 0] rfl ?_
        exact ih _ _ _ _ h
def f_X0_copy_0 (a0 : Nat) (a1 : Nat) (M : zM) : Option (Unit × zM) :=
  f_X0_copy_2 zN a0 a1 ((0 : Int32)) M
set_option maxRecDepth 20000 in
set_option maxHeartbeats 4000000 in
theorem s_X0_copy_0 {L : zL} {X : zX} {M0 : zM} {N : Nat × Nat} {Q : State → Prop} {r : Unit × zM} (hq : vQ L X M0 N Q none r.2) {a0 : Nat} {a1 : Nat} {M : zM} (h : f_X0_copy_0 a0 a1 M = some r) : V L X yX0_copy cX0_copy 3 (none : Option FieldType) 1 M0 N Q M 0 [(0, .ref (zad L (a0))), (1, .ref (zad L (a1)))] [] := by
  unfold f_X0_copy_0 at h
  refine V_iconst (v := 0) dX0_copy_0 (by decide) ?_
  refine V_istore_n (ls' := [(2, .int ((0 : Int32))), (0, .ref (zad L (a0))), (1, .ref (zad L (a1)))]) dX0_copy_1 rfl (by decide) rfl ?_
  refine V_sub [1, 2, 0] rfl ?_
  exact s_X0_copy_2 hq h
def f_X0_copy (a0 : Nat) (a1 : Nat) (M : zM) : Option (Unit × zM) := f_X0_copy_0 a0 a1 M
theorem c_X0_copy {L : zL} {l : Launch} {a0 : Nat} {a1 : Nat} {M : zM} {r : Unit × zM} (h : f_X0_copy a0 a1 M = some r) : CP L l yX0_copy cX0_copy 3 (none : Option FieldType) 1 M [.ref (zad L (a0)), .ref (zad L (a1))] none r.2 :=
  CP.of ⟨by decide +kernel, by decide +kernel⟩ (Nat.le_of_ble_eq_true rfl) fun X Q hq => s_X0_copy_0 hq h
/-! Windsparlour.startsRow(I)Z -/
theorem dX3_startsRow_0 : decode cX3_startsRow 0 = .ok (.iload_n 0, 1) := by decide +kernel
theorem dX3_startsRow_1 : decode cX3_startsRow 1 = .ok (.ifCond .lt 22, 3) := by decide +kernel
theorem dX3_startsRow_4 : decode cX3_startsRow 4 = .ok (.iload_n 0, 1) := by decide +kernel
theorem dX3_startsRow_5 : decode cX3_startsRow 5 = .ok (.bipush 18, 2) := by decide +kernel
theorem dX3_startsRow_7 : decode cX3_startsRow 7 = .ok (.if_icmp .ge 16, 3) := by decide +kernel
theorem dX3_startsRow_10 : decode cX3_startsRow 10 = .ok (.iload_n 0, 1) := by decide +kernel
theorem dX3_startsRow_11 : decode cX3_startsRow 11 = .ok (.bipush 9, 2) := by decide +kernel
theorem dX3_startsRow_13 : decode cX3_startsRow 13 = .ok (.irem, 1) := by decide +kernel
theorem dX3_startsRow_14 : decode cX3_startsRow 14 = .ok (.bipush 6, 2) := by decide +kernel
theorem dX3_startsRow_16 : decode cX3_startsRow 16 = .ok (.if_icmp .gt 7, 3) := by decide +kernel
theorem dX3_startsRow_19 : decode cX3_startsRow 19 = .ok (.iconst 1, 1) := by decide +kernel
theorem dX3_startsRow_20 : decode cX3_startsRow 20 = .ok (.goto 4, 3) := by decide +kernel
theorem dX3_startsRow_23 : decode cX3_startsRow 23 = .ok (.iconst 0, 1) := by decide +kernel
theorem dX3_startsRow_24 : decode cX3_startsRow 24 = .ok (.ireturn, 1) := by decide +kernel
def f_X3_startsRow_0 (i0 : Int32) (M : zM) : Option (Int32 × zM) :=
  if i0 < 0 then
  some ((0 : Int32), M)
  else
  if ((18 : Int32)) ≤ i0 then
  some ((0 : Int32), M)
  else
  if ((6 : Int32)) < ((zmd i0 ((9 : Int32)))) then
  some ((0 : Int32), M)
  else
  some ((1 : Int32), M)
set_option maxRecDepth 20000 in
set_option maxHeartbeats 4000000 in
theorem s_X3_startsRow_0 {L : zL} {X : zX} {M0 : zM} {N : Nat × Nat} {Q : State → Prop} {r : Int32 × zM} (hq : vQ L X M0 N Q (some (.int r.1)) r.2) {i0 : Int32} {M : zM} (h : f_X3_startsRow_0 i0 M = some r) : V L X yX3_startsRow cX3_startsRow 1 (some FieldType.boolean) 1 M0 N Q M 0 [(0, .int (i0))] [] := by
  unfold f_X3_startsRow_0 at h
  refine V_iload_n dX3_startsRow_0 rfl 0 rfl ?_
  refine V_if_lt (tgt := 23) dX3_startsRow_1 (by decide) (fun c3 => ?_) (fun c3 => ?_)
  · replace h := (oi h).1 c3
    refine V_iconst (v := 0) dX3_startsRow_23 (by decide) ?_
    obtain rfl := Option.some.inj h
    exact V_zret (ty := .boolean) rfl rfl hq dX3_startsRow_24
  · replace h := (oi h).2 c3
    refine V_iload_n dX3_startsRow_4 rfl 0 rfl ?_
    refine V_bipush (v := 18) dX3_startsRow_5 (by decide) ?_
    refine V_icmp_ge (tgt := 23) dX3_startsRow_7 (by decide) (fun c2 => ?_) (fun c2 => ?_)
    · replace h := (oi h).1 c2
      refine V_iconst (v := 0) dX3_startsRow_23 (by decide) ?_
      obtain rfl := Option.some.inj h
      exact V_zret (ty := .boolean) rfl rfl hq dX3_startsRow_24
    · replace h := (oi h).2 c2
      refine V_iload_n dX3_startsRow_10 rfl 0 rfl ?_
      refine V_bipush (v := 9) dX3_startsRow_11 (by decide) ?_
      refine V_irem dX3_startsRow_13 (by decide) ?_
      refine V_bipush (v := 6) dX3_startsRow_14 (by decide) ?_
      refine V_icmp_gt (tgt := 23) dX3_startsRow_16 (by decide) (fun c1 => ?_) (fun c1 => ?_)
      · replace h := (oi h).1 c1
        refine V_iconst (v := 0) dX3_startsRow_23 (by decide) ?_
        obtain rfl := Option.some.inj h
        exact V_zret (ty := .boolean) rfl rfl hq dX3_startsRow_24
      · replace h := (oi h).2 c1
        refine V_iconst (v := 1) dX3_startsRow_19 (by decide) ?_
        refine V_goto (tgt := 24) dX3_startsRow_20 (by decide) ?_
        obtain rfl := Option.some.inj h
        exact V_zret (ty := .boolean) rfl rfl hq dX3_startsRow_24
def f_X3_startsRow (i0 : Int32) (M : zM) : Option (Int32 × zM) := f_X3_startsRow_0 i0 M
theorem c_X3_startsRow {L : zL} {l : Launch} {i0 : Int32} {M : zM} {r : Int32 × zM} (h : f_X3_startsRow i0 M = some r) : CP L l yX3_startsRow cX3_startsRow 1 (some FieldType.boolean) 1 M [.int (i0)] (some (.int r.1)) r.2 :=
  CP.of ⟨by decide +kernel, by decide +kernel⟩ (Nat.le_of_ble_eq_true rfl) fun X Q hq => s_X3_startsRow_0 hq h
/-! Windsparlour$Parting.restIsSets()Z -/
theorem dX0_restIsSets_0 : decode cX0_restIsSets 0 = .ok (.iconst 0, 1) := by decide +kernel
theorem dX0_restIsSets_1 : decode cX0_restIsSets 1 = .ok (.istore_n 1, 1) := by decide +kernel
theorem dX0_restIsSets_2 : decode cX0_restIsSets 2 = .ok (.iload_n 1, 1) := by decide +kernel
theorem dX0_restIsSets_3 : decode cX0_restIsSets 3 = .ok (.bipush 25, 2) := by decide +kernel
theorem dX0_restIsSets_5 : decode cX0_restIsSets 5 = .ok (.if_icmp .ge 87, 3) := by decide +kernel
theorem dX0_restIsSets_8 : decode cX0_restIsSets 8 = .ok (.aload_n 0, 1) := by decide +kernel
theorem dX0_restIsSets_9 : decode cX0_restIsSets 9 = .ok (.getfield 9, 3) := by decide +kernel
theorem dX0_restIsSets_12 : decode cX0_restIsSets 12 = .ok (.iload_n 1, 1) := by decide +kernel
theorem dX0_restIsSets_13 : decode cX0_restIsSets 13 = .ok (.iaload, 1) := by decide +kernel
theorem dX0_restIsSets_14 : decode cX0_restIsSets 14 = .ok (.iconst 3, 1) := by decide +kernel
theorem dX0_restIsSets_15 : decode cX0_restIsSets 15 = .ok (.irem, 1) := by decide +kernel
theorem dX0_restIsSets_16 : decode cX0_restIsSets 16 = .ok (.istore_n 2, 1) := by decide +kernel
theorem dX0_restIsSets_17 : decode cX0_restIsSets 17 = .ok (.iload_n 2, 1) := by decide +kernel
theorem dX0_restIsSets_18 : decode cX0_restIsSets 18 = .ok (.ifCond .le 68, 3) := by decide +kernel
theorem dX0_restIsSets_21 : decode cX0_restIsSets 21 = .ok (.iload_n 1, 1) := by decide +kernel
theorem dX0_restIsSets_22 : decode cX0_restIsSets 22 = .ok (.invokestatic 35, 3) := by decide +kernel
theorem dX0_restIsSets_25 : decode cX0_restIsSets 25 = .ok (.ifCond .eq 35, 3) := by decide +kernel
theorem dX0_restIsSets_28 : decode cX0_restIsSets 28 = .ok (.iload_n 1, 1) := by decide +kernel
theorem dX0_restIsSets_29 : decode cX0_restIsSets 29 = .ok (.iconst 2, 1) := by decide +kernel
theorem dX0_restIsSets_30 : decode cX0_restIsSets 30 = .ok (.iadd, 1) := by decide +kernel
theorem dX0_restIsSets_31 : decode cX0_restIsSets 31 = .ok (.bipush 25, 2) := by decide +kernel
theorem dX0_restIsSets_33 : decode cX0_restIsSets 33 = .ok (.if_icmp .ge 27, 3) := by decide +kernel
theorem dX0_restIsSets_36 : decode cX0_restIsSets 36 = .ok (.aload_n 0, 1) := by decide +kernel
theorem dX0_restIsSets_37 : decode cX0_restIsSets 37 = .ok (.getfield 9, 3) := by decide +kernel
theorem dX0_restIsSets_40 : decode cX0_restIsSets 40 = .ok (.iload_n 1, 1) := by decide +kernel
theorem dX0_restIsSets_41 : decode cX0_restIsSets 41 = .ok (.iconst 1, 1) := by decide +kernel
theorem dX0_restIsSets_42 : decode cX0_restIsSets 42 = .ok (.iadd, 1) := by decide +kernel
theorem dX0_restIsSets_43 : decode cX0_restIsSets 43 = .ok (.iaload, 1) := by decide +kernel
theorem dX0_restIsSets_44 : decode cX0_restIsSets 44 = .ok (.iload_n 2, 1) := by decide +kernel
theorem dX0_restIsSets_45 : decode cX0_restIsSets 45 = .ok (.if_icmp .lt 15, 3) := by decide +kernel
theorem dX0_restIsSets_48 : decode cX0_restIsSets 48 = .ok (.aload_n 0, 1) := by decide +kernel
theorem dX0_restIsSets_49 : decode cX0_restIsSets 49 = .ok (.getfield 9, 3) := by decide +kernel
theorem dX0_restIsSets_52 : decode cX0_restIsSets 52 = .ok (.iload_n 1, 1) := by decide +kernel
theorem dX0_restIsSets_53 : decode cX0_restIsSets 53 = .ok (.iconst 2, 1) := by decide +kernel
theorem dX0_restIsSets_54 : decode cX0_restIsSets 54 = .ok (.iadd, 1) := by decide +kernel
theorem dX0_restIsSets_55 : decode cX0_restIsSets 55 = .ok (.iaload, 1) := by decide +kernel
theorem dX0_restIsSets_56 : decode cX0_restIsSets 56 = .ok (.iload_n 2, 1) := by decide +kernel
theorem dX0_restIsSets_57 : decode cX0_restIsSets 57 = .ok (.if_icmp .ge 5, 3) := by decide +kernel
theorem dX0_restIsSets_60 : decode cX0_restIsSets 60 = .ok (.iconst 0, 1) := by decide +kernel
theorem dX0_restIsSets_61 : decode cX0_restIsSets 61 = .ok (.ireturn, 1) := by decide +kernel
theorem dX0_restIsSets_62 : decode cX0_restIsSets 62 = .ok (.aload_n 0, 1) := by decide +kernel
theorem dX0_restIsSets_63 : decode cX0_restIsSets 63 = .ok (.getfield 9, 3) := by decide +kernel
theorem dX0_restIsSets_66 : decode cX0_restIsSets 66 = .ok (.iload_n 1, 1) := by decide +kernel
theorem dX0_restIsSets_67 : decode cX0_restIsSets 67 = .ok (.iconst 1, 1) := by decide +kernel
theorem dX0_restIsSets_68 : decode cX0_restIsSets 68 = .ok (.iadd, 1) := by decide +kernel
theorem dX0_restIsSets_69 : decode cX0_restIsSets 69 = .ok (.dup2, 1) := by decide +kernel
theorem dX0_restIsSets_70 : decode cX0_restIsSets 70 = .ok (.iaload, 1) := by decide +kernel
theorem dX0_restIsSets_71 : decode cX0_restIsSets 71 = .ok (.iload_n 2, 1) := by decide +kernel
theorem dX0_restIsSets_72 : decode cX0_restIsSets 72 = .ok (.isub, 1) := by decide +kernel
theorem dX0_restIsSets_73 : decode cX0_restIsSets 73 = .ok (.iastore, 1) := by decide +kernel
theorem dX0_restIsSets_74 : decode cX0_restIsSets 74 = .ok (.aload_n 0, 1) := by decide +kernel
theorem dX0_restIsSets_75 : decode cX0_restIsSets 75 = .ok (.getfield 9, 3) := by decide +kernel
theorem dX0_restIsSets_78 : decode cX0_restIsSets 78 = .ok (.iload_n 1, 1) := by decide +kernel
theorem dX0_restIsSets_79 : decode cX0_restIsSets 79 = .ok (.iconst 2, 1) := by decide +kernel
theorem dX0_restIsSets_80 : decode cX0_restIsSets 80 = .ok (.iadd, 1) := by decide +kernel
theorem dX0_restIsSets_81 : decode cX0_restIsSets 81 = .ok (.dup2, 1) := by decide +kernel
theorem dX0_restIsSets_82 : decode cX0_restIsSets 82 = .ok (.iaload, 1) := by decide +kernel
theorem dX0_restIsSets_83 : decode cX0_restIsSets 83 = .ok (.iload_n 2, 1) := by decide +kernel
theorem dX0_restIsSets_84 : decode cX0_restIsSets 84 = .ok (.isub, 1) := by decide +kernel
theorem dX0_restIsSets_85 : decode cX0_restIsSets 85 = .ok (.iastore, 1) := by decide +kernel
theorem dX0_restIsSets_86 : decode cX0_restIsSets 86 = .ok (.iinc 1 1, 3) := by decide +kernel
theorem dX0_restIsSets_89 : decode cX0_restIsSets 89 = .ok (.goto (-87), 3) := by decide +kernel
theorem dX0_restIsSets_92 : decode cX0_restIsSets 92 = .ok (.iconst 1, 1) := by decide +kernel
theorem dX0_restIsSets_93 : decode cX0_restIsSets 93 = .ok (.ireturn, 1) := by decide +kernel
def f_X0_restIsSets_2 (n : Nat) (a0 : Nat) (i1 : Int32) (M : zM) : Option (Int32 × zM) := match n with
  | 0 => none
  | n + 1 =>
    if ((25 : Int32)) ≤ i1 then
    some ((1 : Int32), M)
    else
    (gR 6 0 M a0).bind fun v1 =>
    (lA 0 M v1 i1).bind fun v2 =>
    if ((zmd v2 ((3 : Int32)))) ≤ 0 then
    f_X0_restIsSets_2 n a0 ((i1 + (1 : Int32))) M
    else
    (f_X3_startsRow i1 M).bind fun r3 =>
    if r3.1 = 0 then
    some ((0 : Int32), r3.2)
    else
    if ((25 : Int32)) ≤ ((i1 + ((2 : Int32)))) then
    some ((0 : Int32), r3.2)
    else
    (gR 6 0 r3.2 a0).bind fun v4 =>
    (lA 0 r3.2 v4 ((i1 + ((1 : Int32))))).bind fun v5 =>
    if v5 < ((zmd v2 ((3 : Int32)))) then
    some ((0 : Int32), r3.2)
    else
    (gR 6 0 r3.2 a0).bind fun v6 =>
    (lA 0 r3.2 v6 ((i1 + ((2 : Int32))))).bind fun v7 =>
    if ((zmd v2 ((3 : Int32)))) ≤ v7 then
    (gR 6 0 r3.2 a0).bind fun v8 =>
    (lA 0 r3.2 v8 ((i1 + ((1 : Int32))))).bind fun v9 =>
    (tA r3.2 v8 ((i1 + ((1 : Int32)))) ((v9 - ((zmd v2 ((3 : Int32))))))).bind fun M10 =>
    (gR 6 0 M10 a0).bind fun v11 =>
    (lA 0 M10 v11 ((i1 + ((2 : Int32))))).bind fun v12 =>
    (tA M10 v11 ((i1 + ((2 : Int32)))) ((v12 - ((zmd v2 ((3 : Int32))))))).bind fun M13 =>
    f_X0_restIsSets_2 n a0 ((i1 + (1 : Int32))) M13
    else
    some ((0 : Int32), r3.2)
set_option maxRecDepth 20000 in
set_option maxHeartbeats 4000000 in
theorem s_X0_restIsSets_2 {L : zL} {X : zX} {M0 : zM} {N : Nat × Nat} {Q : State → Prop} {r : Int32 × zM} (hq : vQ L X M0 N Q (some (.int r.1)) r.2) {n : Nat} {a0 : Nat} {i1 : Int32} {M : zM} : f_X0_restIsSets_2 n a0 i1 M = some r → V L X yX0_restIsSets cX0_restIsSets 3 (some FieldType.boolean) 2 M0 N Q M 2 [(0, .ref (zad L (a0))), (1, .int (i1))] [] := by
  induction n generalizing a0 i1 M with
  | zero =>
    intro h
    rw [f_X0_restIsSets_2] at h
    cases h
  | succ n ih0 =>
    intro h
    have ih : ∀ (a0 : Nat) (i1 : Int32) (M : zM), f_X0_restIsSets_2 n a0 i1 M = some r → V L X yX0_restIsSets cX0_restIsSets 3 (some FieldType.boolean) 2 M0 N Q M 2 [(0, .ref (zad L (a0))), (1, .int (i1))] [] := fun a0 i1 M h => ih0 h
    rw [f_X0_restIsSets_2] at h
    refine V_iload_n dX0_restIsSets_2 rfl 1 rfl ?_
    refine V_bipush (v := 25) dX0_restIsSets_3 (by decide) ?_
    refine V_icmp_ge (tgt := 92) dX0_restIsSets_5 (by decide) (fun c19 => ?_) (fun c19 => ?_)
    · replace h := (oi h).1 c19
      refine V_iconst (v := 1) dX0_restIsSets_92 (by decide) ?_
      obtain rfl := Option.some.inj h
      exact V_zret (ty := .boolean) rfl rfl hq dX0_restIsSets_93
    · replace h := (oi h).2 c19
      refine V_aload_n dX0_restIsSets_8 rfl 0 rfl ?_
      replace h := ob h
      obtain ⟨v1, e_v1, h⟩ := h
      refine V_getR zf_6_0 zl_X0_9 e_v1 dX0_restIsSets_9 ?_
      refine V_pc (pc' := 12) rfl ?_
      refine V_iload_n dX0_restIsSets_12 rfl 1 rfl ?_
      replace h := ob h
      obtain ⟨v2, e_v2, h⟩ := h
      refine V_iald e_v2 dX0_restIsSets_13 ?_
      refine V_pc (pc' := 14) rfl ?_
      refine V_iconst (v := 3) dX0_restIsSets_14 (by decide) ?_
      refine V_irem dX0_restIsSets_15 (by decide) ?_
      refine V_istore_n (ls' := [(2, .int ((zmd v2 ((3 : Int32))))), (0, .ref (zad L (a0))), (1, .int (i1))]) dX0_restIsSets_16 rfl (by decide) rfl ?_
      refine V_iload_n dX0_restIsSets_17 rfl 0 rfl ?_
      refine V_if_le (tgt := 86) dX0_restIsSets_18 (by decide) (fun c18 => ?_) (fun c18 => ?_)
      · replace h := (oi h).1 c18
        refine V_iinc (v := i1 + (1 : Int32)) (ls' := [(1, .int ((i1 + (1 : Int32)))), (2, .int ((zmd v2 ((3 : Int32))))), (0, .ref (zad L (a0)))]) dX0_restIsSets_86 2 rfl (by rfl) (by decide) rfl ?_
        refine V_goto (tgt := 2) dX0_restIsSets_89 (by decide) ?_
        refine V_sub [2, 0] rfl ?_
        exact ih _ _ _ h
      · replace h := (oi h).2 c18
        refine V_iload_n dX0_restIsSets_21 rfl 2 rfl ?_
        replace h := ob h
        obtain ⟨r3, e_r3, h⟩ := h
        refine V_callSN_I (As := [.int (i1)]) (rest := []) (c_X3_startsRow e_r3) zc_X3_startsRow rfl (by decide) zm_X0_35 (Nat.le_of_ble_eq_true rfl) rfl dX0_restIsSets_22 ?_
        refine V_pc (pc' := 25) rfl ?_
        refine V_if_eq (tgt := 60) dX0_restIsSets_25 (by decide) (fun c17 => ?_) (fun c17 => ?_)
        · replace h := (oi h).1 c17
          refine V_iconst (v := 0) dX0_restIsSets_60 (by decide) ?_
          obtain rfl := Option.some.inj h
          exact V_zret (ty := .boolean) rfl rfl hq dX0_restIsSets_61
        · replace h := (oi h).2 c17
          refine V_iload_n dX0_restIsSets_28 rfl 2 rfl ?_
          refine V_iconst (v := 2) dX0_restIsSets_29 (by decide) ?_
          refine V_iadd dX0_restIsSets_30 ?_
          refine V_bipush (v := 25) dX0_restIsSets_31 (by decide) ?_
          refine V_icmp_ge (tgt := 60) dX0_restIsSets_33 (by decide) (fun c16 => ?_) (fun c16 => ?_)
          · replace h := (oi h).1 c16
            refine V_iconst (v := 0) dX0_restIsSets_60 (by decide) ?_
            obtain rfl := Option.some.inj h
            exact V_zret (ty := .boolean) rfl rfl hq dX0_restIsSets_61
          · replace h := (oi h).2 c16
            refine V_aload_n dX0_restIsSets_36 rfl 1 rfl ?_
            replace h := ob h
            obtain ⟨v4, e_v4, h⟩ := h
            refine V_getR zf_6_0 zl_X0_9 e_v4 dX0_restIsSets_37 ?_
            refine V_pc (pc' := 40) rfl ?_
            refine V_iload_n dX0_restIsSets_40 rfl 2 rfl ?_
            refine V_iconst (v := 1) dX0_restIsSets_41 (by decide) ?_
            refine V_iadd dX0_restIsSets_42 ?_
            replace h := ob h
            obtain ⟨v5, e_v5, h⟩ := h
            refine V_iald e_v5 dX0_restIsSets_43 ?_
            refine V_pc (pc' := 44) rfl ?_
            refine V_iload_n dX0_restIsSets_44 rfl 0 rfl ?_
            refine V_icmp_lt (tgt := 60) dX0_restIsSets_45 (by decide) (fun c15 => ?_) (fun c15 => ?_)
            · replace h := (oi h).1 c15
              refine V_iconst (v := 0) dX0_restIsSets_60 (by decide) ?_
              obtain rfl := Option.some.inj h
              exact V_zret (ty := .boolean) rfl rfl hq dX0_restIsSets_61
            · replace h := (oi h).2 c15
              refine V_aload_n dX0_restIsSets_48 rfl 1 rfl ?_
              replace h := ob h
              obtain ⟨v6, e_v6, h⟩ := h
              refine V_getR zf_6_0 zl_X0_9 e_v6 dX0_restIsSets_49 ?_
              refine V_pc (pc' := 52) rfl ?_
              refine V_iload_n dX0_restIsSets_52 rfl 2 rfl ?_
              refine V_iconst (v := 2) dX0_restIsSets_53 (by decide) ?_
              refine V_iadd dX0_restIsSets_54 ?_
              replace h := ob h
              obtain ⟨v7, e_v7, h⟩ := h
              refine V_iald e_v7 dX0_restIsSets_55 ?_
              refine V_pc (pc' := 56) rfl ?_
              refine V_iload_n dX0_restIsSets_56 rfl 0 rfl ?_
              refine V_icmp_ge (tgt := 62) dX0_restIsSets_57 (by decide) (fun c14 => ?_) (fun c14 => ?_)
              · replace h := (oi h).1 c14
                refine V_aload_n dX0_restIsSets_62 rfl 1 rfl ?_
                replace h := ob h
                obtain ⟨v8, e_v8, h⟩ := h
                refine V_getR zf_6_0 zl_X0_9 e_v8 dX0_restIsSets_63 ?_
                refine V_pc (pc' := 66) rfl ?_
                refine V_iload_n dX0_restIsSets_66 rfl 2 rfl ?_
                refine V_iconst (v := 1) dX0_restIsSets_67 (by decide) ?_
                refine V_iadd dX0_restIsSets_68 ?_
                refine V_dup2 dX0_restIsSets_69 rfl rfl ?_
                replace h := ob h
                obtain ⟨v9, e_v9, h⟩ := h
                refine V_iald e_v9 dX0_restIsSets_70 ?_
                refine V_pc (pc' := 71) rfl ?_
                refine V_iload_n dX0_restIsSets_71 rfl 0 rfl ?_
                refine V_isub dX0_restIsSets_72 ?_
                replace h := ob h
                obtain ⟨M10, e_M10, h⟩ := h
                refine V_iast e_M10 dX0_restIsSets_73 ?_
                refine V_aload_n dX0_restIsSets_74 rfl 1 rfl ?_
                replace h := ob h
                obtain ⟨v11, e_v11, h⟩ := h
                refine V_getR zf_6_0 zl_X0_9 e_v11 dX0_restIsSets_75 ?_
                refine V_pc (pc' := 78) rfl ?_
                refine V_iload_n dX0_restIsSets_78 rfl 2 rfl ?_
                refine V_iconst (v := 2) dX0_restIsSets_79 (by decide) ?_
                refine V_iadd dX0_restIsSets_80 ?_
                refine V_dup2 dX0_restIsSets_81 rfl rfl ?_
                replace h := ob h
                obtain ⟨v12, e_v12, h⟩ := h
                refine V_iald e_v12 dX0_restIsSets_82 ?_
                refine V_pc (pc' := 83) rfl ?_
                refine V_iload_n dX0_restIsSets_83 rfl 0 rfl ?_
                refine V_isub dX0_restIsSets_84 ?_
                replace h := ob h
                obtain ⟨M13, e_M13, h⟩ := h
                refine V_iast e_M13 dX0_restIsSets_85 ?_
                refine V_iinc (v := i1 + (1 : Int32)) (ls' := [(1, .int ((i1 + (1 : Int32)))), (2, .int ((zmd v2 ((3 : Int32))))), (0, .ref (zad L (a0)))]) dX0_restIsSets_86 2 rfl (by rfl) (by decide) rfl ?_
                refine V_goto (tgt := 2) dX0_restIsSets_89 (by decide) ?_
                refine V_sub [2, 0] rfl ?_
                exact ih _ _ _ h
              · replace h := (oi h).2 c14
                refine V_iconst (v := 0) dX0_restIsSets_60 (by decide) ?_
                obtain rfl := Option.some.inj h
                exact V_zret (ty := .boolean) rfl rfl hq dX0_restIsSets_61
def f_X0_restIsSets_0 (a0 : Nat) (M : zM) : Option (Int32 × zM) :=
  f_X0_restIsSets_2 zN a0 ((0 : Int32)) M
set_option maxRecDepth 20000 in
set_option maxHeartbeats 4000000 in
theorem s_X0_restIsSets_0 {L : zL} {X : zX} {M0 : zM} {N : Nat × Nat} {Q : State → Prop} {r : Int32 × zM} (hq : vQ L X M0 N Q (some (.int r.1)) r.2) {a0 : Nat} {M : zM} (h : f_X0_restIsSets_0 a0 M = some r) : V L X yX0_restIsSets cX0_restIsSets 3 (some FieldType.boolean) 2 M0 N Q M 0 [(0, .ref (zad L (a0)))] [] := by
  unfold f_X0_restIsSets_0 at h
  refine V_iconst (v := 0) dX0_restIsSets_0 (by decide) ?_
  refine V_istore_n (ls' := [(1, .int ((0 : Int32))), (0, .ref (zad L (a0)))]) dX0_restIsSets_1 rfl (by decide) rfl ?_
  refine V_sub [1, 0] rfl ?_
  exact s_X0_restIsSets_2 hq h
def f_X0_restIsSets (a0 : Nat) (M : zM) : Option (Int32 × zM) := f_X0_restIsSets_0 a0 M
theorem c_X0_restIsSets {L : zL} {l : Launch} {a0 : Nat} {M : zM} {r : Int32 × zM} (h : f_X0_restIsSets a0 M = some r) : CP L l yX0_restIsSets cX0_restIsSets 3 (some FieldType.boolean) 2 M [.ref (zad L (a0))] (some (.int r.1)) r.2 :=
  CP.of ⟨by decide +kernel, by decide +kernel⟩ (Nat.le_of_ble_eq_true rfl) fun X Q hq => s_X0_restIsSets_0 hq h
/-! Windsparlour$Parting.complete([I)Z -/
theorem dX0_complete_0 : decode cX0_complete 0 = .ok (.iconst 0, 1) := by decide +kernel
theorem dX0_complete_1 : decode cX0_complete 1 = .ok (.istore_n 2, 1) := by decide +kernel
theorem dX0_complete_2 : decode cX0_complete 2 = .ok (.iload_n 2, 1) := by decide +kernel
theorem dX0_complete_3 : decode cX0_complete 3 = .ok (.bipush 25, 2) := by decide +kernel
theorem dX0_complete_5 : decode cX0_complete 5 = .ok (.if_icmp .ge 46, 3) := by decide +kernel
theorem dX0_complete_8 : decode cX0_complete 8 = .ok (.iload_n 2, 1) := by decide +kernel
theorem dX0_complete_9 : decode cX0_complete 9 = .ok (.aload_n 1, 1) := by decide +kernel
theorem dX0_complete_10 : decode cX0_complete 10 = .ok (.arraylength, 1) := by decide +kernel
theorem dX0_complete_11 : decode cX0_complete 11 = .ok (.if_icmp .ge 34, 3) := by decide +kernel
theorem dX0_complete_14 : decode cX0_complete 14 = .ok (.aload_n 1, 1) := by decide +kernel
theorem dX0_complete_15 : decode cX0_complete 15 = .ok (.iload_n 2, 1) := by decide +kernel
theorem dX0_complete_16 : decode cX0_complete 16 = .ok (.iaload, 1) := by decide +kernel
theorem dX0_complete_17 : decode cX0_complete 17 = .ok (.iconst 2, 1) := by decide +kernel
theorem dX0_complete_18 : decode cX0_complete 18 = .ok (.if_icmp .lt 27, 3) := by decide +kernel
theorem dX0_complete_21 : decode cX0_complete 21 = .ok (.aload_n 0, 1) := by decide +kernel
theorem dX0_complete_22 : decode cX0_complete 22 = .ok (.aload_n 1, 1) := by decide +kernel
theorem dX0_complete_23 : decode cX0_complete 23 = .ok (.invokevirtual 27, 3) := by decide +kernel
theorem dX0_complete_26 : decode cX0_complete 26 = .ok (.aload_n 0, 1) := by decide +kernel
theorem dX0_complete_27 : decode cX0_complete 27 = .ok (.getfield 9, 3) := by decide +kernel
theorem dX0_complete_30 : decode cX0_complete 30 = .ok (.iload_n 2, 1) := by decide +kernel
theorem dX0_complete_31 : decode cX0_complete 31 = .ok (.dup2, 1) := by decide +kernel
theorem dX0_complete_32 : decode cX0_complete 32 = .ok (.iaload, 1) := by decide +kernel
theorem dX0_complete_33 : decode cX0_complete 33 = .ok (.iconst 2, 1) := by decide +kernel
theorem dX0_complete_34 : decode cX0_complete 34 = .ok (.isub, 1) := by decide +kernel
theorem dX0_complete_35 : decode cX0_complete 35 = .ok (.iastore, 1) := by decide +kernel
theorem dX0_complete_36 : decode cX0_complete 36 = .ok (.aload_n 0, 1) := by decide +kernel
theorem dX0_complete_37 : decode cX0_complete 37 = .ok (.invokevirtual 31, 3) := by decide +kernel
theorem dX0_complete_40 : decode cX0_complete 40 = .ok (.ifCond .eq 5, 3) := by decide +kernel
theorem dX0_complete_43 : decode cX0_complete 43 = .ok (.iconst 1, 1) := by decide +kernel
theorem dX0_complete_44 : decode cX0_complete 44 = .ok (.ireturn, 1) := by decide +kernel
theorem dX0_complete_45 : decode cX0_complete 45 = .ok (.iinc 2 1, 3) := by decide +kernel
theorem dX0_complete_48 : decode cX0_complete 48 = .ok (.goto (-46), 3) := by decide +kernel
theorem dX0_complete_51 : decode cX0_complete 51 = .ok (.iconst 0, 1) := by decide +kernel
theorem dX0_complete_52 : decode cX0_complete 52 = .ok (.ireturn, 1) := by decide +kernel
def f_X0_complete_2 (n : Nat) (a0 : Nat) (a1 : Nat) (i2 : Int32) (M : zM) : Option (Int32 × zM) := match n with
  | 0 => none
  | n + 1 =>
    if ((25 : Int32)) ≤ i2 then
    some ((0 : Int32), M)
    else
    (gL M a1).bind fun v1 =>
    if v1 ≤ i2 then
    f_X0_complete_2 n a0 a1 ((i2 + (1 : Int32))) M
    else
    (lA 0 M a1 i2).bind fun v2 =>
    if v2 < ((2 : Int32)) then
    f_X0_complete_2 n a0 a1 ((i2 + (1 : Int32))) M
    else
    if mK M a0 = 6 then
    (f_X0_copy a0 a1 M).bind fun r3 =>
    (gR 6 0 r3.2 a0).bind fun v5 =>
    (lA 0 r3.2 v5 i2).bind fun v6 =>
    (tA r3.2 v5 i2 ((v6 - ((2 : Int32))))).bind fun M7 =>
    if mK M7 a0 = 6 then
    (f_X0_restIsSets a0 M7).bind fun r8 =>
    if r8.1 = 0 then
    f_X0_complete_2 n a0 a1 ((i2 + (1 : Int32))) r8.2
    else
    some ((1 : Int32), r8.2)
    else none
    else none
set_option maxRecDepth 20000 in
set_option maxHeartbeats 4000000 in
theorem s_X0_complete_2 {L : zL} {X : zX} {M0 : zM} {N : Nat × Nat} {Q : State → Prop} {r : Int32 × zM} (hq : vQ L X M0 N Q (some (.int r.1)) r.2) {n : Nat} {a0 : Nat} {a1 : Nat} {i2 : Int32} {M : zM} : f_X0_complete_2 n a0 a1 i2 M = some r → V L X yX0_complete cX0_complete 3 (some FieldType.boolean) 3 M0 N Q M 2 [(0, .ref (zad L (a0))), (1, .ref (zad L (a1))), (2, .int (i2))] [] := by
  induction n generalizing a0 a1 i2 M with
  | zero =>
    intro h
    rw [f_X0_complete_2] at h
    cases h
  | succ n ih0 =>
    intro h
    have ih : ∀ (a0 : Nat) (a1 : Nat) (i2 : Int32) (M : zM), f_X0_complete_2 n a0 a1 i2 M = some r → V L X yX0_complete cX0_complete 3 (some FieldType.boolean) 3 M0 N Q M 2 [(0, .ref (zad L (a0))), (1, .ref (zad L (a1))), (2, .int (i2))] [] := fun a0 a1 i2 M h => ih0 h
    rw [f_X0_complete_2] at h
    refine V_iload_n dX0_complete_2 rfl 2 rfl ?_
    refine V_bipush (v := 25) dX0_complete_3 (by decide) ?_
    refine V_icmp_ge (tgt := 51) dX0_complete_5 (by decide) (fun c13 => ?_) (fun c13 => ?_)
    · replace h := (oi h).1 c13
      refine V_iconst (v := 0) dX0_complete_51 (by decide) ?_
      obtain rfl := Option.some.inj h
      exact V_zret (ty := .boolean) rfl rfl hq dX0_complete_52
    · replace h := (oi h).2 c13
      refine V_iload_n dX0_complete_8 rfl 2 rfl ?_
      refine V_aload_n dX0_complete_9 rfl 1 rfl ?_
      replace h := ob h
      obtain ⟨v1, e_v1, h⟩ := h
      refine V_alen e_v1 dX0_complete_10 ?_
      refine V_pc (pc' := 11) rfl ?_
      refine V_icmp_ge (tgt := 45) dX0_complete_11 (by decide) (fun c12 => ?_) (fun c12 => ?_)
      · replace h := (oi h).1 c12
        refine V_iinc (v := i2 + (1 : Int32)) (ls' := [(2, .int ((i2 + (1 : Int32)))), (0, .ref (zad L (a0))), (1, .ref (zad L (a1)))]) dX0_complete_45 2 rfl (by rfl) (by decide) rfl ?_
        refine V_goto (tgt := 2) dX0_complete_48 (by decide) ?_
        refine V_sub [1, 2, 0] rfl ?_
        exact ih _ _ _ _ h
      · replace h := (oi h).2 c12
        refine V_aload_n dX0_complete_14 rfl 1 rfl ?_
        refine V_iload_n dX0_complete_15 rfl 2 rfl ?_
        replace h := ob h
        obtain ⟨v2, e_v2, h⟩ := h
        refine V_iald e_v2 dX0_complete_16 ?_
        refine V_pc (pc' := 17) rfl ?_
        refine V_iconst (v := 2) dX0_complete_17 (by decide) ?_
        refine V_icmp_lt (tgt := 45) dX0_complete_18 (by decide) (fun c11 => ?_) (fun c11 => ?_)
        · replace h := (oi h).1 c11
          refine V_iinc (v := i2 + (1 : Int32)) (ls' := [(2, .int ((i2 + (1 : Int32)))), (0, .ref (zad L (a0))), (1, .ref (zad L (a1)))]) dX0_complete_45 2 rfl (by rfl) (by decide) rfl ?_
          refine V_goto (tgt := 2) dX0_complete_48 (by decide) ?_
          refine V_sub [1, 2, 0] rfl ?_
          exact ih _ _ _ _ h
        · replace h := (oi h).2 c11
          refine V_aload_n dX0_complete_21 rfl 0 rfl ?_
          refine V_aload_n dX0_complete_22 rfl 1 rfl ?_
          replace h := ox h
          obtain ⟨c4, h⟩ := h
          replace h := ob h
          obtain ⟨r3, e_r3, h⟩ := h
          refine V_callV_V (As := [.ref (zad L (a1))]) (rest := []) (c_X0_copy e_r3) zc_X0_copy rfl (by decide) rfl (by decide) (Or.inl c4) zm_X0_27 (Nat.le_of_ble_eq_true rfl) rfl dX0_complete_23 ?_
          refine V_pc (pc' := 26) rfl ?_
          refine V_aload_n dX0_complete_26 rfl 0 rfl ?_
          replace h := ob h
          obtain ⟨v5, e_v5, h⟩ := h
          refine V_getR zf_6_0 zl_X0_9 e_v5 dX0_complete_27 ?_
          refine V_pc (pc' := 30) rfl ?_
          refine V_iload_n dX0_complete_30 rfl 2 rfl ?_
          refine V_dup2 dX0_complete_31 rfl rfl ?_
          replace h := ob h
          obtain ⟨v6, e_v6, h⟩ := h
          refine V_iald e_v6 dX0_complete_32 ?_
          refine V_pc (pc' := 33) rfl ?_
          refine V_iconst (v := 2) dX0_complete_33 (by decide) ?_
          refine V_isub dX0_complete_34 ?_
          replace h := ob h
          obtain ⟨M7, e_M7, h⟩ := h
          refine V_iast e_M7 dX0_complete_35 ?_
          refine V_aload_n dX0_complete_36 rfl 0 rfl ?_
          replace h := ox h
          obtain ⟨c9, h⟩ := h
          replace h := ob h
          obtain ⟨r8, e_r8, h⟩ := h
          refine V_callV_I (As := []) (rest := []) (c_X0_restIsSets e_r8) zc_X0_restIsSets rfl (by decide) rfl (by decide) (Or.inl c9) zm_X0_31 (Nat.le_of_ble_eq_true rfl) rfl dX0_complete_37 ?_
          refine V_pc (pc' := 40) rfl ?_
          refine V_if_eq (tgt := 45) dX0_complete_40 (by decide) (fun c10 => ?_) (fun c10 => ?_)
          · replace h := (oi h).1 c10
            refine V_iinc (v := i2 + (1 : Int32)) (ls' := [(2, .int ((i2 + (1 : Int32)))), (0, .ref (zad L (a0))), (1, .ref (zad L (a1)))]) dX0_complete_45 2 rfl (by rfl) (by decide) rfl ?_
            refine V_goto (tgt := 2) dX0_complete_48 (by decide) ?_
            refine V_sub [1, 2, 0] rfl ?_
            exact ih _ _ _ _ h
          · replace h := (oi h).2 c10
            refine V_iconst (v := 1) dX0_complete_43 (by decide) ?_
            obtain rfl := Option.some.inj h
            exact V_zret (ty := .boolean) rfl rfl hq dX0_complete_44
def f_X0_complete_0 (a0 : Nat) (a1 : Nat) (M : zM) : Option (Int32 × zM) :=
  f_X0_complete_2 zN a0 a1 ((0 : Int32)) M
set_option maxRecDepth 20000 in
set_option maxHeartbeats 4000000 in
theorem s_X0_complete_0 {L : zL} {X : zX} {M0 : zM} {N : Nat × Nat} {Q : State → Prop} {r : Int32 × zM} (hq : vQ L X M0 N Q (some (.int r.1)) r.2) {a0 : Nat} {a1 : Nat} {M : zM} (h : f_X0_complete_0 a0 a1 M = some r) : V L X yX0_complete cX0_complete 3 (some FieldType.boolean) 3 M0 N Q M 0 [(0, .ref (zad L (a0))), (1, .ref (zad L (a1)))] [] := by
  unfold f_X0_complete_0 at h
  refine V_iconst (v := 0) dX0_complete_0 (by decide) ?_
  refine V_istore_n (ls' := [(2, .int ((0 : Int32))), (0, .ref (zad L (a0))), (1, .ref (zad L (a1)))]) dX0_complete_1 rfl (by decide) rfl ?_
  refine V_sub [1, 2, 0] rfl ?_
  exact s_X0_complete_2 hq h
def f_X0_complete (a0 : Nat) (a1 : Nat) (M : zM) : Option (Int32 × zM) := f_X0_complete_0 a0 a1 M
theorem c_X0_complete {L : zL} {l : Launch} {a0 : Nat} {a1 : Nat} {M : zM} {r : Int32 × zM} (h : f_X0_complete a0 a1 M = some r) : CP L l yX0_complete cX0_complete 3 (some FieldType.boolean) 3 M [.ref (zad L (a0)), .ref (zad L (a1))] (some (.int r.1)) r.2 :=
  CP.of ⟨by decide +kernel, by decide +kernel⟩ (Nat.le_of_ble_eq_true rfl) fun X Q hq => s_X0_complete_0 hq h
/-! java/lang/Math.max(II)I -/
theorem dJ9_max_7cf53_0 : decode cJ9_max_7cf53 0 = .ok (.iload_n 0, 1) := by decide +kernel
theorem dJ9_max_7cf53_1 : decode cJ9_max_7cf53 1 = .ok (.iload_n 1, 1) := by decide +kernel
theorem dJ9_max_7cf53_2 : decode cJ9_max_7cf53 2 = .ok (.if_icmp .lt 7, 3) := by decide +kernel
theorem dJ9_max_7cf53_5 : decode cJ9_max_7cf53 5 = .ok (.iload_n 0, 1) := by decide +kernel
theorem dJ9_max_7cf53_6 : decode cJ9_max_7cf53 6 = .ok (.goto 4, 3) := by decide +kernel
theorem dJ9_max_7cf53_9 : decode cJ9_max_7cf53 9 = .ok (.iload_n 1, 1) := by decide +kernel
theorem dJ9_max_7cf53_10 : decode cJ9_max_7cf53 10 = .ok (.ireturn, 1) := by decide +kernel
def f_J9_max_7cf53_0 (i0 : Int32) (i1 : Int32) (M : zM) : Option (Int32 × zM) :=
  if i0 < i1 then
  some (i1, M)
  else
  some (i0, M)
set_option maxRecDepth 20000 in
set_option maxHeartbeats 4000000 in
theorem s_J9_max_7cf53_0 {L : zL} {X : zX} {M0 : zM} {N : Nat × Nat} {Q : State → Prop} {r : Int32 × zM} (hq : vQ L X M0 N Q (some (.int r.1)) r.2) {i0 : Int32} {i1 : Int32} {M : zM} (h : f_J9_max_7cf53_0 i0 i1 M = some r) : V L X yJ9_max_7cf53 cJ9_max_7cf53 2 (some FieldType.int) 1 M0 N Q M 0 [(0, .int (i0)), (1, .int (i1))] [] := by
  unfold f_J9_max_7cf53_0 at h
  refine V_iload_n dJ9_max_7cf53_0 rfl 0 rfl ?_
  refine V_iload_n dJ9_max_7cf53_1 rfl 1 rfl ?_
  refine V_icmp_lt (tgt := 9) dJ9_max_7cf53_2 (by decide) (fun c1 => ?_) (fun c1 => ?_)
  · replace h := (oi h).1 c1
    refine V_iload_n dJ9_max_7cf53_9 rfl 1 rfl ?_
    obtain rfl := Option.some.inj h
    exact V_iret rfl hq dJ9_max_7cf53_10
  · replace h := (oi h).2 c1
    refine V_iload_n dJ9_max_7cf53_5 rfl 0 rfl ?_
    refine V_goto (tgt := 10) dJ9_max_7cf53_6 (by decide) ?_
    obtain rfl := Option.some.inj h
    exact V_iret rfl hq dJ9_max_7cf53_10
def f_J9_max_7cf53 (i0 : Int32) (i1 : Int32) (M : zM) : Option (Int32 × zM) := f_J9_max_7cf53_0 i0 i1 M
theorem c_J9_max_7cf53 {L : zL} {l : Launch} {i0 : Int32} {i1 : Int32} {M : zM} {r : Int32 × zM} (h : f_J9_max_7cf53 i0 i1 M = some r) : CP L l yJ9_max_7cf53 cJ9_max_7cf53 2 (some FieldType.int) 1 M [.int (i0), .int (i1)] (some (.int r.1)) r.2 :=
  CP.of ⟨by decide +kernel, by decide +kernel⟩ (Nat.le_of_ble_eq_true rfl) fun X Q hq => s_J9_max_7cf53_0 hq h
/-! java/lang/Math.min(II)I -/
theorem dJ9_min_7cf53_0 : decode cJ9_min_7cf53 0 = .ok (.iload_n 0, 1) := by decide +kernel
theorem dJ9_min_7cf53_1 : decode cJ9_min_7cf53 1 = .ok (.iload_n 1, 1) := by decide +kernel
theorem dJ9_min_7cf53_2 : decode cJ9_min_7cf53 2 = .ok (.if_icmp .gt 7, 3) := by decide +kernel
theorem dJ9_min_7cf53_5 : decode cJ9_min_7cf53 5 = .ok (.iload_n 0, 1) := by decide +kernel
theorem dJ9_min_7cf53_6 : decode cJ9_min_7cf53 6 = .ok (.goto 4, 3) := by decide +kernel
theorem dJ9_min_7cf53_9 : decode cJ9_min_7cf53 9 = .ok (.iload_n 1, 1) := by decide +kernel
theorem dJ9_min_7cf53_10 : decode cJ9_min_7cf53 10 = .ok (.ireturn, 1) := by decide +kernel
def f_J9_min_7cf53_0 (i0 : Int32) (i1 : Int32) (M : zM) : Option (Int32 × zM) :=
  if i1 < i0 then
  some (i1, M)
  else
  some (i0, M)
set_option maxRecDepth 20000 in
set_option maxHeartbeats 4000000 in
theorem s_J9_min_7cf53_0 {L : zL} {X : zX} {M0 : zM} {N : Nat × Nat} {Q : State → Prop} {r : Int32 × zM} (hq : vQ L X M0 N Q (some (.int r.1)) r.2) {i0 : Int32} {i1 : Int32} {M : zM} (h : f_J9_min_7cf53_0 i0 i1 M = some r) : V L X yJ9_min_7cf53 cJ9_min_7cf53 2 (some FieldType.int) 1 M0 N Q M 0 [(0, .int (i0)), (1, .int (i1))] [] := by
  unfold f_J9_min_7cf53_0 at h
  refine V_iload_n dJ9_min_7cf53_0 rfl 0 rfl ?_
  refine V_iload_n dJ9_min_7cf53_1 rfl 1 rfl ?_
  refine V_icmp_gt (tgt := 9) dJ9_min_7cf53_2 (by decide) (fun c1 => ?_) (fun c1 => ?_)
  · replace h := (oi h).1 c1
    refine V_iload_n dJ9_min_7cf53_9 rfl 1 rfl ?_
    obtain rfl := Option.some.inj h
    exact V_iret rfl hq dJ9_min_7cf53_10
  · replace h := (oi h).2 c1
    refine V_iload_n dJ9_min_7cf53_5 rfl 0 rfl ?_
    refine V_goto (tgt := 10) dJ9_min_7cf53_6 (by decide) ?_
    obtain rfl := Option.some.inj h
    exact V_iret rfl hq dJ9_min_7cf53_10
def f_J9_min_7cf53 (i0 : Int32) (i1 : Int32) (M : zM) : Option (Int32 × zM) := f_J9_min_7cf53_0 i0 i1 M
theorem c_J9_min_7cf53 {L : zL} {l : Launch} {i0 : Int32} {i1 : Int32} {M : zM} {r : Int32 × zM} (h : f_J9_min_7cf53 i0 i1 M = some r) : CP L l yJ9_min_7cf53 cJ9_min_7cf53 2 (some FieldType.int) 1 M [.int (i0), .int (i1)] (some (.int r.1)) r.2 :=
  CP.of ⟨by decide +kernel, by decide +kernel⟩ (Nat.le_of_ble_eq_true rfl) fun X Q hq => s_J9_min_7cf53_0 hq h
/-! Windsparlour$Parting.joinParts(I)V -/
theorem dX0_joinParts_0 : decode cX0_joinParts 0 = .ok (.iconst 0, 1) := by decide +kernel
theorem dX0_joinParts_1 : decode cX0_joinParts 1 = .ok (.istore_n 2, 1) := by decide +kernel
theorem dX0_joinParts_2 : decode cX0_joinParts 2 = .ok (.iconst 0, 1) := by decide +kernel
theorem dX0_joinParts_3 : decode cX0_joinParts 3 = .ok (.istore_n 3, 1) := by decide +kernel
theorem dX0_joinParts_4 : decode cX0_joinParts 4 = .ok (.iconst 0, 1) := by decide +kernel
theorem dX0_joinParts_5 : decode cX0_joinParts 5 = .ok (.istore 4, 2) := by decide +kernel
theorem dX0_joinParts_7 : decode cX0_joinParts 7 = .ok (.iload 4, 2) := by decide +kernel
theorem dX0_joinParts_9 : decode cX0_joinParts 9 = .ok (.iload_n 1, 1) := by decide +kernel
theorem dX0_joinParts_10 : decode cX0_joinParts 10 = .ok (.if_icmp .gt 80, 3) := by decide +kernel
theorem dX0_joinParts_13 : decode cX0_joinParts 13 = .ok (.iload_n 1, 1) := by decide +kernel
theorem dX0_joinParts_14 : decode cX0_joinParts 14 = .ok (.iconst 3, 1) := by decide +kernel
theorem dX0_joinParts_15 : decode cX0_joinParts 15 = .ok (.if_icmp .gt 75, 3) := by decide +kernel
theorem dX0_joinParts_18 : decode cX0_joinParts 18 = .ok (.iload_n 2, 1) := by decide +kernel
theorem dX0_joinParts_19 : decode cX0_joinParts 19 = .ok (.aload_n 0, 1) := by decide +kernel
theorem dX0_joinParts_20 : decode cX0_joinParts 20 = .ok (.getfield 15, 3) := by decide +kernel
theorem dX0_joinParts_23 : decode cX0_joinParts 23 = .ok (.iload 4, 2) := by decide +kernel
theorem dX0_joinParts_25 : decode cX0_joinParts 25 = .ok (.iaload, 1) := by decide +kernel
theorem dX0_joinParts_26 : decode cX0_joinParts 26 = .ok (.aload_n 0, 1) := by decide +kernel
theorem dX0_joinParts_27 : decode cX0_joinParts 27 = .ok (.getfield 21, 3) := by decide +kernel
theorem dX0_joinParts_30 : decode cX0_joinParts 30 = .ok (.iload_n 1, 1) := by decide +kernel
theorem dX0_joinParts_31 : decode cX0_joinParts 31 = .ok (.iload 4, 2) := by decide +kernel
theorem dX0_joinParts_33 : decode cX0_joinParts 33 = .ok (.isub, 1) := by decide +kernel
theorem dX0_joinParts_34 : decode cX0_joinParts 34 = .ok (.iaload, 1) := by decide +kernel
theorem dX0_joinParts_35 : decode cX0_joinParts 35 = .ok (.iadd, 1) := by decide +kernel
theorem dX0_joinParts_36 : decode cX0_joinParts 36 = .ok (.invokestatic 47, 3) := by decide +kernel
theorem dX0_joinParts_39 : decode cX0_joinParts 39 = .ok (.istore_n 2, 1) := by decide +kernel
theorem dX0_joinParts_40 : decode cX0_joinParts 40 = .ok (.iload_n 3, 1) := by decide +kernel
theorem dX0_joinParts_41 : decode cX0_joinParts 41 = .ok (.aload_n 0, 1) := by decide +kernel
theorem dX0_joinParts_42 : decode cX0_joinParts 42 = .ok (.getfield 18, 3) := by decide +kernel
theorem dX0_joinParts_45 : decode cX0_joinParts 45 = .ok (.iload 4, 2) := by decide +kernel
theorem dX0_joinParts_47 : decode cX0_joinParts 47 = .ok (.iaload, 1) := by decide +kernel
theorem dX0_joinParts_48 : decode cX0_joinParts 48 = .ok (.aload_n 0, 1) := by decide +kernel
theorem dX0_joinParts_49 : decode cX0_joinParts 49 = .ok (.getfield 21, 3) := by decide +kernel
theorem dX0_joinParts_52 : decode cX0_joinParts 52 = .ok (.iload_n 1, 1) := by decide +kernel
theorem dX0_joinParts_53 : decode cX0_joinParts 53 = .ok (.iload 4, 2) := by decide +kernel
theorem dX0_joinParts_55 : decode cX0_joinParts 55 = .ok (.isub, 1) := by decide +kernel
theorem dX0_joinParts_56 : decode cX0_joinParts 56 = .ok (.iaload, 1) := by decide +kernel
theorem dX0_joinParts_57 : decode cX0_joinParts 57 = .ok (.iadd, 1) := by decide +kernel
theorem dX0_joinParts_58 : decode cX0_joinParts 58 = .ok (.invokestatic 47, 3) := by decide +kernel
theorem dX0_joinParts_61 : decode cX0_joinParts 61 = .ok (.istore_n 3, 1) := by decide +kernel
theorem dX0_joinParts_62 : decode cX0_joinParts 62 = .ok (.iload_n 3, 1) := by decide +kernel
theorem dX0_joinParts_63 : decode cX0_joinParts 63 = .ok (.aload_n 0, 1) := by decide +kernel
theorem dX0_joinParts_64 : decode cX0_joinParts 64 = .ok (.getfield 15, 3) := by decide +kernel
theorem dX0_joinParts_67 : decode cX0_joinParts 67 = .ok (.iload 4, 2) := by decide +kernel
theorem dX0_joinParts_69 : decode cX0_joinParts 69 = .ok (.iaload, 1) := by decide +kernel
theorem dX0_joinParts_70 : decode cX0_joinParts 70 = .ok (.aload_n 0, 1) := by decide +kernel
theorem dX0_joinParts_71 : decode cX0_joinParts 71 = .ok (.getfield 24, 3) := by decide +kernel
theorem dX0_joinParts_74 : decode cX0_joinParts 74 = .ok (.iload_n 1, 1) := by decide +kernel
theorem dX0_joinParts_75 : decode cX0_joinParts 75 = .ok (.iload 4, 2) := by decide +kernel
theorem dX0_joinParts_77 : decode cX0_joinParts 77 = .ok (.isub, 1) := by decide +kernel
theorem dX0_joinParts_78 : decode cX0_joinParts 78 = .ok (.iaload, 1) := by decide +kernel
theorem dX0_joinParts_79 : decode cX0_joinParts 79 = .ok (.iadd, 1) := by decide +kernel
theorem dX0_joinParts_80 : decode cX0_joinParts 80 = .ok (.invokestatic 47, 3) := by decide +kernel
theorem dX0_joinParts_83 : decode cX0_joinParts 83 = .ok (.istore_n 3, 1) := by decide +kernel
theorem dX0_joinParts_84 : decode cX0_joinParts 84 = .ok (.iinc 4 1, 3) := by decide +kernel
theorem dX0_joinParts_87 : decode cX0_joinParts 87 = .ok (.goto (-80), 3) := by decide +kernel
theorem dX0_joinParts_90 : decode cX0_joinParts 90 = .ok (.aload_n 0, 1) := by decide +kernel
theorem dX0_joinParts_91 : decode cX0_joinParts 91 = .ok (.getfield 15, 3) := by decide +kernel
theorem dX0_joinParts_94 : decode cX0_joinParts 94 = .ok (.iload_n 1, 1) := by decide +kernel
theorem dX0_joinParts_95 : decode cX0_joinParts 95 = .ok (.iload_n 2, 1) := by decide +kernel
theorem dX0_joinParts_96 : decode cX0_joinParts 96 = .ok (.iastore, 1) := by decide +kernel
theorem dX0_joinParts_97 : decode cX0_joinParts 97 = .ok (.aload_n 0, 1) := by decide +kernel
theorem dX0_joinParts_98 : decode cX0_joinParts 98 = .ok (.getfield 18, 3) := by decide +kernel
theorem dX0_joinParts_101 : decode cX0_joinParts 101 = .ok (.iload_n 1, 1) := by decide +kernel
theorem dX0_joinParts_102 : decode cX0_joinParts 102 = .ok (.iload_n 3, 1) := by decide +kernel
theorem dX0_joinParts_103 : decode cX0_joinParts 103 = .ok (.iastore, 1) := by decide +kernel
theorem dX0_joinParts_104 : decode cX0_joinParts 104 = .ok (.return_, 1) := by decide +kernel
def f_X0_joinParts_90 (a0 : Nat) (i1 : Int32) (i2 : Int32) (i3 : Int32) (M : zM) : Option (Unit × zM) :=
  (gR 6 1 M a0).bind fun v1 =>
  (tA M v1 i1 i2).bind fun M2 =>
  (gR 6 2 M2 a0).bind fun v3 =>
  (tA M2 v3 i1 i3).bind fun M4 =>
  some ((), M4)
set_option maxRecDepth 20000 in
set_option maxHeartbeats 4000000 in
theorem s_X0_joinParts_90 {L : zL} {X : zX} {M0 : zM} {N : Nat × Nat} {Q : State → Prop} {r : Unit × zM} (hq : vQ L X M0 N Q none r.2) {a0 : Nat} {i1 : Int32} {i2 : Int32} {i3 : Int32} {M : zM} (h : f_X0_joinParts_90 a0 i1 i2 i3 M = some r) : V L X yX0_joinParts cX0_joinParts 5 (none : Option FieldType) 2 M0 N Q M 90 [(0, .ref (zad L (a0))), (1, .int (i1)), (2, .int (i2)), (3, .int (i3))] [] := by
  unfold f_X0_joinParts_90 at h
  refine V_aload_n dX0_joinParts_90 rfl 0 rfl ?_
  replace h := ob h
  obtain ⟨v1, e_v1, h⟩ := h
  refine V_getR zf_6_1 zl_X0_15 e_v1 dX0_joinParts_91 ?_
  refine V_pc (pc' := 94) rfl ?_
  refine V_iload_n dX0_joinParts_94 rfl 1 rfl ?_
  refine V_iload_n dX0_joinParts_95 rfl 2 rfl ?_
  replace h := ob h
  obtain ⟨M2, e_M2, h⟩ := h
  refine V_iast e_M2 dX0_joinParts_96 ?_
  refine V_aload_n dX0_joinParts_97 rfl 0 rfl ?_
  replace h := ob h
  obtain ⟨v3, e_v3, h⟩ := h
  refine V_getR zf_6_2 zl_X0_18 e_v3 dX0_joinParts_98 ?_
  refine V_pc (pc' := 101) rfl ?_
  refine V_iload_n dX0_joinParts_101 rfl 1 rfl ?_
  refine V_iload_n dX0_joinParts_102 rfl 3 rfl ?_
  replace h := ob h
  obtain ⟨M4, e_M4, h⟩ := h
  refine V_iast e_M4 dX0_joinParts_103 ?_
  obtain rfl := Option.some.inj h
  exact V_vret rfl hq dX0_joinParts_104
def f_X0_joinParts_7 (n : Nat) (a0 : Nat) (i1 : Int32) (i2 : Int32) (i3 : Int32) (i4 : Int32) (M : zM) : Option (Unit × zM) := match n with
  | 0 => none
  | n + 1 =>
    if i1 < i4 then
    f_X0_joinParts_90 a0 i1 i2 i3 M
    else
    if ((3 : Int32)) < i1 then
    f_X0_joinParts_90 a0 i1 i2 i3 M
    else
    (gR 6 1 M a0).bind fun v1 =>
    (lA 0 M v1 i4).bind fun v2 =>
    (gR 6 3 M a0).bind fun v3 =>
    (lA 0 M v3 ((i1 - i4))).bind fun v4 =>
    (f_J9_max_7cf53 i2 ((v2 + v4)) M).bind fun r5 =>
    (gR 6 2 r5.2 a0).bind fun v6 =>
    (lA 0 r5.2 v6 i4).bind fun v7 =>
    (gR 6 3 r5.2 a0).bind fun v8 =>
    (lA 0 r5.2 v8 ((i1 - i4))).bind fun v9 =>
    (f_J9_max_7cf53 i3 ((v7 + v9)) r5.2).bind fun r10 =>
    (gR 6 1 r10.2 a0).bind fun v11 =>
    (lA 0 r10.2 v11 i4).bind fun v12 =>
    (gR 6 4 r10.2 a0).bind fun v13 =>
    (lA 0 r10.2 v13 ((i1 - i4))).bind fun v14 =>
    (f_J9_max_7cf53 r10.1 ((v12 + v14)) r10.2).bind fun r15 =>
    f_X0_joinParts_7 n a0 i1 r5.1 r15.1 ((i4 + (1 : Int32))) r15.2
set_option maxRecDepth 20000 in
set_option maxHeartbeats 4000000 in
theorem s_X0_joinParts_7 {L : zL} {X : zX} {M0 : zM} {N : Nat × Nat} {Q : State → Prop} {r : Unit × zM} (hq : vQ L X M0 N Q none r.2) {n : Nat} {a0 : Nat} {i1 : Int32} {i2 : Int32} {i3 : Int32} {i4 : Int32} {M : zM} : f_X0_joinParts_7 n a0 i1 i2 i3 i4 M = some r → V L X yX0_joinParts cX0_joinParts 5 (none : Option FieldType) 2 M0 N Q M 7 [(0, .ref (zad L (a0))), (1, .int (i1)), (2, .int (i2)), (3, .int (i3)), (4, .int (i4))] [] := by
  induction n generalizing a0 i1 i2 i3 i4 M with
  | zero =>
    intro h
    rw [f_X0_joinParts_7] at h
    cases h
  | succ n ih0 =>
    intro h
    have ih : ∀ (a0 : Nat) (i1 : Int32) (i2 : Int32) (i3 : Int32) (i4 : Int32) (M : zM), f_X0_joinParts_7 n a0 i1 i2 i3 i4 M = some r → V L X yX0_joinParts cX0_joinParts 5 (none : Option FieldType) 2 M0 N Q M 7 [(0, .ref (zad L (a0))), (1, .int (i1)), (2, .int (i2)), (3, .int (i3)), (4, .int (i4))] [] := fun a0 i1 i2 i3 i4 M h => ih0 h
    rw [f_X0_joinParts_7] at h
    refine V_iload dX0_joinParts_7 4 rfl ?_
    refine V_iload_n dX0_joinParts_9 rfl 1 rfl ?_
    refine V_icmp_gt (tgt := 90) dX0_joinParts_10 (by decide) (fun c17 => ?_) (fun c17 => ?_)
    · replace h := (oi h).1 c17
      refine V_sub [0, 1, 2, 3] rfl ?_
      exact s_X0_joinParts_90 hq h
    · replace h := (oi h).2 c17
      refine V_iload_n dX0_joinParts_13 rfl 1 rfl ?_
      refine V_iconst (v := 3) dX0_joinParts_14 (by decide) ?_
      refine V_icmp_gt (tgt := 90) dX0_joinParts_15 (by decide) (fun c16 => ?_) (fun c16 => ?_)
      · replace h := (oi h).1 c16
        refine V_sub [0, 1, 2, 3] rfl ?_
        exact s_X0_joinParts_90 hq h
      · replace h := (oi h).2 c16
        refine V_iload_n dX0_joinParts_18 rfl 2 rfl ?_
        refine V_aload_n dX0_joinParts_19 rfl 0 rfl ?_
        replace h := ob h
        obtain ⟨v1, e_v1, h⟩ := h
        refine V_getR zf_6_1 zl_X0_15 e_v1 dX0_joinParts_20 ?_
        refine V_pc (pc' := 23) rfl ?_
        refine V_iload dX0_joinParts_23 4 rfl ?_
        replace h := ob h
        obtain ⟨v2, e_v2, h⟩ := h
        refine V_iald e_v2 dX0_joinParts_25 ?_
        refine V_pc (pc' := 26) rfl ?_
        refine V_aload_n dX0_joinParts_26 rfl 0 rfl ?_
        replace h := ob h
        obtain ⟨v3, e_v3, h⟩ := h
        refine V_getR zf_6_3 zl_X0_21 e_v3 dX0_joinParts_27 ?_
        refine V_pc (pc' := 30) rfl ?_
        refine V_iload_n dX0_joinParts_30 rfl 1 rfl ?_
        refine V_iload dX0_joinParts_31 4 rfl ?_
        refine V_isub dX0_joinParts_33 ?_
        replace h := ob h
        obtain ⟨v4, e_v4, h⟩ := h
        refine V_iald e_v4 dX0_joinParts_34 ?_
        refine V_pc (pc' := 35) rfl ?_
        refine V_iadd dX0_joinParts_35 ?_
        replace h := ob h
        obtain ⟨r5, e_r5, h⟩ := h
        refine V_callS_I (As := [.int (i2), .int ((v2 + v4))]) (rest := []) (c_J9_max_7cf53 e_r5) zc_J9_max_7cf53 rfl (by decide) zm_X0_47 (Nat.le_of_ble_eq_true rfl) rfl dX0_joinParts_36 ?_
        refine V_pc (pc' := 39) rfl ?_
        refine V_istore_n (ls' := [(2, .int (r5.1)), (0, .ref (zad L (a0))), (1, .int (i1)), (3, .int (i3)), (4, .int (i4))]) dX0_joinParts_39 rfl (by decide) rfl ?_
        refine V_iload_n dX0_joinParts_40 rfl 3 rfl ?_
        refine V_aload_n dX0_joinParts_41 rfl 1 rfl ?_
        replace h := ob h
        obtain ⟨v6, e_v6, h⟩ := h
        refine V_getR zf_6_2 zl_X0_18 e_v6 dX0_joinParts_42 ?_
        refine V_pc (pc' := 45) rfl ?_
        refine V_iload dX0_joinParts_45 4 rfl ?_
        replace h := ob h
        obtain ⟨v7, e_v7, h⟩ := h
        refine V_iald e_v7 dX0_joinParts_47 ?_
        refine V_pc (pc' := 48) rfl ?_
        refine V_aload_n dX0_joinParts_48 rfl 1 rfl ?_
        replace h := ob h
        obtain ⟨v8, e_v8, h⟩ := h
        refine V_getR zf_6_3 zl_X0_21 e_v8 dX0_joinParts_49 ?_
        refine V_pc (pc' := 52) rfl ?_
        refine V_iload_n dX0_joinParts_52 rfl 2 rfl ?_
        refine V_iload dX0_joinParts_53 4 rfl ?_
        refine V_isub dX0_joinParts_55 ?_
        replace h := ob h
        obtain ⟨v9, e_v9, h⟩ := h
        refine V_iald e_v9 dX0_joinParts_56 ?_
        refine V_pc (pc' := 57) rfl ?_
        refine V_iadd dX0_joinParts_57 ?_
        replace h := ob h
        obtain ⟨r10, e_r10, h⟩ := h
        refine V_callS_I (As := [.int (i3), .int ((v7 + v9))]) (rest := []) (c_J9_max_7cf53 e_r10) zc_J9_max_7cf53 rfl (by decide) zm_X0_47 (Nat.le_of_ble_eq_true rfl) rfl dX0_joinParts_58 ?_
        refine V_pc (pc' := 61) rfl ?_
        refine V_istore_n (ls' := [(3, .int (r10.1)), (2, .int (r5.1)), (0, .ref (zad L (a0))), (1, .int (i1)), (4, .int (i4))]) dX0_joinParts_61 rfl (by decide) rfl ?_
        refine V_iload_n dX0_joinParts_62 rfl 0 rfl ?_
        refine V_aload_n dX0_joinParts_63 rfl 2 rfl ?_
        replace h := ob h
        obtain ⟨v11, e_v11, h⟩ := h
        refine V_getR zf_6_1 zl_X0_15 e_v11 dX0_joinParts_64 ?_
        refine V_pc (pc' := 67) rfl ?_
        refine V_iload dX0_joinParts_67 4 rfl ?_
        replace h := ob h
        obtain ⟨v12, e_v12, h⟩ := h
        refine V_iald e_v12 dX0_joinParts_69 ?_
        refine V_pc (pc' := 70) rfl ?_
        refine V_aload_n dX0_joinParts_70 rfl 2 rfl ?_
        replace h := ob h
        obtain ⟨v13, e_v13, h⟩ := h
        refine V_getR zf_6_4 zl_X0_24 e_v13 dX0_joinParts_71 ?_
        refine V_pc (pc' := 74) rfl ?_
        refine V_iload_n dX0_joinParts_74 rfl 3 rfl ?_
        refine V_iload dX0_joinParts_75 4 rfl ?_
        refine V_isub dX0_joinParts_77 ?_
        replace h := ob h
        obtain ⟨v14, e_v14, h⟩ := h
        refine V_iald e_v14 dX0_joinParts_78 ?_
        refine V_pc (pc' := 79) rfl ?_
        refine V_iadd dX0_joinParts_79 ?_
        replace h := ob h
        obtain ⟨r15, e_r15, h⟩ := h
        refine V_callS_I (As := [.int (r10.1), .int ((v12 + v14))]) (rest := []) (c_J9_max_7cf53 e_r15) zc_J9_max_7cf53 rfl (by decide) zm_X0_47 (Nat.le_of_ble_eq_true rfl) rfl dX0_joinParts_80 ?_
        refine V_pc (pc' := 83) rfl ?_
        refine V_istore_n (ls' := [(3, .int (r15.1)), (2, .int (r5.1)), (0, .ref (zad L (a0))), (1, .int (i1)), (4, .int (i4))]) dX0_joinParts_83 rfl (by decide) rfl ?_
        refine V_iinc (v := i4 + (1 : Int32)) (ls' := [(4, .int ((i4 + (1 : Int32)))), (3, .int (r15.1)), (2, .int (r5.1)), (0, .ref (zad L (a0))), (1, .int (i1))]) dX0_joinParts_84 4 rfl (by rfl) (by decide) rfl ?_
        refine V_goto (tgt := 7) dX0_joinParts_87 (by decide) ?_
        refine V_sub [3, 4, 2, 1, 0] rfl ?_
        exact ih _ _ _ _ _ _ h
def f_X0_joinParts_0 (a0 : Nat) (i1 : Int32) (M : zM) : Option (Unit × zM) :=
  f_X0_joinParts_7 zN a0 i1 ((0 : Int32)) ((0 : Int32)) ((0 : Int32)) M
set_option maxRecDepth 20000 in
set_option maxHeartbeats 4000000 in
theorem s_X0_joinParts_0 {L : zL} {X : zX} {M0 : zM} {N : Nat × Nat} {Q : State → Prop} {r : Unit × zM} (hq : vQ L X M0 N Q none r.2) {a0 : Nat} {i1 : Int32} {M : zM} (h : f_X0_joinParts_0 a0 i1 M = some r) : V L X yX0_joinParts cX0_joinParts 5 (none : Option FieldType) 2 M0 N Q M 0 [(0, .ref (zad L (a0))), (1, .int (i1))] [] := by
  unfold f_X0_joinParts_0 at h
  refine V_iconst (v := 0) dX0_joinParts_0 (by decide) ?_
  refine V_istore_n (ls' := [(2, .int ((0 : Int32))), (0, .ref (zad L (a0))), (1, .int (i1))]) dX0_joinParts_1 rfl (by decide) rfl ?_
  refine V_iconst (v := 0) dX0_joinParts_2 (by decide) ?_
  refine V_istore_n (ls' := [(3, .int ((0 : Int32))), (2, .int ((0 : Int32))), (0, .ref (zad L (a0))), (1, .int (i1))]) dX0_joinParts_3 rfl (by decide) rfl ?_
  refine V_iconst (v := 0) dX0_joinParts_4 (by decide) ?_
  refine V_istore (ls' := [(4, .int ((0 : Int32))), (3, .int ((0 : Int32))), (2, .int ((0 : Int32))), (0, .ref (zad L (a0))), (1, .int (i1))]) dX0_joinParts_5 (by decide) rfl ?_
  refine V_sub [3, 4, 2, 1, 0] rfl ?_
  exact s_X0_joinParts_7 hq h
def f_X0_joinParts (a0 : Nat) (i1 : Int32) (M : zM) : Option (Unit × zM) := f_X0_joinParts_0 a0 i1 M
theorem c_X0_joinParts {L : zL} {l : Launch} {a0 : Nat} {i1 : Int32} {M : zM} {r : Unit × zM} (h : f_X0_joinParts a0 i1 M = some r) : CP L l yX0_joinParts cX0_joinParts 5 (none : Option FieldType) 2 M [.ref (zad L (a0)), .int (i1)] none r.2 :=
  CP.of ⟨by decide +kernel, by decide +kernel⟩ (Nat.le_of_ble_eq_true rfl) fun X Q hq => s_X0_joinParts_0 hq h
