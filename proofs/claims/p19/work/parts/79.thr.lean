/-! ===== FRAMES: a text holds no hand, no wall ===== -/
def FG (M0 M : zM) : Prop := ∀ q a v, (q = 386 ∨ q = 418) → mR M q a = some v → mR M0 q a = some v
section FGR
variable {M0 M : zM} {a c k t : Nat}
theorem fg_pI {v : Int32} (h : FG M0 M) (hc : hk c = true) (M' : zM) (e : pI c k M a v = some M') : FG M0 M' := by
  obtain ⟨q, e⟩ := ox e
  cases e
  exact h
theorem fg_pZ {v : Int32} (h : FG M0 M) (hc : hk c = true) (M' : zM) (e : pZ c k M a v = some M') : FG M0 M' := by
  obtain ⟨q, e⟩ := ox e
  cases e
  exact h
theorem fg_pR {v : Nat} (h : FG M0 M) (hc : hk c = true) (M' : zM) (e : pR c k M a v = some M') (hk : 386 ≠ 32 * c + k ∧ 418 ≠ 32 * c + k := by decide) : FG M0 M' := by
  obtain ⟨-, e⟩ := ox e
  cases e
  intro q b w hq hw
  have hw' : (if q = 32 * c + k ∧ b = a then some v else mR M q b) = some w := hw
  rw [if_neg (fun z => by rcases hq with y | y <;> omega)] at hw'
  exact h q b w hq hw'
theorem fg_tB {i v : Int32} (h : FG M0 M) (M' : zM) (e : tB M a i v = some M') : FG M0 M' := by
  obtain ⟨q, e⟩ := ox e
  cases e
  exact h
theorem fg_yI {b : Nat} {sp dp n : Int32} (h : FG M0 M) (M' : zM) (e : yI 1 M a sp b dp n = some M') : FG M0 M' := by
  obtain ⟨q, e⟩ := ox0 e
  cases e
  exact h
theorem fg_nO (h : FG M0 M) {N : Nat} : FG M0 (nO M c N) := fun q b w hq hw => by
  have hw' : (if b = mX M then none else mR M q b) = some w := hw
  by_cases y : b = mX M
  · rw [if_pos y] at hw'
    cases hw'
  · rw [if_neg y] at hw'
    exact h q b w hq hw'
theorem fg_aA {n : Int32} (h : FG M0 M) : KF (FG M0) (aA t M n) := fun r e => by
  obtain ⟨-, e⟩ := ox e
  cases e
  exact h
theorem fg_aC (h : FG M0 M) : KF (FG M0) (aC M a) := fun r e => by
  obtain ⟨-, e⟩ := ox0 e
  cases e
  exact h
theorem fg_nE (h : FG M0 M) : FG M0 (nE M) := h
end FGR
/-! ===== FRAMES of its texts ===== -/
theorem kg_X1_count_0 {M0 : zM} {a0 : Nat} {i1 : Int32} {M : zM} (hM : FG M0 M) : KF (FG M0) (f_X1_count_0 a0 i1 M) := by
  unfold f_X1_count_0
  refine KF.i ?_ ?_
  · exact KF.s hM
  · refine KF.i ?_ ?_
    · exact KF.s hM
    · refine KF.b fun v1 => ?_
      refine KF.b fun v2 => ?_
      exact KF.s hM
theorem kg_X1_count {M0 : zM} {a0 : Nat} {i1 : Int32} {M : zM} (hM : FG M0 M) : KF (FG M0) (f_X1_count a0 i1 M) := by
  unfold f_X1_count
  exact (kg_X1_count_0 hM)
theorem kg_J9_max_7cf53_0 {M0 : zM} {i0 : Int32} {i1 : Int32} {M : zM} (hM : FG M0 M) : KF (FG M0) (f_J9_max_7cf53_0 i0 i1 M) := by
  unfold f_J9_max_7cf53_0
  refine KF.i ?_ ?_
  · exact KF.s hM
  · exact KF.s hM
theorem kg_J9_max_7cf53 {M0 : zM} {i0 : Int32} {i1 : Int32} {M : zM} (hM : FG M0 M) : KF (FG M0) (f_J9_max_7cf53 i0 i1 M) := by
  unfold f_J9_max_7cf53
  exact (kg_J9_max_7cf53_0 hM)
theorem kg_J9_min_7cf53_0 {M0 : zM} {i0 : Int32} {i1 : Int32} {M : zM} (hM : FG M0 M) : KF (FG M0) (f_J9_min_7cf53_0 i0 i1 M) := by
  unfold f_J9_min_7cf53_0
  refine KF.i ?_ ?_
  · exact KF.s hM
  · exact KF.s hM
theorem kg_J9_min_7cf53 {M0 : zM} {i0 : Int32} {i1 : Int32} {M : zM} (hM : FG M0 M) : KF (FG M0) (f_J9_min_7cf53 i0 i1 M) := by
  unfold f_J9_min_7cf53
  exact (kg_J9_min_7cf53_0 hM)
theorem kg_X3_requirePlayer_9 {M0 : zM} {M : zM} (hM : FG M0 M) : KF (FG M0) (f_X3_requirePlayer_9 M) := by
  unfold f_X3_requirePlayer_9
  exact KF.s (fg_nE hM)
theorem kg_X3_requirePlayer_0 {M0 : zM} {i0 : Int32} {M : zM} (hM : FG M0 M) : KF (FG M0) (f_X3_requirePlayer_0 i0 M) := by
  unfold f_X3_requirePlayer_0
  refine KF.i ?_ ?_
  · exact (kg_X3_requirePlayer_9 hM)
  · refine KF.i ?_ ?_
    · exact KF.s hM
    · exact (kg_X3_requirePlayer_9 hM)
theorem kg_X3_requirePlayer {M0 : zM} {i0 : Int32} {M : zM} (hM : FG M0 M) : KF (FG M0) (f_X3_requirePlayer i0 M) := by
  unfold f_X3_requirePlayer
  exact (kg_X3_requirePlayer_0 hM)
theorem kg_J5_init_d00df_0 {M0 : zM} {a0 : Nat} {i1 : Int32} {M : zM} (hM : FG M0 M) : KF (FG M0) (f_J5_init_d00df_0 a0 i1 M) := by
  unfold f_J5_init_d00df_0
  refine KF.i ?_ ?_
  · exact KF.n
  · refine KF.c (fg_aA hM) fun r1 h_r1 => ?_
    refine KF.w (fg_pR h_r1 rfl) fun M2 h_M2 => ?_
    refine KF.w (fg_pZ h_M2 rfl) fun M3 h_M3 => ?_
    exact KF.s h_M3
theorem kg_J5_init_d00df {M0 : zM} {a0 : Nat} {i1 : Int32} {M : zM} (hM : FG M0 M) : KF (FG M0) (f_J5_init_d00df a0 i1 M) := by
  unfold f_J5_init_d00df
  exact (kg_J5_init_d00df_0 hM)
theorem kg_J4_init_da8c8_0 {M0 : zM} {a0 : Nat} {M : zM} (hM : FG M0 M) : KF (FG M0) (f_J4_init_da8c8_0 a0 M) := by
  unfold f_J4_init_da8c8_0
  refine KF.c (kg_J5_init_d00df hM) fun r1 h_r1 => ?_
  exact KF.s h_r1
theorem kg_J4_init_da8c8 {M0 : zM} {a0 : Nat} {M : zM} (hM : FG M0 M) : KF (FG M0) (f_J4_init_da8c8 a0 M) := by
  unfold f_J4_init_da8c8
  exact (kg_J4_init_da8c8_0 hM)
theorem kg_J5_length_8abf5_0 {M0 : zM} {a0 : Nat} {M : zM} (hM : FG M0 M) : KF (FG M0) (f_J5_length_8abf5_0 a0 M) := by
  unfold f_J5_length_8abf5_0
  refine KF.b fun v1 => ?_
  exact KF.s hM
theorem kg_J5_length_8abf5 {M0 : zM} {a0 : Nat} {M : zM} (hM : FG M0 M) : KF (FG M0) (f_J5_length_8abf5 a0 M) := by
  unfold f_J5_length_8abf5
  exact (kg_J5_length_8abf5_0 hM)
theorem kg_J4_length_8abf5_0 {M0 : zM} {a0 : Nat} {M : zM} (hM : FG M0 M) : KF (FG M0) (f_J4_length_8abf5_0 a0 M) := by
  unfold f_J4_length_8abf5_0
  refine KF.i ?_ KF.n
  refine KF.c (kg_J5_length_8abf5 hM) fun r1 h_r1 => ?_
  exact KF.s h_r1
theorem kg_J4_length_8abf5 {M0 : zM} {a0 : Nat} {M : zM} (hM : FG M0 M) : KF (FG M0) (f_J4_length_8abf5 a0 M) := by
  unfold f_J4_length_8abf5
  exact (kg_J4_length_8abf5_0 hM)
theorem kg_J5_getValue_6d5f1_0 {M0 : zM} {a0 : Nat} {M : zM} (hM : FG M0 M) : KF (FG M0) (f_J5_getValue_6d5f1_0 a0 M) := by
  unfold f_J5_getValue_6d5f1_0
  refine KF.b fun v1 => ?_
  exact KF.s hM
theorem kg_J5_getValue_6d5f1 {M0 : zM} {a0 : Nat} {M : zM} (hM : FG M0 M) : KF (FG M0) (f_J5_getValue_6d5f1 a0 M) := by
  unfold f_J5_getValue_6d5f1
  exact (kg_J5_getValue_6d5f1_0 hM)
theorem kg_J5_isLatin1_aae02_0 {M0 : zM} {a0 : Nat} {M : zM} (hM : FG M0 M) : KF (FG M0) (f_J5_isLatin1_aae02_0 a0 M) := by
  unfold f_J5_isLatin1_aae02_0
  refine KF.i ?_ ?_
  · exact KF.s hM
  · refine KF.b fun v1 => ?_
    refine KF.i ?_ ?_
    · exact KF.s hM
    · exact KF.s hM
theorem kg_J5_isLatin1_aae02 {M0 : zM} {a0 : Nat} {M : zM} (hM : FG M0 M) : KF (FG M0) (f_J5_isLatin1_aae02 a0 M) := by
  unfold f_J5_isLatin1_aae02
  exact (kg_J5_isLatin1_aae02_0 hM)
theorem kg_J0_coder_7d493_0 {M0 : zM} {a0 : Nat} {M : zM} (hM : FG M0 M) : KF (FG M0) (f_J0_coder_7d493_0 a0 M) := by
  unfold f_J0_coder_7d493_0
  refine KF.i ?_ ?_
  · exact KF.s hM
  · refine KF.b fun v1 => ?_
    refine KF.i ?_ KF.n
    exact KF.s hM
theorem kg_J0_coder_7d493 {M0 : zM} {a0 : Nat} {M : zM} (hM : FG M0 M) : KF (FG M0) (f_J0_coder_7d493 a0 M) := by
  unfold f_J0_coder_7d493
  exact (kg_J0_coder_7d493_0 hM)
theorem kg_J0_length_8abf5_0 {M0 : zM} {a0 : Nat} {M : zM} (hM : FG M0 M) : KF (FG M0) (f_J0_length_8abf5_0 a0 M) := by
  unfold f_J0_length_8abf5_0
  refine KF.b fun v1 => ?_
  refine KF.b fun v2 => ?_
  refine KF.i ?_ KF.n
  refine KF.c (kg_J0_coder_7d493 hM) fun r3 h_r3 => ?_
  exact KF.s h_r3
theorem kg_J0_length_8abf5 {M0 : zM} {a0 : Nat} {M : zM} (hM : FG M0 M) : KF (FG M0) (f_J0_length_8abf5 a0 M) := by
  unfold f_J0_length_8abf5
  exact (kg_J0_length_8abf5_0 hM)
theorem kg_J8_newLength_cabcc_21 {M0 : zM} {i0 : Int32} {i1 : Int32} {M : zM} (hM : FG M0 M) : KF (FG M0) (f_J8_newLength_cabcc_21 i0 i1 M) := by
  unfold f_J8_newLength_cabcc_21
  exact KF.n
theorem kg_J8_newLength_cabcc_0 {M0 : zM} {i0 : Int32} {i1 : Int32} {i2 : Int32} {M : zM} (hM : FG M0 M) : KF (FG M0) (f_J8_newLength_cabcc_0 i0 i1 i2 M) := by
  unfold f_J8_newLength_cabcc_0
  refine KF.c (kg_J9_max_7cf53 hM) fun r1 h_r1 => ?_
  refine KF.i ?_ ?_
  · exact (kg_J8_newLength_cabcc_21 h_r1)
  · refine KF.i ?_ ?_
    · exact (kg_J8_newLength_cabcc_21 h_r1)
    · exact KF.s h_r1
theorem kg_J8_newLength_cabcc {M0 : zM} {i0 : Int32} {i1 : Int32} {i2 : Int32} {M : zM} (hM : FG M0 M) : KF (FG M0) (f_J8_newLength_cabcc i0 i1 i2 M) := by
  unfold f_J8_newLength_cabcc
  exact (kg_J8_newLength_cabcc_0 hM)
theorem kg_J5_newCapacity_0f7a4_0 {M0 : zM} {a0 : Nat} {i1 : Int32} {M : zM} (hM : FG M0 M) : KF (FG M0) (f_J5_newCapacity_0f7a4_0 a0 i1 M) := by
  unfold f_J5_newCapacity_0f7a4_0
  refine KF.b fun v1 => ?_
  refine KF.b fun v2 => ?_
  refine KF.b fun v3 => ?_
  refine KF.b fun v4 => ?_
  refine KF.c (kg_J8_newLength_cabcc hM) fun r5 h_r5 => ?_
  refine KF.i ?_ ?_
  · exact KF.n
  · refine KF.b fun v6 => ?_
    exact KF.s h_r5
theorem kg_J5_newCapacity_0f7a4 {M0 : zM} {a0 : Nat} {i1 : Int32} {M : zM} (hM : FG M0 M) : KF (FG M0) (f_J5_newCapacity_0f7a4 a0 i1 M) := by
  unfold f_J5_newCapacity_0f7a4
  exact (kg_J5_newCapacity_0f7a4_0 hM)
theorem kg_J7_copyOf_9075b_0 {M0 : zM} {a0 : Nat} {i1 : Int32} {M : zM} (hM : FG M0 M) : KF (FG M0) (f_J7_copyOf_9075b_0 a0 i1 M) := by
  unfold f_J7_copyOf_9075b_0
  refine KF.b fun v1 => ?_
  refine KF.i ?_ ?_
  · refine KF.c (fg_aC hM) fun r6 h_r6 => ?_
    refine KF.i ?_ KF.n
    exact KF.s h_r6
  · refine KF.c (fg_aA hM) fun r2 h_r2 => ?_
    refine KF.b fun v3 => ?_
    refine KF.c (kg_J9_min_7cf53 h_r2) fun r4 h_r4 => ?_
    refine KF.w (fg_yI h_r4) fun M5 h_M5 => ?_
    exact KF.s h_M5
theorem kg_J7_copyOf_9075b {M0 : zM} {a0 : Nat} {i1 : Int32} {M : zM} (hM : FG M0 M) : KF (FG M0) (f_J7_copyOf_9075b a0 i1 M) := by
  unfold f_J7_copyOf_9075b
  exact (kg_J7_copyOf_9075b_0 hM)
theorem kg_J5_ensureCapacityInternal_d00df_0 {M0 : zM} {a0 : Nat} {i1 : Int32} {M : zM} (hM : FG M0 M) : KF (FG M0) (f_J5_ensureCapacityInternal_d00df_0 a0 i1 M) := by
  unfold f_J5_ensureCapacityInternal_d00df_0
  refine KF.b fun v1 => ?_
  refine KF.b fun v2 => ?_
  refine KF.b fun v3 => ?_
  refine KF.i ?_ ?_
  · exact KF.s hM
  · refine KF.b fun v4 => ?_
    refine KF.i ?_ KF.n
    refine KF.c (kg_J5_newCapacity_0f7a4 hM) fun r5 h_r5 => ?_
    refine KF.b fun v7 => ?_
    refine KF.c (kg_J7_copyOf_9075b h_r5) fun r8 h_r8 => ?_
    refine KF.w (fg_pR h_r8 rfl) fun M9 h_M9 => ?_
    exact KF.s h_M9
theorem kg_J5_ensureCapacityInternal_d00df {M0 : zM} {a0 : Nat} {i1 : Int32} {M : zM} (hM : FG M0 M) : KF (FG M0) (f_J5_ensureCapacityInternal_d00df a0 i1 M) := by
  unfold f_J5_ensureCapacityInternal_d00df
  exact (kg_J5_ensureCapacityInternal_d00df_0 hM)
theorem kg_J6_getChars_ba4f3_104 {M0 : zM} {a2 : Nat} {i5 : Int32} {i6 : Int32} {M : zM} (hM : FG M0 M) : KF (FG M0) (f_J6_getChars_ba4f3_104 a2 i5 i6 M) := by
  unfold f_J6_getChars_ba4f3_104
  refine KF.i ?_ ?_
  · exact KF.s hM
  · refine KF.w (fg_tB hM) fun M1 h_M1 => ?_
    exact KF.s h_M1
theorem kg_J6_getChars_ba4f3_22 {M0 : zM} : ∀ (n : Nat) {i0 : Int32} {a2 : Nat} {i5 : Int32} {i6 : Int32} {M : zM}, FG M0 M → KF (FG M0) (f_J6_getChars_ba4f3_22 n i0 a2 i5 i6 M) := by
  intro n
  induction n with
  | zero => exact fun _ => KF.n
  | succ n ih =>
    intro i0 a2 i5 i6 M hM
    rw [f_J6_getChars_ba4f3_22]
    refine KF.i ?_ ?_
    · refine KF.b fun v1 => ?_
      refine KF.w (fg_tB hM) fun M2 h_M2 => ?_
      refine KF.i ?_ ?_
      · exact (kg_J6_getChars_ba4f3_104 h_M2)
      · refine KF.b fun v3 => ?_
        refine KF.w (fg_tB h_M2) fun M4 h_M4 => ?_
        exact (kg_J6_getChars_ba4f3_104 h_M4)
    · refine KF.b fun v6 => ?_
      refine KF.w (fg_tB hM) fun M7 h_M7 => ?_
      refine KF.b fun v8 => ?_
      refine KF.w (fg_tB h_M7) fun M9 h_M9 => ?_
      exact (ih h_M9)
theorem kg_J6_getChars_ba4f3_12 {M0 : zM} {i0 : Int32} {a2 : Nat} {i5 : Int32} {i_0 : Int32} {M : zM} (hM : FG M0 M) : KF (FG M0) (f_J6_getChars_ba4f3_12 i0 a2 i5 i_0 M) := by
  unfold f_J6_getChars_ba4f3_12
  refine KF.i ?_ ?_
  · exact (kg_J6_getChars_ba4f3_22 zN hM)
  · exact (kg_J6_getChars_ba4f3_22 zN hM)
theorem kg_J6_getChars_ba4f3_0 {M0 : zM} {i0 : Int32} {i1 : Int32} {a2 : Nat} {M : zM} (hM : FG M0 M) : KF (FG M0) (f_J6_getChars_ba4f3_0 i0 i1 a2 M) := by
  unfold f_J6_getChars_ba4f3_0
  refine KF.i ?_ ?_
  · exact (kg_J6_getChars_ba4f3_12 hM)
  · exact (kg_J6_getChars_ba4f3_12 hM)
theorem kg_J6_getChars_ba4f3 {M0 : zM} {i0 : Int32} {i1 : Int32} {a2 : Nat} {M : zM} (hM : FG M0 M) : KF (FG M0) (f_J6_getChars_ba4f3 i0 i1 a2 M) := by
  unfold f_J6_getChars_ba4f3
  exact (kg_J6_getChars_ba4f3_0 hM)
theorem kg_J6_stringSize_0f7a4_16 {M0 : zM} : ∀ (n : Nat) {i0 : Int32} {i1 : Int32} {i2 : Int32} {i3 : Int32} {M : zM}, FG M0 M → KF (FG M0) (f_J6_stringSize_0f7a4_16 n i0 i1 i2 i3 M) := by
  intro n
  induction n with
  | zero => exact fun _ => KF.n
  | succ n ih =>
    intro i0 i1 i2 i3 M hM
    rw [f_J6_stringSize_0f7a4_16]
    refine KF.i ?_ ?_
    · exact KF.s hM
    · refine KF.i ?_ ?_
      · exact (ih hM)
      · exact KF.s hM
theorem kg_J6_stringSize_0f7a4_11 {M0 : zM} {i0 : Int32} {i1 : Int32} {M : zM} (hM : FG M0 M) : KF (FG M0) (f_J6_stringSize_0f7a4_11 i0 i1 M) := by
  unfold f_J6_stringSize_0f7a4_11
  exact (kg_J6_stringSize_0f7a4_16 zN hM)
theorem kg_J6_stringSize_0f7a4_0 {M0 : zM} {i0 : Int32} {M : zM} (hM : FG M0 M) : KF (FG M0) (f_J6_stringSize_0f7a4_0 i0 M) := by
  unfold f_J6_stringSize_0f7a4_0
  refine KF.i ?_ ?_
  · exact (kg_J6_stringSize_0f7a4_11 hM)
  · exact (kg_J6_stringSize_0f7a4_11 hM)
theorem kg_J6_stringSize_0f7a4 {M0 : zM} {i0 : Int32} {M : zM} (hM : FG M0 M) : KF (FG M0) (f_J6_stringSize_0f7a4 i0 M) := by
  unfold f_J6_stringSize_0f7a4
  exact (kg_J6_stringSize_0f7a4_0 hM)
theorem kg_J5_append_c97b9_48 {M0 : zM} {a0 : Nat} {i3 : Int32} {M : zM} (hM : FG M0 M) : KF (FG M0) (f_J5_append_c97b9_48 a0 i3 M) := by
  unfold f_J5_append_c97b9_48
  refine KF.w (fg_pI hM rfl) fun M1 h_M1 => ?_
  exact KF.s h_M1
theorem kg_J5_append_c97b9_0 {M0 : zM} {a0 : Nat} {i1 : Int32} {M : zM} (hM : FG M0 M) : KF (FG M0) (f_J5_append_c97b9_0 a0 i1 M) := by
  unfold f_J5_append_c97b9_0
  refine KF.b fun v1 => ?_
  refine KF.c (kg_J6_stringSize_0f7a4 hM) fun r2 h_r2 => ?_
  refine KF.i ?_ KF.n
  refine KF.c (kg_J5_ensureCapacityInternal_d00df h_r2) fun r3 h_r3 => ?_
  refine KF.i ?_ KF.n
  refine KF.c (kg_J5_isLatin1_aae02 h_r3) fun r5 h_r5 => ?_
  refine KF.i ?_ ?_
  · refine KF.b fun v7 => ?_
    exact KF.n
  · refine KF.b fun v8 => ?_
    refine KF.c (kg_J6_getChars_ba4f3 h_r5) fun r9 h_r9 => ?_
    exact (kg_J5_append_c97b9_48 h_r9)
theorem kg_J5_append_c97b9 {M0 : zM} {a0 : Nat} {i1 : Int32} {M : zM} (hM : FG M0 M) : KF (FG M0) (f_J5_append_c97b9 a0 i1 M) := by
  unfold f_J5_append_c97b9
  exact (kg_J5_append_c97b9_0 hM)
theorem kg_J4_append_bf812_0 {M0 : zM} {a0 : Nat} {i1 : Int32} {M : zM} (hM : FG M0 M) : KF (FG M0) (f_J4_append_bf812_0 a0 i1 M) := by
  unfold f_J4_append_bf812_0
  refine KF.i ?_ KF.n
  refine KF.c (kg_J5_append_c97b9 hM) fun r1 h_r1 => ?_
  exact KF.s h_r1
theorem kg_J4_append_bf812 {M0 : zM} {a0 : Nat} {i1 : Int32} {M : zM} (hM : FG M0 M) : KF (FG M0) (f_J4_append_bf812 a0 i1 M) := by
  unfold f_J4_append_bf812
  exact (kg_J4_append_bf812_0 hM)
theorem kg_J7_checkLength_df160_0 {M0 : zM} {i0 : Int32} {i1 : Int32} {M : zM} (hM : FG M0 M) : KF (FG M0) (f_J7_checkLength_df160_0 i0 i1 M) := by
  unfold f_J7_checkLength_df160_0
  refine KF.i ?_ KF.n
  exact KF.s hM
theorem kg_J7_checkLength_df160 {M0 : zM} {i0 : Int32} {i1 : Int32} {M : zM} (hM : FG M0 M) : KF (FG M0) (f_J7_checkLength_df160 i0 i1 M) := by
  unfold f_J7_checkLength_df160
  exact (kg_J7_checkLength_df160_0 hM)
theorem kg_J7_copyOfRangeByte_39247_0 {M0 : zM} {a0 : Nat} {i1 : Int32} {i2 : Int32} {M : zM} (hM : FG M0 M) : KF (FG M0) (f_J7_copyOfRangeByte_39247_0 a0 i1 i2 M) := by
  unfold f_J7_copyOfRangeByte_39247_0
  refine KF.c (kg_J7_checkLength_df160 hM) fun r1 h_r1 => ?_
  refine KF.c (fg_aA h_r1) fun r2 h_r2 => ?_
  refine KF.b fun v3 => ?_
  refine KF.c (kg_J9_min_7cf53 h_r2) fun r4 h_r4 => ?_
  refine KF.w (fg_yI h_r4) fun M5 h_M5 => ?_
  exact KF.s h_M5
theorem kg_J7_copyOfRangeByte_39247 {M0 : zM} {a0 : Nat} {i1 : Int32} {i2 : Int32} {M : zM} (hM : FG M0 M) : KF (FG M0) (f_J7_copyOfRangeByte_39247 a0 i1 i2 M) := by
  unfold f_J7_copyOfRangeByte_39247
  exact (kg_J7_copyOfRangeByte_39247_0 hM)
theorem kg_J7_copyOfRange_39247_10 {M0 : zM} {a0 : Nat} {i1 : Int32} {i2 : Int32} {M : zM} (hM : FG M0 M) : KF (FG M0) (f_J7_copyOfRange_39247_10 a0 i1 i2 M) := by
  unfold f_J7_copyOfRange_39247_10
  refine KF.c (kg_J7_copyOfRangeByte_39247 hM) fun r1 h_r1 => ?_
  exact KF.s h_r1
theorem kg_J7_copyOfRange_39247_0 {M0 : zM} {a0 : Nat} {i1 : Int32} {i2 : Int32} {M : zM} (hM : FG M0 M) : KF (FG M0) (f_J7_copyOfRange_39247_0 a0 i1 i2 M) := by
  unfold f_J7_copyOfRange_39247_0
  refine KF.i ?_ ?_
  · refine KF.b fun v1 => ?_
    refine KF.i ?_ ?_
    · refine KF.c (fg_aC hM) fun r2 h_r2 => ?_
      refine KF.i ?_ KF.n
      exact KF.s h_r2
    · exact (kg_J7_copyOfRange_39247_10 hM)
  · exact (kg_J7_copyOfRange_39247_10 hM)
theorem kg_J7_copyOfRange_39247 {M0 : zM} {a0 : Nat} {i1 : Int32} {i2 : Int32} {M : zM} (hM : FG M0 M) : KF (FG M0) (f_J7_copyOfRange_39247 a0 i1 i2 M) := by
  unfold f_J7_copyOfRange_39247
  exact (kg_J7_copyOfRange_39247_0 hM)
theorem kg_J0_init_db425_79 {M0 : zM} {a0 : Nat} {a3 : Nat} {i4 : Int32} {M : zM} (hM : FG M0 M) : KF (FG M0) (f_J0_init_db425_79 a0 a3 i4 M) := by
  unfold f_J0_init_db425_79
  refine KF.w (fg_pZ hM rfl) fun M1 h_M1 => ?_
  refine KF.c (kg_J7_copyOfRange_39247 h_M1) fun r2 h_r2 => ?_
  refine KF.w (fg_pR h_r2 rfl) fun M3 h_M3 => ?_
  exact KF.s h_M3
theorem kg_J0_init_db425_0 {M0 : zM} {a0 : Nat} {a1 : Nat} {M : zM} (hM : FG M0 M) : KF (FG M0) (f_J0_init_db425_0 a0 a1 M) := by
  unfold f_J0_init_db425_0
  refine KF.i ?_ KF.n
  refine KF.c (kg_J5_getValue_6d5f1 hM) fun r1 h_r1 => ?_
  refine KF.i ?_ KF.n
  refine KF.c (kg_J4_length_8abf5 h_r1) fun r3 h_r3 => ?_
  refine KF.i ?_ KF.n
  refine KF.c (kg_J5_isLatin1_aae02 h_r3) fun r5 h_r5 => ?_
  refine KF.i ?_ ?_
  · refine KF.i ?_ ?_
    · exact (kg_J0_init_db425_79 h_r5)
    · refine KF.b fun v7 => ?_
      refine KF.i ?_ KF.n
      exact (kg_J0_init_db425_79 h_r5)
  · refine KF.w (fg_pZ h_r5 rfl) fun M10 h_M10 => ?_
    refine KF.c (kg_J7_copyOfRange_39247 h_M10) fun r11 h_r11 => ?_
    refine KF.w (fg_pR h_r11 rfl) fun M12 h_M12 => ?_
    exact KF.s h_M12
theorem kg_J0_init_db425 {M0 : zM} {a0 : Nat} {a1 : Nat} {M : zM} (hM : FG M0 M) : KF (FG M0) (f_J0_init_db425 a0 a1 M) := by
  unfold f_J0_init_db425
  exact (kg_J0_init_db425_0 hM)
theorem kg_J0_init_81219_0 {M0 : zM} {a0 : Nat} {a1 : Nat} {M : zM} (hM : FG M0 M) : KF (FG M0) (f_J0_init_81219_0 a0 a1 M) := by
  unfold f_J0_init_81219_0
  refine KF.c (kg_J0_init_db425 hM) fun r1 h_r1 => ?_
  exact KF.s h_r1
theorem kg_J0_init_81219 {M0 : zM} {a0 : Nat} {a1 : Nat} {M : zM} (hM : FG M0 M) : KF (FG M0) (f_J0_init_81219 a0 a1 M) := by
  unfold f_J0_init_81219
  exact (kg_J0_init_81219_0 hM)
theorem kg_J4_toString_0e30d_0 {M0 : zM} {a0 : Nat} {M : zM} (hM : FG M0 M) : KF (FG M0) (f_J4_toString_0e30d_0 a0 M) := by
  unfold f_J4_toString_0e30d_0
  refine KF.c (kg_J0_init_81219 (fg_nO hM)) fun r1 h_r1 => ?_
  exact KF.s h_r1
theorem kg_J4_toString_0e30d {M0 : zM} {a0 : Nat} {M : zM} (hM : FG M0 M) : KF (FG M0) (f_J4_toString_0e30d a0 M) := by
  unfold f_J4_toString_0e30d
  exact (kg_J4_toString_0e30d_0 hM)
theorem kg_J0_isLatin1_aae02_0 {M0 : zM} {a0 : Nat} {M : zM} (hM : FG M0 M) : KF (FG M0) (f_J0_isLatin1_aae02_0 a0 M) := by
  unfold f_J0_isLatin1_aae02_0
  refine KF.i ?_ ?_
  · exact KF.s hM
  · refine KF.b fun v1 => ?_
    refine KF.i ?_ ?_
    · exact KF.s hM
    · exact KF.s hM
theorem kg_J0_isLatin1_aae02 {M0 : zM} {a0 : Nat} {M : zM} (hM : FG M0 M) : KF (FG M0) (f_J0_isLatin1_aae02 a0 M) := by
  unfold f_J0_isLatin1_aae02
  exact (kg_J0_isLatin1_aae02_0 hM)
theorem kg_J3_checkIndex_8e157_0 {M0 : zM} {i0 : Int32} {i1 : Int32} {M : zM} (hM : FG M0 M) : KF (FG M0) (f_J3_checkIndex_8e157_0 i0 i1 M) := by
  unfold f_J3_checkIndex_8e157_0
  refine KF.i ?_ ?_
  · exact KF.n
  · refine KF.i ?_ KF.n
    exact KF.s hM
theorem kg_J3_checkIndex_8e157 {M0 : zM} {i0 : Int32} {i1 : Int32} {M : zM} (hM : FG M0 M) : KF (FG M0) (f_J3_checkIndex_8e157 i0 i1 M) := by
  unfold f_J3_checkIndex_8e157
  exact (kg_J3_checkIndex_8e157_0 hM)
theorem kg_J0_checkIndex_df160_0 {M0 : zM} {i0 : Int32} {i1 : Int32} {M : zM} (hM : FG M0 M) : KF (FG M0) (f_J0_checkIndex_df160_0 i0 i1 M) := by
  unfold f_J0_checkIndex_df160_0
  refine KF.c (kg_J3_checkIndex_8e157 hM) fun r1 h_r1 => ?_
  exact KF.s h_r1
theorem kg_J0_checkIndex_df160 {M0 : zM} {i0 : Int32} {i1 : Int32} {M : zM} (hM : FG M0 M) : KF (FG M0) (f_J0_checkIndex_df160 i0 i1 M) := by
  unfold f_J0_checkIndex_df160
  exact (kg_J0_checkIndex_df160_0 hM)
theorem kg_J1_charAt_3b067_0 {M0 : zM} {a0 : Nat} {i1 : Int32} {M : zM} (hM : FG M0 M) : KF (FG M0) (f_J1_charAt_3b067_0 a0 i1 M) := by
  unfold f_J1_charAt_3b067_0
  refine KF.b fun v1 => ?_
  refine KF.c (kg_J0_checkIndex_df160 hM) fun r2 h_r2 => ?_
  refine KF.b fun v3 => ?_
  refine KF.i ?_ KF.n
  exact KF.s h_r2
theorem kg_J1_charAt_3b067 {M0 : zM} {a0 : Nat} {i1 : Int32} {M : zM} (hM : FG M0 M) : KF (FG M0) (f_J1_charAt_3b067 a0 i1 M) := by
  unfold f_J1_charAt_3b067
  exact (kg_J1_charAt_3b067_0 hM)
theorem kg_J0_charAt_5068e_0 {M0 : zM} {a0 : Nat} {i1 : Int32} {M : zM} (hM : FG M0 M) : KF (FG M0) (f_J0_charAt_5068e_0 a0 i1 M) := by
  unfold f_J0_charAt_5068e_0
  refine KF.i ?_ KF.n
  refine KF.c (kg_J0_isLatin1_aae02 hM) fun r1 h_r1 => ?_
  refine KF.i ?_ ?_
  · refine KF.b fun v3 => ?_
    exact KF.n
  · refine KF.b fun v4 => ?_
    refine KF.c (kg_J1_charAt_3b067 h_r1) fun r5 h_r5 => ?_
    refine KF.i ?_ KF.n
    exact KF.s h_r5
theorem kg_J0_charAt_5068e {M0 : zM} {a0 : Nat} {i1 : Int32} {M : zM} (hM : FG M0 M) : KF (FG M0) (f_J0_charAt_5068e a0 i1 M) := by
  unfold f_J0_charAt_5068e
  exact (kg_J0_charAt_5068e_0 hM)
theorem kg_J1_canEncode_fc78d_0 {M0 : zM} {i0 : Int32} {M : zM} (hM : FG M0 M) : KF (FG M0) (f_J1_canEncode_fc78d_0 i0 M) := by
  unfold f_J1_canEncode_fc78d_0
  refine KF.i ?_ ?_
  · exact KF.s hM
  · exact KF.s hM
theorem kg_J1_canEncode_fc78d {M0 : zM} {i0 : Int32} {M : zM} (hM : FG M0 M) : KF (FG M0) (f_J1_canEncode_fc78d i0 M) := by
  unfold f_J1_canEncode_fc78d
  exact (kg_J1_canEncode_fc78d_0 hM)
theorem kg_J5_append_3fe6f_56 {M0 : zM} {a0 : Nat} {i1 : Int32} {M : zM} (hM : FG M0 M) : KF (FG M0) (f_J5_append_3fe6f_56 a0 i1 M) := by
  unfold f_J5_append_3fe6f_56
  refine KF.b fun v1 => ?_
  refine KF.b fun v2 => ?_
  refine KF.w (fg_pI hM rfl) fun M3 h_M3 => ?_
  exact KF.n
theorem kg_J5_append_3fe6f_45 {M0 : zM} {a0 : Nat} {i1 : Int32} {M : zM} (hM : FG M0 M) : KF (FG M0) (f_J5_append_3fe6f_45 a0 i1 M) := by
  unfold f_J5_append_3fe6f_45
  refine KF.i ?_ KF.n
  refine KF.c (kg_J5_isLatin1_aae02 hM) fun r1 h_r1 => ?_
  refine KF.i ?_ KF.n
  exact (kg_J5_append_3fe6f_56 h_r1)
theorem kg_J5_append_3fe6f_0 {M0 : zM} {a0 : Nat} {i1 : Int32} {M : zM} (hM : FG M0 M) : KF (FG M0) (f_J5_append_3fe6f_0 a0 i1 M) := by
  unfold f_J5_append_3fe6f_0
  refine KF.b fun v1 => ?_
  refine KF.i ?_ KF.n
  refine KF.c (kg_J5_ensureCapacityInternal_d00df hM) fun r2 h_r2 => ?_
  refine KF.i ?_ KF.n
  refine KF.c (kg_J5_isLatin1_aae02 h_r2) fun r4 h_r4 => ?_
  refine KF.i ?_ ?_
  · exact (kg_J5_append_3fe6f_45 h_r4)
  · refine KF.c (kg_J1_canEncode_fc78d h_r4) fun r6 h_r6 => ?_
    refine KF.i ?_ ?_
    · exact (kg_J5_append_3fe6f_45 h_r6)
    · refine KF.b fun v7 => ?_
      refine KF.b fun v8 => ?_
      refine KF.w (fg_pI h_r6 rfl) fun M9 h_M9 => ?_
      refine KF.w (fg_tB h_M9) fun M10 h_M10 => ?_
      exact KF.s h_M10
theorem kg_J5_append_3fe6f {M0 : zM} {a0 : Nat} {i1 : Int32} {M : zM} (hM : FG M0 M) : KF (FG M0) (f_J5_append_3fe6f a0 i1 M) := by
  unfold f_J5_append_3fe6f
  exact (kg_J5_append_3fe6f_0 hM)
theorem kg_J4_append_cf468_0 {M0 : zM} {a0 : Nat} {i1 : Int32} {M : zM} (hM : FG M0 M) : KF (FG M0) (f_J4_append_cf468_0 a0 i1 M) := by
  unfold f_J4_append_cf468_0
  refine KF.i ?_ KF.n
  refine KF.c (kg_J5_append_3fe6f hM) fun r1 h_r1 => ?_
  exact KF.s h_r1
theorem kg_J4_append_cf468 {M0 : zM} {a0 : Nat} {i1 : Int32} {M : zM} (hM : FG M0 M) : KF (FG M0) (f_J4_append_cf468 a0 i1 M) := by
  unfold f_J4_append_cf468
  exact (kg_J4_append_cf468_0 hM)
theorem kg_X3_writeHonours_24 {M0 : zM} {K6 : Nat → Nat → Nat → Int32 → zM → Option (Unit × zM)} (hK6 : ∀ {x0 : Nat} {x1 : Nat} {x2 : Nat} {x3 : Int32} {M : zM}, FG M0 M → KF (FG M0) (K6 x0 x1 x2 x3 M)) : ∀ (n : Nat) {a0 : Nat} {a1 : Nat} {a2 : Nat} {i3 : Int32} {i4 : Int32} {M : zM}, FG M0 M → KF (FG M0) (f_X3_writeHonours_24 K6 n a0 a1 a2 i3 i4 M) := by
  intro n
  induction n with
  | zero => exact fun _ => KF.n
  | succ n ih =>
    intro a0 a1 a2 i3 i4 M hM
    rw [f_X3_writeHonours_24]
    refine KF.i ?_ ?_
    · exact (hK6 hM)
    · refine KF.i ?_ KF.n
      refine KF.c (kg_J0_charAt_5068e hM) fun r1 h_r1 => ?_
      refine KF.i ?_ KF.n
      refine KF.c (kg_J4_append_cf468 h_r1) fun r3 h_r3 => ?_
      exact (ih h_r3)
theorem kg_X3_writeHonours_6 {M0 : zM} : ∀ (n : Nat) {a0 : Nat} {a1 : Nat} {a2 : Nat} {i3 : Int32} {M : zM}, FG M0 M → KF (FG M0) (f_X3_writeHonours_6 n a0 a1 a2 i3 M) := by
  intro n
  induction n with
  | zero => exact fun _ => KF.n
  | succ n ih =>
    intro a0 a1 a2 i3 M hM
    rw [f_X3_writeHonours_6]
    refine KF.i ?_ KF.n
    refine KF.c (kg_J0_length_8abf5 hM) fun r1 h_r1 => ?_
    refine KF.i ?_ ?_
    · exact KF.s h_r1
    · refine KF.i ?_ KF.n
      refine KF.c (kg_X1_count h_r1) fun r3 h_r3 => ?_
      exact (kg_X3_writeHonours_24 ih zN h_r3)
theorem kg_X3_writeHonours_0 {M0 : zM} {a0 : Nat} {a1 : Nat} {M : zM} (hM : FG M0 M) : KF (FG M0) (f_X3_writeHonours_0 a0 a1 M) := by
  unfold f_X3_writeHonours_0
  exact (kg_X3_writeHonours_6 zN hM)
theorem kg_X3_writeHonours {M0 : zM} {a0 : Nat} {a1 : Nat} {M : zM} (hM : FG M0 M) : KF (FG M0) (f_X3_writeHonours a0 a1 M) := by
  unfold f_X3_writeHonours
  exact (kg_X3_writeHonours_0 hM)
theorem kg_X3_writeSuit_28 {M0 : zM} {K9 : Nat → Nat → Int32 → Int32 → Int32 → Int32 → zM → Option (Unit × zM)} (hK9 : ∀ {x0 : Nat} {x1 : Nat} {x2 : Int32} {x3 : Int32} {x4 : Int32} {x5 : Int32} {M : zM}, FG M0 M → KF (FG M0) (K9 x0 x1 x2 x3 x4 x5 M)) : ∀ (n : Nat) {a0 : Nat} {a1 : Nat} {i2 : Int32} {i3 : Int32} {i4 : Int32} {i5 : Int32} {i6 : Int32} {M : zM}, FG M0 M → KF (FG M0) (f_X3_writeSuit_28 K9 n a0 a1 i2 i3 i4 i5 i6 M) := by
  intro n
  induction n with
  | zero => exact fun _ => KF.n
  | succ n ih =>
    intro a0 a1 i2 i3 i4 i5 i6 M hM
    rw [f_X3_writeSuit_28]
    refine KF.i ?_ ?_
    · exact (hK9 hM)
    · refine KF.i ?_ KF.n
      refine KF.c (kg_J4_append_bf812 hM) fun r1 h_r1 => ?_
      exact (ih h_r1)
theorem kg_X3_writeSuit_9 {M0 : zM} : ∀ (n : Nat) {a0 : Nat} {a1 : Nat} {i2 : Int32} {i3 : Int32} {i4 : Int32} {i5 : Int32} {M : zM}, FG M0 M → KF (FG M0) (f_X3_writeSuit_9 n a0 a1 i2 i3 i4 i5 M) := by
  intro n
  induction n with
  | zero => exact fun _ => KF.n
  | succ n ih =>
    intro a0 a1 i2 i3 i4 i5 M hM
    rw [f_X3_writeSuit_9]
    refine KF.i ?_ ?_
    · refine KF.i ?_ KF.n
      refine KF.c (kg_J4_length_8abf5 hM) fun r1 h_r1 => ?_
      refine KF.i ?_ ?_
      · exact KF.s h_r1
      · refine KF.i ?_ KF.n
        refine KF.c (kg_J4_append_cf468 h_r1) fun r3 h_r3 => ?_
        exact KF.s h_r3
    · refine KF.i ?_ KF.n
      refine KF.c (kg_X1_count hM) fun r6 h_r6 => ?_
      exact (kg_X3_writeSuit_28 ih zN h_r6)
theorem kg_X3_writeSuit_0 {M0 : zM} {a0 : Nat} {a1 : Nat} {i2 : Int32} {i3 : Int32} {M : zM} (hM : FG M0 M) : KF (FG M0) (f_X3_writeSuit_0 a0 a1 i2 i3 M) := by
  unfold f_X3_writeSuit_0
  refine KF.i ?_ KF.n
  refine KF.c (kg_J4_length_8abf5 hM) fun r1 h_r1 => ?_
  exact (kg_X3_writeSuit_9 zN h_r1)
theorem kg_X3_writeSuit {M0 : zM} {a0 : Nat} {a1 : Nat} {i2 : Int32} {i3 : Int32} {M : zM} (hM : FG M0 M) : KF (FG M0) (f_X3_writeSuit a0 a1 i2 i3 M) := by
  unfold f_X3_writeSuit
  exact (kg_X3_writeSuit_0 hM)
theorem kg_X3_hand_0 {M0 : zM} {a0 : Nat} {i1 : Int32} {M : zM} (hM : FG M0 M) : KF (FG M0) (f_X3_hand_0 a0 i1 M) := by
  unfold f_X3_hand_0
  refine KF.xb (kg_X3_requirePlayer hM) fun w1 Mw1 h_Mw1 => ?_
  refine KF.b fun v10 => ?_
  refine KF.b fun v11 => ?_
  refine KF.c (kg_J4_init_da8c8 (fg_nO h_Mw1)) fun r12 h_r12 => ?_
  refine KF.c (kg_X3_writeSuit h_r12) fun r13 h_r13 => ?_
  refine KF.c (kg_X3_writeSuit h_r13) fun r14 h_r14 => ?_
  refine KF.c (kg_X3_writeHonours h_r14) fun r15 h_r15 => ?_
  refine KF.i ?_ KF.n
  refine KF.c (kg_J4_toString_0e30d h_r15) fun r16 h_r16 => ?_
  exact KF.s h_r16
theorem kg_X3_hand {M0 : zM} {a0 : Nat} {i1 : Int32} {M : zM} (hM : FG M0 M) : KF (FG M0) (f_X3_hand a0 i1 M) := by
  unfold f_X3_hand
  exact (kg_X3_hand_0 hM)
