/-! ===== FRAMES of the reference ===== -/
theorem kr_J9_max_7cf53_0 {M0 : zM} (hg : KD M0) {i0 : Int32} {i1 : Int32} {M : zM} (hM : FR M0 M) : KF (FR M0) (f_J9_max_7cf53_0 i0 i1 M) := by
  unfold f_J9_max_7cf53_0
  refine KF.i ?_ ?_
  · exact KF.s hM
  · exact KF.s hM
theorem kr_J9_max_7cf53 {M0 : zM} (hg : KD M0) {i0 : Int32} {i1 : Int32} {M : zM} (hM : FR M0 M) : KF (FR M0) (f_J9_max_7cf53 i0 i1 M) := by
  unfold f_J9_max_7cf53
  exact (kr_J9_max_7cf53_0 hg hM)
theorem kr_J9_min_7cf53_0 {M0 : zM} (hg : KD M0) {i0 : Int32} {i1 : Int32} {M : zM} (hM : FR M0 M) : KF (FR M0) (f_J9_min_7cf53_0 i0 i1 M) := by
  unfold f_J9_min_7cf53_0
  refine KF.i ?_ ?_
  · exact KF.s hM
  · exact KF.s hM
theorem kr_J9_min_7cf53 {M0 : zM} (hg : KD M0) {i0 : Int32} {i1 : Int32} {M : zM} (hM : FR M0 M) : KF (FR M0) (f_J9_min_7cf53 i0 i1 M) := by
  unfold f_J9_min_7cf53
  exact (kr_J9_min_7cf53_0 hg hM)
theorem kr_J5_init_d00df_0 {M0 : zM} (hg : KD M0) {a0 : Nat} {i1 : Int32} {M : zM} (hM : FR M0 M) : KF (FR M0) (f_J5_init_d00df_0 a0 i1 M) := by
  unfold f_J5_init_d00df_0
  refine KF.i ?_ ?_
  · exact KF.n
  · refine KF.cp (fr_aA hg hM) fun r1 h_r1 g_r1 => ?_
    refine KF.w (fr_pR hg g_r1 rfl (fun q => absurd q (by decide))) fun M2 h_M2 => ?_
    refine KF.w (fr_pZ hg h_M2 rfl) fun M3 h_M3 => ?_
    exact KF.s h_M3
theorem kr_J5_init_d00df {M0 : zM} (hg : KD M0) {a0 : Nat} {i1 : Int32} {M : zM} (hM : FR M0 M) : KF (FR M0) (f_J5_init_d00df a0 i1 M) := by
  unfold f_J5_init_d00df
  exact (kr_J5_init_d00df_0 hg hM)
theorem kr_J4_init_da8c8_0 {M0 : zM} (hg : KD M0) {a0 : Nat} {M : zM} (hM : FR M0 M) : KF (FR M0) (f_J4_init_da8c8_0 a0 M) := by
  unfold f_J4_init_da8c8_0
  refine KF.c (kr_J5_init_d00df hg hM) fun r1 h_r1 => ?_
  exact KF.s h_r1
theorem kr_J4_init_da8c8 {M0 : zM} (hg : KD M0) {a0 : Nat} {M : zM} (hM : FR M0 M) : KF (FR M0) (f_J4_init_da8c8 a0 M) := by
  unfold f_J4_init_da8c8
  exact (kr_J4_init_da8c8_0 hg hM)
theorem kr_J5_length_8abf5_0 {M0 : zM} (hg : KD M0) {a0 : Nat} {M : zM} (hM : FR M0 M) : KF (FR M0) (f_J5_length_8abf5_0 a0 M) := by
  unfold f_J5_length_8abf5_0
  refine KF.b fun v1 => ?_
  exact KF.s hM
theorem kr_J5_length_8abf5 {M0 : zM} (hg : KD M0) {a0 : Nat} {M : zM} (hM : FR M0 M) : KF (FR M0) (f_J5_length_8abf5 a0 M) := by
  unfold f_J5_length_8abf5
  exact (kr_J5_length_8abf5_0 hg hM)
theorem kr_J4_length_8abf5_0 {M0 : zM} (hg : KD M0) {a0 : Nat} {M : zM} (hM : FR M0 M) : KF (FR M0) (f_J4_length_8abf5_0 a0 M) := by
  unfold f_J4_length_8abf5_0
  refine KF.i ?_ KF.n
  refine KF.c (kr_J5_length_8abf5 hg hM) fun r1 h_r1 => ?_
  exact KF.s h_r1
theorem kr_J4_length_8abf5 {M0 : zM} (hg : KD M0) {a0 : Nat} {M : zM} (hM : FR M0 M) : KF (FR M0) (f_J4_length_8abf5 a0 M) := by
  unfold f_J4_length_8abf5
  exact (kr_J4_length_8abf5_0 hg hM)
theorem kr_J5_getValue_6d5f1_0 {M0 : zM} (hg : KD M0) {a0 : Nat} {M : zM} (hM : FR M0 M) : KF (FR M0) (f_J5_getValue_6d5f1_0 a0 M) := by
  unfold f_J5_getValue_6d5f1_0
  refine KF.b fun v1 => ?_
  exact KF.s hM
theorem kr_J5_getValue_6d5f1 {M0 : zM} (hg : KD M0) {a0 : Nat} {M : zM} (hM : FR M0 M) : KF (FR M0) (f_J5_getValue_6d5f1 a0 M) := by
  unfold f_J5_getValue_6d5f1
  exact (kr_J5_getValue_6d5f1_0 hg hM)
theorem kr_J5_isLatin1_aae02_0 {M0 : zM} (hg : KD M0) {a0 : Nat} {M : zM} (hM : FR M0 M) : KF (FR M0) (f_J5_isLatin1_aae02_0 a0 M) := by
  unfold f_J5_isLatin1_aae02_0
  refine KF.i ?_ ?_
  · exact KF.s hM
  · refine KF.b fun v1 => ?_
    refine KF.i ?_ ?_
    · exact KF.s hM
    · exact KF.s hM
theorem kr_J5_isLatin1_aae02 {M0 : zM} (hg : KD M0) {a0 : Nat} {M : zM} (hM : FR M0 M) : KF (FR M0) (f_J5_isLatin1_aae02 a0 M) := by
  unfold f_J5_isLatin1_aae02
  exact (kr_J5_isLatin1_aae02_0 hg hM)
theorem kr_J8_newLength_cabcc_21 {M0 : zM} (hg : KD M0) {i0 : Int32} {i1 : Int32} {M : zM} (hM : FR M0 M) : KF (FR M0) (f_J8_newLength_cabcc_21 i0 i1 M) := by
  unfold f_J8_newLength_cabcc_21
  exact KF.n
theorem kr_J8_newLength_cabcc_0 {M0 : zM} (hg : KD M0) {i0 : Int32} {i1 : Int32} {i2 : Int32} {M : zM} (hM : FR M0 M) : KF (FR M0) (f_J8_newLength_cabcc_0 i0 i1 i2 M) := by
  unfold f_J8_newLength_cabcc_0
  refine KF.c (kr_J9_max_7cf53 hg hM) fun r1 h_r1 => ?_
  refine KF.i ?_ ?_
  · exact (kr_J8_newLength_cabcc_21 hg h_r1)
  · refine KF.i ?_ ?_
    · exact (kr_J8_newLength_cabcc_21 hg h_r1)
    · exact KF.s h_r1
theorem kr_J8_newLength_cabcc {M0 : zM} (hg : KD M0) {i0 : Int32} {i1 : Int32} {i2 : Int32} {M : zM} (hM : FR M0 M) : KF (FR M0) (f_J8_newLength_cabcc i0 i1 i2 M) := by
  unfold f_J8_newLength_cabcc
  exact (kr_J8_newLength_cabcc_0 hg hM)
theorem kr_J5_newCapacity_0f7a4_0 {M0 : zM} (hg : KD M0) {a0 : Nat} {i1 : Int32} {M : zM} (hM : FR M0 M) : KF (FR M0) (f_J5_newCapacity_0f7a4_0 a0 i1 M) := by
  unfold f_J5_newCapacity_0f7a4_0
  refine KF.b fun v1 => ?_
  refine KF.b fun v2 => ?_
  refine KF.b fun v3 => ?_
  refine KF.b fun v4 => ?_
  refine KF.c (kr_J8_newLength_cabcc hg hM) fun r5 h_r5 => ?_
  refine KF.i ?_ ?_
  · exact KF.n
  · refine KF.b fun v6 => ?_
    exact KF.s h_r5
theorem kr_J5_newCapacity_0f7a4 {M0 : zM} (hg : KD M0) {a0 : Nat} {i1 : Int32} {M : zM} (hM : FR M0 M) : KF (FR M0) (f_J5_newCapacity_0f7a4 a0 i1 M) := by
  unfold f_J5_newCapacity_0f7a4
  exact (kr_J5_newCapacity_0f7a4_0 hg hM)
theorem kr_J7_copyOf_9075b_0 {M0 : zM} (hg : KD M0) {a0 : Nat} {i1 : Int32} {M : zM} (hM : FR M0 M) : KF (FR M0) (f_J7_copyOf_9075b_0 a0 i1 M) := by
  unfold f_J7_copyOf_9075b_0
  refine KF.b fun v1 => ?_
  refine KF.i ?_ ?_
  · refine KF.cp (fr_aC hg hM) fun r6 h_r6 g_r6 => ?_
    refine KF.i ?_ KF.n
    exact KF.s g_r6
  · refine KF.cp (fr_aA hg hM) fun r2 h_r2 g_r2 => ?_
    refine KF.b fun v3 => ?_
    refine KF.c (kr_J9_min_7cf53 hg g_r2) fun r4 h_r4 => ?_
    refine KF.w (fr_yI1 hg h_r4) fun M5 h_M5 => ?_
    exact KF.s h_M5
theorem kr_J7_copyOf_9075b {M0 : zM} (hg : KD M0) {a0 : Nat} {i1 : Int32} {M : zM} (hM : FR M0 M) : KF (FR M0) (f_J7_copyOf_9075b a0 i1 M) := by
  unfold f_J7_copyOf_9075b
  exact (kr_J7_copyOf_9075b_0 hg hM)
theorem kr_J5_ensureCapacityInternal_d00df_0 {M0 : zM} (hg : KD M0) {a0 : Nat} {i1 : Int32} {M : zM} (hM : FR M0 M) : KF (FR M0) (f_J5_ensureCapacityInternal_d00df_0 a0 i1 M) := by
  unfold f_J5_ensureCapacityInternal_d00df_0
  refine KF.b fun v1 => ?_
  refine KF.b fun v2 => ?_
  refine KF.b fun v3 => ?_
  refine KF.i ?_ ?_
  · exact KF.s hM
  · refine KF.b fun v4 => ?_
    refine KF.i ?_ KF.n
    refine KF.c (kr_J5_newCapacity_0f7a4 hg hM) fun r5 h_r5 => ?_
    refine KF.b fun v7 => ?_
    refine KF.c (kr_J7_copyOf_9075b hg h_r5) fun r8 h_r8 => ?_
    refine KF.w (fr_pR hg h_r8 rfl (fun q => absurd q (by decide))) fun M9 h_M9 => ?_
    exact KF.s h_M9
theorem kr_J5_ensureCapacityInternal_d00df {M0 : zM} (hg : KD M0) {a0 : Nat} {i1 : Int32} {M : zM} (hM : FR M0 M) : KF (FR M0) (f_J5_ensureCapacityInternal_d00df a0 i1 M) := by
  unfold f_J5_ensureCapacityInternal_d00df
  exact (kr_J5_ensureCapacityInternal_d00df_0 hg hM)
theorem kr_J7_checkLength_df160_0 {M0 : zM} (hg : KD M0) {i0 : Int32} {i1 : Int32} {M : zM} (hM : FR M0 M) : KF (FR M0) (f_J7_checkLength_df160_0 i0 i1 M) := by
  unfold f_J7_checkLength_df160_0
  refine KF.i ?_ KF.n
  exact KF.s hM
theorem kr_J7_checkLength_df160 {M0 : zM} (hg : KD M0) {i0 : Int32} {i1 : Int32} {M : zM} (hM : FR M0 M) : KF (FR M0) (f_J7_checkLength_df160 i0 i1 M) := by
  unfold f_J7_checkLength_df160
  exact (kr_J7_checkLength_df160_0 hg hM)
theorem kr_J7_copyOfRangeByte_39247_0 {M0 : zM} (hg : KD M0) {a0 : Nat} {i1 : Int32} {i2 : Int32} {M : zM} (hM : FR M0 M) : KF (FR M0) (f_J7_copyOfRangeByte_39247_0 a0 i1 i2 M) := by
  unfold f_J7_copyOfRangeByte_39247_0
  refine KF.c (kr_J7_checkLength_df160 hg hM) fun r1 h_r1 => ?_
  refine KF.cp (fr_aA hg h_r1) fun r2 h_r2 g_r2 => ?_
  refine KF.b fun v3 => ?_
  refine KF.c (kr_J9_min_7cf53 hg g_r2) fun r4 h_r4 => ?_
  refine KF.w (fr_yI1 hg h_r4) fun M5 h_M5 => ?_
  exact KF.s h_M5
theorem kr_J7_copyOfRangeByte_39247 {M0 : zM} (hg : KD M0) {a0 : Nat} {i1 : Int32} {i2 : Int32} {M : zM} (hM : FR M0 M) : KF (FR M0) (f_J7_copyOfRangeByte_39247 a0 i1 i2 M) := by
  unfold f_J7_copyOfRangeByte_39247
  exact (kr_J7_copyOfRangeByte_39247_0 hg hM)
theorem kr_J7_copyOfRange_39247_10 {M0 : zM} (hg : KD M0) {a0 : Nat} {i1 : Int32} {i2 : Int32} {M : zM} (hM : FR M0 M) : KF (FR M0) (f_J7_copyOfRange_39247_10 a0 i1 i2 M) := by
  unfold f_J7_copyOfRange_39247_10
  refine KF.c (kr_J7_copyOfRangeByte_39247 hg hM) fun r1 h_r1 => ?_
  exact KF.s h_r1
theorem kr_J7_copyOfRange_39247_0 {M0 : zM} (hg : KD M0) {a0 : Nat} {i1 : Int32} {i2 : Int32} {M : zM} (hM : FR M0 M) : KF (FR M0) (f_J7_copyOfRange_39247_0 a0 i1 i2 M) := by
  unfold f_J7_copyOfRange_39247_0
  refine KF.i ?_ ?_
  · refine KF.b fun v1 => ?_
    refine KF.i ?_ ?_
    · refine KF.cp (fr_aC hg hM) fun r2 h_r2 g_r2 => ?_
      refine KF.i ?_ KF.n
      exact KF.s g_r2
    · exact (kr_J7_copyOfRange_39247_10 hg hM)
  · exact (kr_J7_copyOfRange_39247_10 hg hM)
theorem kr_J7_copyOfRange_39247 {M0 : zM} (hg : KD M0) {a0 : Nat} {i1 : Int32} {i2 : Int32} {M : zM} (hM : FR M0 M) : KF (FR M0) (f_J7_copyOfRange_39247 a0 i1 i2 M) := by
  unfold f_J7_copyOfRange_39247
  exact (kr_J7_copyOfRange_39247_0 hg hM)
theorem kr_J0_init_db425_79 {M0 : zM} (hg : KD M0) {a0 : Nat} {a3 : Nat} {i4 : Int32} {M : zM} (hM : FR M0 M) : KF (FR M0) (f_J0_init_db425_79 a0 a3 i4 M) := by
  unfold f_J0_init_db425_79
  refine KF.w (fr_pZ hg hM rfl) fun M1 h_M1 => ?_
  refine KF.c (kr_J7_copyOfRange_39247 hg h_M1) fun r2 h_r2 => ?_
  refine KF.w (fr_pR hg h_r2 rfl (fun q => absurd q (by decide))) fun M3 h_M3 => ?_
  exact KF.s h_M3
theorem kr_J0_init_db425_0 {M0 : zM} (hg : KD M0) {a0 : Nat} {a1 : Nat} {M : zM} (hM : FR M0 M) : KF (FR M0) (f_J0_init_db425_0 a0 a1 M) := by
  unfold f_J0_init_db425_0
  refine KF.i ?_ KF.n
  refine KF.c (kr_J5_getValue_6d5f1 hg hM) fun r1 h_r1 => ?_
  refine KF.i ?_ KF.n
  refine KF.c (kr_J4_length_8abf5 hg h_r1) fun r3 h_r3 => ?_
  refine KF.i ?_ KF.n
  refine KF.c (kr_J5_isLatin1_aae02 hg h_r3) fun r5 h_r5 => ?_
  refine KF.i ?_ ?_
  · refine KF.i ?_ ?_
    · exact (kr_J0_init_db425_79 hg h_r5)
    · refine KF.b fun v7 => ?_
      refine KF.i ?_ KF.n
      exact (kr_J0_init_db425_79 hg h_r5)
  · refine KF.w (fr_pZ hg h_r5 rfl) fun M10 h_M10 => ?_
    refine KF.c (kr_J7_copyOfRange_39247 hg h_M10) fun r11 h_r11 => ?_
    refine KF.w (fr_pR hg h_r11 rfl (fun q => absurd q (by decide))) fun M12 h_M12 => ?_
    exact KF.s h_M12
theorem kr_J0_init_db425 {M0 : zM} (hg : KD M0) {a0 : Nat} {a1 : Nat} {M : zM} (hM : FR M0 M) : KF (FR M0) (f_J0_init_db425 a0 a1 M) := by
  unfold f_J0_init_db425
  exact (kr_J0_init_db425_0 hg hM)
theorem kr_J0_init_81219_0 {M0 : zM} (hg : KD M0) {a0 : Nat} {a1 : Nat} {M : zM} (hM : FR M0 M) : KF (FR M0) (f_J0_init_81219_0 a0 a1 M) := by
  unfold f_J0_init_81219_0
  refine KF.c (kr_J0_init_db425 hg hM) fun r1 h_r1 => ?_
  exact KF.s h_r1
theorem kr_J0_init_81219 {M0 : zM} (hg : KD M0) {a0 : Nat} {a1 : Nat} {M : zM} (hM : FR M0 M) : KF (FR M0) (f_J0_init_81219 a0 a1 M) := by
  unfold f_J0_init_81219
  exact (kr_J0_init_81219_0 hg hM)
theorem kr_J4_toString_0e30d_0 {M0 : zM} (hg : KD M0) {a0 : Nat} {M : zM} (hM : FR M0 M) : KF (FR M0) (f_J4_toString_0e30d_0 a0 M) := by
  unfold f_J4_toString_0e30d_0
  refine KF.c (kr_J0_init_81219 hg (fr_nO hM)) fun r1 h_r1 => ?_
  exact KF.s h_r1
theorem kr_J4_toString_0e30d {M0 : zM} (hg : KD M0) {a0 : Nat} {M : zM} (hM : FR M0 M) : KF (FR M0) (f_J4_toString_0e30d a0 M) := by
  unfold f_J4_toString_0e30d
  exact (kr_J4_toString_0e30d_0 hg hM)
theorem kr_J0_isLatin1_aae02_0 {M0 : zM} (hg : KD M0) {a0 : Nat} {M : zM} (hM : FR M0 M) : KF (FR M0) (f_J0_isLatin1_aae02_0 a0 M) := by
  unfold f_J0_isLatin1_aae02_0
  refine KF.i ?_ ?_
  · exact KF.s hM
  · refine KF.b fun v1 => ?_
    refine KF.i ?_ ?_
    · exact KF.s hM
    · exact KF.s hM
theorem kr_J0_isLatin1_aae02 {M0 : zM} (hg : KD M0) {a0 : Nat} {M : zM} (hM : FR M0 M) : KF (FR M0) (f_J0_isLatin1_aae02 a0 M) := by
  unfold f_J0_isLatin1_aae02
  exact (kr_J0_isLatin1_aae02_0 hg hM)
theorem kr_J3_checkIndex_8e157_0 {M0 : zM} (hg : KD M0) {i0 : Int32} {i1 : Int32} {M : zM} (hM : FR M0 M) : KF (FR M0) (f_J3_checkIndex_8e157_0 i0 i1 M) := by
  unfold f_J3_checkIndex_8e157_0
  refine KF.i ?_ ?_
  · exact KF.n
  · refine KF.i ?_ KF.n
    exact KF.s hM
theorem kr_J3_checkIndex_8e157 {M0 : zM} (hg : KD M0) {i0 : Int32} {i1 : Int32} {M : zM} (hM : FR M0 M) : KF (FR M0) (f_J3_checkIndex_8e157 i0 i1 M) := by
  unfold f_J3_checkIndex_8e157
  exact (kr_J3_checkIndex_8e157_0 hg hM)
theorem kr_J0_checkIndex_df160_0 {M0 : zM} (hg : KD M0) {i0 : Int32} {i1 : Int32} {M : zM} (hM : FR M0 M) : KF (FR M0) (f_J0_checkIndex_df160_0 i0 i1 M) := by
  unfold f_J0_checkIndex_df160_0
  refine KF.c (kr_J3_checkIndex_8e157 hg hM) fun r1 h_r1 => ?_
  exact KF.s h_r1
theorem kr_J0_checkIndex_df160 {M0 : zM} (hg : KD M0) {i0 : Int32} {i1 : Int32} {M : zM} (hM : FR M0 M) : KF (FR M0) (f_J0_checkIndex_df160 i0 i1 M) := by
  unfold f_J0_checkIndex_df160
  exact (kr_J0_checkIndex_df160_0 hg hM)
theorem kr_J1_charAt_3b067_0 {M0 : zM} (hg : KD M0) {a0 : Nat} {i1 : Int32} {M : zM} (hM : FR M0 M) : KF (FR M0) (f_J1_charAt_3b067_0 a0 i1 M) := by
  unfold f_J1_charAt_3b067_0
  refine KF.b fun v1 => ?_
  refine KF.c (kr_J0_checkIndex_df160 hg hM) fun r2 h_r2 => ?_
  refine KF.b fun v3 => ?_
  refine KF.i ?_ KF.n
  exact KF.s h_r2
theorem kr_J1_charAt_3b067 {M0 : zM} (hg : KD M0) {a0 : Nat} {i1 : Int32} {M : zM} (hM : FR M0 M) : KF (FR M0) (f_J1_charAt_3b067 a0 i1 M) := by
  unfold f_J1_charAt_3b067
  exact (kr_J1_charAt_3b067_0 hg hM)
theorem kr_J0_charAt_5068e_0 {M0 : zM} (hg : KD M0) {a0 : Nat} {i1 : Int32} {M : zM} (hM : FR M0 M) : KF (FR M0) (f_J0_charAt_5068e_0 a0 i1 M) := by
  unfold f_J0_charAt_5068e_0
  refine KF.i ?_ KF.n
  refine KF.c (kr_J0_isLatin1_aae02 hg hM) fun r1 h_r1 => ?_
  refine KF.i ?_ ?_
  · refine KF.b fun v3 => ?_
    exact KF.n
  · refine KF.b fun v4 => ?_
    refine KF.c (kr_J1_charAt_3b067 hg h_r1) fun r5 h_r5 => ?_
    refine KF.i ?_ KF.n
    exact KF.s h_r5
theorem kr_J0_charAt_5068e {M0 : zM} (hg : KD M0) {a0 : Nat} {i1 : Int32} {M : zM} (hM : FR M0 M) : KF (FR M0) (f_J0_charAt_5068e a0 i1 M) := by
  unfold f_J0_charAt_5068e
  exact (kr_J0_charAt_5068e_0 hg hM)
theorem kr_J1_canEncode_fc78d_0 {M0 : zM} (hg : KD M0) {i0 : Int32} {M : zM} (hM : FR M0 M) : KF (FR M0) (f_J1_canEncode_fc78d_0 i0 M) := by
  unfold f_J1_canEncode_fc78d_0
  refine KF.i ?_ ?_
  · exact KF.s hM
  · exact KF.s hM
theorem kr_J1_canEncode_fc78d {M0 : zM} (hg : KD M0) {i0 : Int32} {M : zM} (hM : FR M0 M) : KF (FR M0) (f_J1_canEncode_fc78d i0 M) := by
  unfold f_J1_canEncode_fc78d
  exact (kr_J1_canEncode_fc78d_0 hg hM)
theorem kr_J5_append_3fe6f_56 {M0 : zM} (hg : KD M0) {a0 : Nat} {i1 : Int32} {M : zM} (hM : FR M0 M) : KF (FR M0) (f_J5_append_3fe6f_56 a0 i1 M) := by
  unfold f_J5_append_3fe6f_56
  refine KF.b fun v1 => ?_
  refine KF.b fun v2 => ?_
  refine KF.w (fr_pI hg hM rfl) fun M3 h_M3 => ?_
  exact KF.n
theorem kr_J5_append_3fe6f_45 {M0 : zM} (hg : KD M0) {a0 : Nat} {i1 : Int32} {M : zM} (hM : FR M0 M) : KF (FR M0) (f_J5_append_3fe6f_45 a0 i1 M) := by
  unfold f_J5_append_3fe6f_45
  refine KF.i ?_ KF.n
  refine KF.c (kr_J5_isLatin1_aae02 hg hM) fun r1 h_r1 => ?_
  refine KF.i ?_ KF.n
  exact (kr_J5_append_3fe6f_56 hg h_r1)
theorem kr_J5_append_3fe6f_0 {M0 : zM} (hg : KD M0) {a0 : Nat} {i1 : Int32} {M : zM} (hM : FR M0 M) : KF (FR M0) (f_J5_append_3fe6f_0 a0 i1 M) := by
  unfold f_J5_append_3fe6f_0
  refine KF.b fun v1 => ?_
  refine KF.i ?_ KF.n
  refine KF.c (kr_J5_ensureCapacityInternal_d00df hg hM) fun r2 h_r2 => ?_
  refine KF.i ?_ KF.n
  refine KF.c (kr_J5_isLatin1_aae02 hg h_r2) fun r4 h_r4 => ?_
  refine KF.i ?_ ?_
  · exact (kr_J5_append_3fe6f_45 hg h_r4)
  · refine KF.c (kr_J1_canEncode_fc78d hg h_r4) fun r6 h_r6 => ?_
    refine KF.i ?_ ?_
    · exact (kr_J5_append_3fe6f_45 hg h_r6)
    · refine KF.b fun v7 => ?_
      refine KF.b fun v8 => ?_
      refine KF.w (fr_pI hg h_r6 rfl) fun M9 h_M9 => ?_
      refine KF.w (fr_tB hg h_M9) fun M10 h_M10 => ?_
      exact KF.s h_M10
theorem kr_J5_append_3fe6f {M0 : zM} (hg : KD M0) {a0 : Nat} {i1 : Int32} {M : zM} (hM : FR M0 M) : KF (FR M0) (f_J5_append_3fe6f a0 i1 M) := by
  unfold f_J5_append_3fe6f
  exact (kr_J5_append_3fe6f_0 hg hM)
theorem kr_J4_append_cf468_0 {M0 : zM} (hg : KD M0) {a0 : Nat} {i1 : Int32} {M : zM} (hM : FR M0 M) : KF (FR M0) (f_J4_append_cf468_0 a0 i1 M) := by
  unfold f_J4_append_cf468_0
  refine KF.i ?_ KF.n
  refine KF.c (kr_J5_append_3fe6f hg hM) fun r1 h_r1 => ?_
  exact KF.s h_r1
theorem kr_J4_append_cf468 {M0 : zM} (hg : KD M0) {a0 : Nat} {i1 : Int32} {M : zM} (hM : FR M0 M) : KF (FR M0) (f_J4_append_cf468 a0 i1 M) := by
  unfold f_J4_append_cf468
  exact (kr_J4_append_cf468_0 hg hM)
theorem kr_X5_init_0 {M0 : zM} (hg : KD M0) {a0 : Nat} {i1 : Int32} {i2 : Int32} {M : zM} (hM : FR M0 M) : KF (FR M0) (f_X5_init_0 a0 i1 i2 M) := by
  unfold f_X5_init_0
  refine KF.w (fr_pI hg hM rfl) fun M1 h_M1 => ?_
  refine KF.w (fr_pI hg h_M1 rfl) fun M2 h_M2 => ?_
  exact KF.s h_M2
theorem kr_X5_init {M0 : zM} (hg : KD M0) {a0 : Nat} {i1 : Int32} {i2 : Int32} {M : zM} (hM : FR M0 M) : KF (FR M0) (f_X5_init a0 i1 i2 M) := by
  unfold f_X5_init
  exact (kr_X5_init_0 hg hM)
theorem kr_X5_isOpen_0 {M0 : zM} (hg : KD M0) {a0 : Nat} {M : zM} (hM : FR M0 M) : KF (FR M0) (f_X5_isOpen_0 a0 M) := by
  unfold f_X5_isOpen_0
  refine KF.b fun v1 => ?_
  refine KF.i ?_ ?_
  · exact KF.s hM
  · exact KF.s hM
theorem kr_X5_isOpen {M0 : zM} (hg : KD M0) {a0 : Nat} {M : zM} (hM : FR M0 M) : KF (FR M0) (f_X5_isOpen a0 M) := by
  unfold f_X5_isOpen
  exact (kr_X5_isOpen_0 hg hM)
theorem kr_X7_isIn_0 {M0 : zM} (hg : KD M0) {i0 : Int32} {i1 : Int32} {i2 : Int32} {M : zM} (hM : FR M0 M) : KF (FR M0) (f_X7_isIn_0 i0 i1 i2 M) := by
  unfold f_X7_isIn_0
  refine KF.i ?_ ?_
  · exact KF.s hM
  · refine KF.i ?_ ?_
    · exact KF.s hM
    · exact KF.s hM
theorem kr_X7_isIn {M0 : zM} (hg : KD M0) {i0 : Int32} {i1 : Int32} {i2 : Int32} {M : zM} (hM : FR M0 M) : KF (FR M0) (f_X7_isIn i0 i1 i2 M) := by
  unfold f_X7_isIn
  exact (kr_X7_isIn_0 hg hM)
theorem kr_X5_of_0 {M0 : zM} (hg : KD M0) {a0 : Nat} {i1 : Int32} {M : zM} (hM : FR M0 M) : KF (FR M0) (f_X5_of_0 a0 i1 M) := by
  unfold f_X5_of_0
  refine KF.b fun v1 => ?_
  refine KF.i ?_ ?_
  · refine KF.b fun v6 => ?_
    refine KF.b fun v7 => ?_
    refine KF.c (kr_X7_isIn hg hM) fun r8 h_r8 => ?_
    refine KF.i ?_ ?_
    · exact KF.s h_r8
    · exact KF.s h_r8
  · refine KF.b fun v2 => ?_
    refine KF.i ?_ ?_
    · refine KF.b fun v3 => ?_
      refine KF.i ?_ ?_
      · exact KF.s hM
      · exact KF.s hM
    · exact KF.s hM
theorem kr_X5_of {M0 : zM} (hg : KD M0) {a0 : Nat} {i1 : Int32} {M : zM} (hM : FR M0 M) : KF (FR M0) (f_X5_of a0 i1 M) := by
  unfold f_X5_of
  exact (kr_X5_of_0 hg hM)
theorem kr_Jx4a65c_clear_da8c8_27 {M0 : zM} (hg : KD M0) : ∀ (n : Nat) {a1 : Nat} {i2 : Int32} {i3 : Int32} {M : zM}, FR M0 M → KF (FR M0) (f_Jx4a65c_clear_da8c8_27 n a1 i2 i3 M) := by
  intro n
  induction n with
  | zero => exact fun _ => KF.n
  | succ n ih =>
    intro a1 i2 i3 M hM
    rw [f_Jx4a65c_clear_da8c8_27]
    refine KF.i ?_ ?_
    · exact KF.s hM
    · refine KF.w (fr_tQ hg hM rfl) fun M1 h_M1 => ?_
      exact (ih h_M1)
theorem kr_Jx4a65c_clear_da8c8_0 {M0 : zM} (hg : KD M0) {a0 : Nat} {M : zM} (hM : FR M0 M) : KF (FR M0) (f_Jx4a65c_clear_da8c8_0 a0 M) := by
  unfold f_Jx4a65c_clear_da8c8_0
  refine KF.b fun v1 => ?_
  refine KF.w (fr_pI hg hM rfl) fun M2 h_M2 => ?_
  refine KF.b fun v3 => ?_
  refine KF.b fun v4 => ?_
  refine KF.w (fr_pI hg h_M2 rfl) fun M5 h_M5 => ?_
  exact (kr_Jx4a65c_clear_da8c8_27 hg zN h_M5)
theorem kr_Jx4a65c_clear_da8c8 {M0 : zM} (hg : KD M0) {a0 : Nat} {M : zM} (hM : FR M0 M) : KF (FR M0) (f_Jx4a65c_clear_da8c8 a0 M) := by
  unfold f_Jx4a65c_clear_da8c8
  exact (kr_Jx4a65c_clear_da8c8_0 hg hM)
theorem kr_X6_begin_0 {M0 : zM} (hg : KD M0) {a0 : Nat} {M : zM} (hM : FR M0 M) : KF (FR M0) (f_X6_begin_0 a0 M) := by
  unfold f_X6_begin_0
  refine KF.cp (fr_aA hg hM) fun r1 h_r1 g_r1 => ?_
  refine KF.w (fr_pR hg g_r1 rfl (fun _ => h_r1)) fun M2 h_M2 => ?_
  refine KF.b fun v3 => ?_
  refine KF.i ?_ KF.n
  refine KF.c (kr_Jx4a65c_clear_da8c8 hg h_M2) fun r4 h_r4 => ?_
  refine KF.b fun v6 => ?_
  refine KF.i ?_ KF.n
  refine KF.c (kr_Jx4a65c_clear_da8c8 hg h_r4) fun r7 h_r7 => ?_
  refine KF.w (fr_pJ hg h_r7 rfl) fun M9 h_M9 => ?_
  refine KF.w (fr_pZ hg h_M9 rfl) fun M10 h_M10 => ?_
  exact KF.s h_M10
theorem kr_X6_begin {M0 : zM} (hg : KD M0) {a0 : Nat} {M : zM} (hM : FR M0 M) : KF (FR M0) (f_X6_begin a0 M) := by
  unfold f_X6_begin
  exact (kr_X6_begin_0 hg hM)
theorem kr_X6_tiles_13 {M0 : zM} (hg : KD M0) : ∀ (n : Nat) {i1 : Int32} {a2 : Nat} {i3 : Int32} {i4 : Int32} {M : zM}, FR M0 M → KF (FR M0) (f_X6_tiles_13 n i1 a2 i3 i4 M) := by
  intro n
  induction n with
  | zero => exact fun _ => KF.n
  | succ n ih =>
    intro i1 a2 i3 i4 M hM
    rw [f_X6_tiles_13]
    refine KF.i ?_ ?_
    · exact KF.s hM
    · refine KF.b fun v1 => ?_
      exact (ih hM)
theorem kr_X6_tiles_0 {M0 : zM} (hg : KD M0) {a0 : Nat} {M : zM} (hM : FR M0 M) : KF (FR M0) (f_X6_tiles_0 a0 M) := by
  unfold f_X6_tiles_0
  refine KF.p (fr_gRh hM) fun v1 h_v1 => ?_
  refine KF.b fun v2 => ?_
  exact (kr_X6_tiles_13 hg zN hM)
theorem kr_X6_tiles {M0 : zM} (hg : KD M0) {a0 : Nat} {M : zM} (hM : FR M0 M) : KF (FR M0) (f_X6_tiles a0 M) := by
  unfold f_X6_tiles
  exact (kr_X6_tiles_0 hg hM)
theorem kr_Jx4a65c_size_8abf5_0 {M0 : zM} (hg : KD M0) {a0 : Nat} {M : zM} (hM : FR M0 M) : KF (FR M0) (f_Jx4a65c_size_8abf5_0 a0 M) := by
  unfold f_Jx4a65c_size_8abf5_0
  refine KF.b fun v1 => ?_
  exact KF.s hM
theorem kr_Jx4a65c_size_8abf5 {M0 : zM} (hg : KD M0) {a0 : Nat} {M : zM} (hM : FR M0 M) : KF (FR M0) (f_Jx4a65c_size_8abf5 a0 M) := by
  unfold f_Jx4a65c_size_8abf5
  exact (kr_Jx4a65c_size_8abf5_0 hg hM)
theorem kr_X6_hasTooMany_0 {M0 : zM} (hg : KD M0) {a0 : Nat} {M : zM} (hM : FR M0 M) : KF (FR M0) (f_X6_hasTooMany_0 a0 M) := by
  unfold f_X6_hasTooMany_0
  refine KF.i ?_ KF.n
  refine KF.c (kr_X6_tiles hg hM) fun r1 h_r1 => ?_
  refine KF.b fun v3 => ?_
  refine KF.i ?_ KF.n
  refine KF.c (kr_Jx4a65c_size_8abf5 hg h_r1) fun r4 h_r4 => ?_
  refine KF.i ?_ ?_
  · exact KF.s h_r4
  · exact KF.s h_r4
theorem kr_X6_hasTooMany {M0 : zM} (hg : KD M0) {a0 : Nat} {M : zM} (hM : FR M0 M) : KF (FR M0) (f_X6_hasTooMany a0 M) := by
  unfold f_X6_hasTooMany
  exact (kr_X6_hasTooMany_0 hg hM)
theorem kr_Jx35411_hasNext_aae02_0 {M0 : zM} (hg : KD M0) {a0 : Nat} {M : zM} (hM : FR M0 M) : KF (FR M0) (f_Jx35411_hasNext_aae02_0 a0 M) := by
  unfold f_Jx35411_hasNext_aae02_0
  refine KF.b fun v1 => ?_
  refine KF.b fun v2 => ?_
  refine KF.b fun v3 => ?_
  refine KF.i ?_ ?_
  · exact KF.s hM
  · exact KF.s hM
theorem kr_Jx35411_hasNext_aae02 {M0 : zM} (hg : KD M0) {a0 : Nat} {M : zM} (hM : FR M0 M) : KF (FR M0) (f_Jx35411_hasNext_aae02 a0 M) := by
  unfold f_Jx35411_hasNext_aae02
  exact (kr_Jx35411_hasNext_aae02_0 hg hM)
theorem kr_Jx35411_checkForComodification_da8c8_0 {M0 : zM} (hg : KD M0) {a0 : Nat} {M : zM} (hM : FR M0 M) : KF (FR M0) (f_Jx35411_checkForComodification_da8c8_0 a0 M) := by
  unfold f_Jx35411_checkForComodification_da8c8_0
  refine KF.b fun v1 => ?_
  refine KF.b fun v2 => ?_
  refine KF.b fun v3 => ?_
  refine KF.i ?_ KF.n
  exact KF.s hM
theorem kr_Jx35411_checkForComodification_da8c8 {M0 : zM} (hg : KD M0) {a0 : Nat} {M : zM} (hM : FR M0 M) : KF (FR M0) (f_Jx35411_checkForComodification_da8c8 a0 M) := by
  unfold f_Jx35411_checkForComodification_da8c8
  exact (kr_Jx35411_checkForComodification_da8c8_0 hg hM)
theorem kr_Jx35411_next_0502b_0 {M0 : zM} (hg : KD M0) {a0 : Nat} {M : zM} (hM : FR M0 M) : KF (FR M0) (f_Jx35411_next_0502b_0 a0 M) := by
  unfold f_Jx35411_next_0502b_0
  refine KF.i ?_ KF.n
  refine KF.c (kr_Jx35411_checkForComodification_da8c8 hg hM) fun r1 h_r1 => ?_
  refine KF.b fun v3 => ?_
  refine KF.b fun v4 => ?_
  refine KF.b fun v5 => ?_
  refine KF.i ?_ KF.n
  refine KF.b fun v6 => ?_
  refine KF.b fun v7 => ?_
  refine KF.b fun v8 => ?_
  refine KF.i ?_ KF.n
  refine KF.w (fr_pI hg h_r1 rfl) fun M9 h_M9 => ?_
  refine KF.w (fr_pI hg h_M9 rfl) fun M10 h_M10 => ?_
  refine KF.b fun v11 => ?_
  exact KF.s h_M10
theorem kr_Jx35411_next_0502b {M0 : zM} (hg : KD M0) {a0 : Nat} {M : zM} (hM : FR M0 M) : KF (FR M0) (f_Jx35411_next_0502b a0 M) := by
  unfold f_Jx35411_next_0502b
  exact (kr_Jx35411_next_0502b_0 hg hM)
theorem kr_Jx35411_init_45d68_0 {M0 : zM} (hg : KD M0) {a0 : Nat} {a1 : Nat} {M : zM} (hM : FR M0 M) : KF (FR M0) (f_Jx35411_init_45d68_0 a0 a1 M) := by
  unfold f_Jx35411_init_45d68_0
  refine KF.w (fr_pR hg hM rfl (fun q => absurd q (by decide))) fun M1 h_M1 => ?_
  refine KF.w (fr_pI hg h_M1 rfl) fun M2 h_M2 => ?_
  refine KF.b fun v3 => ?_
  refine KF.b fun v4 => ?_
  refine KF.w (fr_pI hg h_M2 rfl) fun M5 h_M5 => ?_
  exact KF.s h_M5
theorem kr_Jx35411_init_45d68 {M0 : zM} (hg : KD M0) {a0 : Nat} {a1 : Nat} {M : zM} (hM : FR M0 M) : KF (FR M0) (f_Jx35411_init_45d68 a0 a1 M) := by
  unfold f_Jx35411_init_45d68
  exact (kr_Jx35411_init_45d68_0 hg hM)
theorem kr_Jx4a65c_iterator_32c93_0 {M0 : zM} (hg : KD M0) {a0 : Nat} {M : zM} (hM : FR M0 M) : KF (FR M0) (f_Jx4a65c_iterator_32c93_0 a0 M) := by
  unfold f_Jx4a65c_iterator_32c93_0
  refine KF.c (kr_Jx35411_init_45d68 hg (fr_nO hM)) fun r1 h_r1 => ?_
  exact KF.s h_r1
theorem kr_Jx4a65c_iterator_32c93 {M0 : zM} (hg : KD M0) {a0 : Nat} {M : zM} (hM : FR M0 M) : KF (FR M0) (f_Jx4a65c_iterator_32c93 a0 M) := by
  unfold f_Jx4a65c_iterator_32c93
  exact (kr_Jx4a65c_iterator_32c93_0 hg hM)
theorem kr_X6_open_10 {M0 : zM} (hg : KD M0) : ∀ (n : Nat) {i1 : Int32} {a2 : Nat} {M : zM}, FR M0 M → KF (FR M0) (f_X6_open_10 n i1 a2 M) := by
  intro n
  induction n with
  | zero => exact fun _ => KF.n
  | succ n ih =>
    intro i1 a2 M hM
    rw [f_X6_open_10]
    refine KF.i ?_ KF.n
    refine KF.c (kr_Jx35411_hasNext_aae02 hg hM) fun r1 h_r1 => ?_
    refine KF.i ?_ ?_
    · exact KF.s h_r1
    · refine KF.i ?_ KF.n
      refine KF.c (kr_Jx35411_next_0502b hg h_r1) fun r3 h_r3 => ?_
      refine KF.i ?_ KF.n
      refine KF.i ?_ KF.n
      refine KF.c (kr_X5_isOpen hg h_r3) fun r6 h_r6 => ?_
      refine KF.i ?_ ?_
      · exact (ih h_r6)
      · exact (ih h_r6)
theorem kr_X6_open_0 {M0 : zM} (hg : KD M0) {a0 : Nat} {M : zM} (hM : FR M0 M) : KF (FR M0) (f_X6_open_0 a0 M) := by
  unfold f_X6_open_0
  refine KF.b fun v1 => ?_
  refine KF.i ?_ KF.n
  refine KF.c (kr_Jx4a65c_iterator_32c93 hg hM) fun r2 h_r2 => ?_
  exact (kr_X6_open_10 hg zN h_r2)
theorem kr_X6_open {M0 : zM} (hg : KD M0) {a0 : Nat} {M : zM} (hM : FR M0 M) : KF (FR M0) (f_X6_open a0 M) := by
  unfold f_X6_open
  exact (kr_X6_open_0 hg hM)
theorem kr_X7_isRun_0 {M0 : zM} (hg : KD M0) {i0 : Int32} {i1 : Int32} {M : zM} (hM : FR M0 M) : KF (FR M0) (f_X7_isRun_0 i0 i1 M) := by
  unfold f_X7_isRun_0
  refine KF.i ?_ ?_
  · exact KF.s hM
  · refine KF.i ?_ ?_
    · exact KF.s hM
    · refine KF.i ?_ ?_
      · exact KF.s hM
      · exact KF.s hM
theorem kr_X7_isRun {M0 : zM} (hg : KD M0) {i0 : Int32} {i1 : Int32} {M : zM} (hM : FR M0 M) : KF (FR M0) (f_X7_isRun i0 i1 M) := by
  unfold f_X7_isRun
  exact (kr_X7_isRun_0 hg hM)
theorem kr_X7_with_77 {M0 : zM} (hg : KD M0) {RC_X7_far : Nat → Int32 → Int32 → Int32 → Int32 → zM → Option (Int32 × zM)} (hRC_X7_far : ∀ {x0 : Nat} {x1 : Int32} {x2 : Int32} {x3 : Int32} {x4 : Int32} {M : zM}, hi x0 → FR M0 M → KF (FR M0) (RC_X7_far x0 x1 x2 x3 x4 M)) {a0 : Nat} {i1 : Int32} {i2 : Int32} {i3 : Int32} {i_0 : Int32} {M : zM} (h_a0 : hi a0) (hM : FR M0 M) : KF (FR M0) (f_X7_with_77 RC_X7_far a0 i1 i2 i3 i_0 M) := by
  unfold f_X7_with_77
  refine KF.b fun v1 => ?_
  refine KF.w (fr_tA hM h_a0) fun M2 h_M2 => ?_
  refine KF.b fun v3 => ?_
  refine KF.w (fr_tA h_M2 h_a0) fun M4 h_M4 => ?_
  refine KF.i ?_ ?_
  · exact KF.s h_M4
  · refine KF.b fun v5 => ?_
    refine KF.w (fr_tA h_M4 h_a0) fun M6 h_M6 => ?_
    exact KF.s h_M6
theorem kr_X7_with_54 {M0 : zM} (hg : KD M0) {RC_X7_far : Nat → Int32 → Int32 → Int32 → Int32 → zM → Option (Int32 × zM)} (hRC_X7_far : ∀ {x0 : Nat} {x1 : Int32} {x2 : Int32} {x3 : Int32} {x4 : Int32} {M : zM}, hi x0 → FR M0 M → KF (FR M0) (RC_X7_far x0 x1 x2 x3 x4 M)) {a0 : Nat} {i1 : Int32} {i2 : Int32} {i3 : Int32} {i4 : Int32} {i5 : Int32} {i6 : Int32} {i_0 : Int32} {M : zM} (h_a0 : hi a0) (hM : FR M0 M) : KF (FR M0) (f_X7_with_54 RC_X7_far a0 i1 i2 i3 i4 i5 i6 i_0 M) := by
  unfold f_X7_with_54
  refine KF.i ?_ ?_
  · exact (kr_X7_with_77 hg hRC_X7_far h_a0 hM)
  · refine KF.c (hRC_X7_far h_a0 hM) fun r1 h_r1 => ?_
    exact (kr_X7_with_77 hg hRC_X7_far h_a0 h_r1)
theorem kr_X7_with_53 {M0 : zM} (hg : KD M0) {RC_X7_far : Nat → Int32 → Int32 → Int32 → Int32 → zM → Option (Int32 × zM)} (hRC_X7_far : ∀ {x0 : Nat} {x1 : Int32} {x2 : Int32} {x3 : Int32} {x4 : Int32} {M : zM}, hi x0 → FR M0 M → KF (FR M0) (RC_X7_far x0 x1 x2 x3 x4 M)) {a0 : Nat} {i1 : Int32} {i2 : Int32} {i3 : Int32} {i4 : Int32} {i5 : Int32} {i6 : Int32} {M : zM} (h_a0 : hi a0) (hM : FR M0 M) : KF (FR M0) (f_X7_with_53 RC_X7_far a0 i1 i2 i3 i4 i5 i6 M) := by
  unfold f_X7_with_53
  exact (kr_X7_with_54 hg hRC_X7_far h_a0 hM)
theorem kr_X7_with_49 {M0 : zM} (hg : KD M0) {RC_X7_far : Nat → Int32 → Int32 → Int32 → Int32 → zM → Option (Int32 × zM)} (hRC_X7_far : ∀ {x0 : Nat} {x1 : Int32} {x2 : Int32} {x3 : Int32} {x4 : Int32} {M : zM}, hi x0 → FR M0 M → KF (FR M0) (RC_X7_far x0 x1 x2 x3 x4 M)) {a0 : Nat} {i1 : Int32} {i2 : Int32} {i3 : Int32} {i4 : Int32} {i5 : Int32} {i6 : Int32} {M : zM} (h_a0 : hi a0) (hM : FR M0 M) : KF (FR M0) (f_X7_with_49 RC_X7_far a0 i1 i2 i3 i4 i5 i6 M) := by
  unfold f_X7_with_49
  exact (kr_X7_with_54 hg hRC_X7_far h_a0 hM)
theorem kr_X7_with_26 {M0 : zM} (hg : KD M0) {RC_X7_far : Nat → Int32 → Int32 → Int32 → Int32 → zM → Option (Int32 × zM)} (hRC_X7_far : ∀ {x0 : Nat} {x1 : Int32} {x2 : Int32} {x3 : Int32} {x4 : Int32} {M : zM}, hi x0 → FR M0 M → KF (FR M0) (RC_X7_far x0 x1 x2 x3 x4 M)) {a0 : Nat} {i1 : Int32} {i2 : Int32} {i3 : Int32} {i4 : Int32} {i5 : Int32} {i6 : Int32} {M : zM} (h_a0 : hi a0) (hM : FR M0 M) : KF (FR M0) (f_X7_with_26 RC_X7_far a0 i1 i2 i3 i4 i5 i6 M) := by
  unfold f_X7_with_26
  refine KF.b fun v1 => ?_
  refine KF.i ?_ ?_
  · exact (kr_X7_with_53 hg hRC_X7_far h_a0 hM)
  · refine KF.b fun v2 => ?_
    refine KF.i ?_ ?_
    · exact (kr_X7_with_53 hg hRC_X7_far h_a0 hM)
    · refine KF.i ?_ ?_
      · exact (kr_X7_with_49 hg hRC_X7_far h_a0 hM)
      · refine KF.b fun v3 => ?_
        refine KF.i ?_ ?_
        · exact (kr_X7_with_53 hg hRC_X7_far h_a0 hM)
        · exact (kr_X7_with_49 hg hRC_X7_far h_a0 hM)
theorem kr_X7_with_0 {M0 : zM} (hg : KD M0) {RC_X7_far : Nat → Int32 → Int32 → Int32 → Int32 → zM → Option (Int32 × zM)} (hRC_X7_far : ∀ {x0 : Nat} {x1 : Int32} {x2 : Int32} {x3 : Int32} {x4 : Int32} {M : zM}, hi x0 → FR M0 M → KF (FR M0) (RC_X7_far x0 x1 x2 x3 x4 M)) {a0 : Nat} {i1 : Int32} {i2 : Int32} {i3 : Int32} {i4 : Int32} {i5 : Int32} {i6 : Int32} {M : zM} (h_a0 : hi a0) (hM : FR M0 M) : KF (FR M0) (f_X7_with_0 RC_X7_far a0 i1 i2 i3 i4 i5 i6 M) := by
  unfold f_X7_with_0
  refine KF.b fun v1 => ?_
  refine KF.w (fr_tA hM h_a0) fun M2 h_M2 => ?_
  refine KF.b fun v3 => ?_
  refine KF.w (fr_tA h_M2 h_a0) fun M4 h_M4 => ?_
  refine KF.i ?_ ?_
  · exact (kr_X7_with_26 hg hRC_X7_far h_a0 h_M4)
  · refine KF.b fun v5 => ?_
    refine KF.w (fr_tA h_M4 h_a0) fun M6 h_M6 => ?_
    exact (kr_X7_with_26 hg hRC_X7_far h_a0 h_M6)
theorem kr_X7_with {M0 : zM} (hg : KD M0) {RC_X7_far : Nat → Int32 → Int32 → Int32 → Int32 → zM → Option (Int32 × zM)} (hRC_X7_far : ∀ {x0 : Nat} {x1 : Int32} {x2 : Int32} {x3 : Int32} {x4 : Int32} {M : zM}, hi x0 → FR M0 M → KF (FR M0) (RC_X7_far x0 x1 x2 x3 x4 M)) {a0 : Nat} {i1 : Int32} {i2 : Int32} {i3 : Int32} {i4 : Int32} {i5 : Int32} {i6 : Int32} {M : zM} (h_a0 : hi a0) (hM : FR M0 M) : KF (FR M0) (f_X7_with RC_X7_far a0 i1 i2 i3 i4 i5 i6 M) := by
  unfold f_X7_with
  exact (kr_X7_with_0 hg hRC_X7_far h_a0 hM)
theorem kr_X7_far_251 {M0 : zM} (hg : KD M0) {RC_X7_far : Nat → Int32 → Int32 → Int32 → Int32 → zM → Option (Int32 × zM)} (hRC_X7_far : ∀ {x0 : Nat} {x1 : Int32} {x2 : Int32} {x3 : Int32} {x4 : Int32} {M : zM}, hi x0 → FR M0 M → KF (FR M0) (RC_X7_far x0 x1 x2 x3 x4 M)) {a0 : Nat} {i2 : Int32} {i3 : Int32} {i4 : Int32} {i5 : Int32} {i6 : Int32} {M : zM} (h_a0 : hi a0) (hM : FR M0 M) : KF (FR M0) (f_X7_far_251 RC_X7_far a0 i2 i3 i4 i5 i6 M) := by
  unfold f_X7_far_251
  refine KF.b fun v1 => ?_
  refine KF.w (fr_tA hM h_a0) fun M2 h_M2 => ?_
  refine KF.c (hRC_X7_far h_a0 h_M2) fun r3 h_r3 => ?_
  refine KF.c (kr_J9_min_7cf53 hg h_r3) fun r4 h_r4 => ?_
  refine KF.b fun v5 => ?_
  refine KF.w (fr_tA h_r4 h_a0) fun M6 h_M6 => ?_
  exact KF.s h_M6
theorem kr_X7_far_227 {M0 : zM} (hg : KD M0) {RC_X7_far : Nat → Int32 → Int32 → Int32 → Int32 → zM → Option (Int32 × zM)} (hRC_X7_far : ∀ {x0 : Nat} {x1 : Int32} {x2 : Int32} {x3 : Int32} {x4 : Int32} {M : zM}, hi x0 → FR M0 M → KF (FR M0) (RC_X7_far x0 x1 x2 x3 x4 M)) {a0 : Nat} {i2 : Int32} {i3 : Int32} {i4 : Int32} {i5 : Int32} {i6 : Int32} {M : zM} (h_a0 : hi a0) (hM : FR M0 M) : KF (FR M0) (f_X7_far_227 RC_X7_far a0 i2 i3 i4 i5 i6 M) := by
  unfold f_X7_far_227
  refine KF.i ?_ ?_
  · refine KF.c (kr_X7_with hg hRC_X7_far h_a0 hM) fun r1 h_r1 => ?_
    refine KF.c (kr_J9_min_7cf53 hg h_r1) fun r2 h_r2 => ?_
    exact (kr_X7_far_251 hg hRC_X7_far h_a0 h_r2)
  · exact (kr_X7_far_251 hg hRC_X7_far h_a0 hM)
theorem kr_X7_far_194 {M0 : zM} (hg : KD M0) {RC_X7_far : Nat → Int32 → Int32 → Int32 → Int32 → zM → Option (Int32 × zM)} (hRC_X7_far : ∀ {x0 : Nat} {x1 : Int32} {x2 : Int32} {x3 : Int32} {x4 : Int32} {M : zM}, hi x0 → FR M0 M → KF (FR M0) (RC_X7_far x0 x1 x2 x3 x4 M)) {a0 : Nat} {i2 : Int32} {i3 : Int32} {i4 : Int32} {i5 : Int32} {i6 : Int32} {M : zM} (h_a0 : hi a0) (hM : FR M0 M) : KF (FR M0) (f_X7_far_194 RC_X7_far a0 i2 i3 i4 i5 i6 M) := by
  unfold f_X7_far_194
  refine KF.c (kr_X7_isRun hg hM) fun r1 h_r1 => ?_
  refine KF.i ?_ ?_
  · exact (kr_X7_far_227 hg hRC_X7_far h_a0 h_r1)
  · refine KF.c (kr_X7_with hg hRC_X7_far h_a0 h_r1) fun r2 h_r2 => ?_
    refine KF.c (kr_J9_min_7cf53 hg h_r2) fun r3 h_r3 => ?_
    exact (kr_X7_far_227 hg hRC_X7_far h_a0 h_r3)
theorem kr_X7_far_132 {M0 : zM} (hg : KD M0) {RC_X7_far : Nat → Int32 → Int32 → Int32 → Int32 → zM → Option (Int32 × zM)} (hRC_X7_far : ∀ {x0 : Nat} {x1 : Int32} {x2 : Int32} {x3 : Int32} {x4 : Int32} {M : zM}, hi x0 → FR M0 M → KF (FR M0) (RC_X7_far x0 x1 x2 x3 x4 M)) {a0 : Nat} {i2 : Int32} {i3 : Int32} {i4 : Int32} {i5 : Int32} {i6 : Int32} {M : zM} (h_a0 : hi a0) (hM : FR M0 M) : KF (FR M0) (f_X7_far_132 RC_X7_far a0 i2 i3 i4 i5 i6 M) := by
  unfold f_X7_far_132
  refine KF.i ?_ ?_
  · exact (kr_X7_far_227 hg hRC_X7_far h_a0 hM)
  · refine KF.c (kr_X7_with hg hRC_X7_far h_a0 hM) fun r1 h_r1 => ?_
    refine KF.c (kr_J9_min_7cf53 hg h_r1) fun r2 h_r2 => ?_
    refine KF.c (kr_X7_isRun hg h_r2) fun r3 h_r3 => ?_
    refine KF.i ?_ ?_
    · exact (kr_X7_far_194 hg hRC_X7_far h_a0 h_r3)
    · refine KF.c (kr_X7_with hg hRC_X7_far h_a0 h_r3) fun r4 h_r4 => ?_
      refine KF.c (kr_J9_min_7cf53 hg h_r4) fun r5 h_r5 => ?_
      exact (kr_X7_far_194 hg hRC_X7_far h_a0 h_r5)
theorem kr_X7_far_59 {M0 : zM} (hg : KD M0) {RC_X7_far : Nat → Int32 → Int32 → Int32 → Int32 → zM → Option (Int32 × zM)} (hRC_X7_far : ∀ {x0 : Nat} {x1 : Int32} {x2 : Int32} {x3 : Int32} {x4 : Int32} {M : zM}, hi x0 → FR M0 M → KF (FR M0) (RC_X7_far x0 x1 x2 x3 x4 M)) {a0 : Nat} {i2 : Int32} {i3 : Int32} {i4 : Int32} {i5 : Int32} {i6 : Int32} {M : zM} (h_a0 : hi a0) (hM : FR M0 M) : KF (FR M0) (f_X7_far_59 RC_X7_far a0 i2 i3 i4 i5 i6 M) := by
  unfold f_X7_far_59
  refine KF.i ?_ ?_
  · exact (kr_X7_far_132 hg hRC_X7_far h_a0 hM)
  · refine KF.i ?_ ?_
    · exact (kr_X7_far_132 hg hRC_X7_far h_a0 hM)
    · refine KF.c (kr_X7_with hg hRC_X7_far h_a0 hM) fun r1 h_r1 => ?_
      refine KF.c (kr_J9_min_7cf53 hg h_r1) fun r2 h_r2 => ?_
      refine KF.c (kr_X7_isRun hg h_r2) fun r3 h_r3 => ?_
      refine KF.i ?_ ?_
      · exact (kr_X7_far_132 hg hRC_X7_far h_a0 h_r3)
      · refine KF.c (kr_X7_with hg hRC_X7_far h_a0 h_r3) fun r4 h_r4 => ?_
        refine KF.c (kr_J9_min_7cf53 hg h_r4) fun r5 h_r5 => ?_
        exact (kr_X7_far_132 hg hRC_X7_far h_a0 h_r5)
theorem kr_X7_far_23 {M0 : zM} (hg : KD M0) {RC_X7_far : Nat → Int32 → Int32 → Int32 → Int32 → zM → Option (Int32 × zM)} (hRC_X7_far : ∀ {x0 : Nat} {x1 : Int32} {x2 : Int32} {x3 : Int32} {x4 : Int32} {M : zM}, hi x0 → FR M0 M → KF (FR M0) (RC_X7_far x0 x1 x2 x3 x4 M)) {a0 : Nat} {i2 : Int32} {i3 : Int32} {i4 : Int32} {i5 : Int32} {M : zM} (h_a0 : hi a0) (hM : FR M0 M) : KF (FR M0) (f_X7_far_23 RC_X7_far a0 i2 i3 i4 i5 M) := by
  unfold f_X7_far_23
  refine KF.i ?_ ?_
  · exact KF.s hM
  · refine KF.i ?_ ?_
    · refine KF.i ?_ ?_
      · exact KF.s hM
      · exact (kr_X7_far_59 hg hRC_X7_far h_a0 hM)
    · exact (kr_X7_far_59 hg hRC_X7_far h_a0 hM)
theorem kr_X7_far_3 {M0 : zM} (hg : KD M0) {RC_X7_far : Nat → Int32 → Int32 → Int32 → Int32 → zM → Option (Int32 × zM)} (hRC_X7_far : ∀ {x0 : Nat} {x1 : Int32} {x2 : Int32} {x3 : Int32} {x4 : Int32} {M : zM}, hi x0 → FR M0 M → KF (FR M0) (RC_X7_far x0 x1 x2 x3 x4 M)) : ∀ (n : Nat) {a0 : Nat} {i2 : Int32} {i3 : Int32} {i4 : Int32} {i5 : Int32} {M : zM}, hi a0 → FR M0 M → KF (FR M0) (f_X7_far_3 RC_X7_far n a0 i2 i3 i4 i5 M) := by
  intro n
  induction n with
  | zero => exact fun _ _ => KF.n
  | succ n ih =>
    intro a0 i2 i3 i4 i5 M h_a0 hM
    rw [f_X7_far_3]
    refine KF.i ?_ ?_
    · exact (kr_X7_far_23 hg hRC_X7_far h_a0 hM)
    · refine KF.b fun v1 => ?_
      refine KF.i ?_ ?_
      · exact (ih h_a0 hM)
      · exact (kr_X7_far_23 hg hRC_X7_far h_a0 hM)
theorem kr_X7_far_0 {M0 : zM} (hg : KD M0) {RC_X7_far : Nat → Int32 → Int32 → Int32 → Int32 → zM → Option (Int32 × zM)} (hRC_X7_far : ∀ {x0 : Nat} {x1 : Int32} {x2 : Int32} {x3 : Int32} {x4 : Int32} {M : zM}, hi x0 → FR M0 M → KF (FR M0) (RC_X7_far x0 x1 x2 x3 x4 M)) {a0 : Nat} {i1 : Int32} {i2 : Int32} {i3 : Int32} {i4 : Int32} {M : zM} (h_a0 : hi a0) (hM : FR M0 M) : KF (FR M0) (f_X7_far_0 RC_X7_far a0 i1 i2 i3 i4 M) := by
  unfold f_X7_far_0
  exact (kr_X7_far_3 hg hRC_X7_far zN h_a0 hM)
theorem kr_X7_far {M0 : zM} (hg : KD M0) : ∀ (n : Nat) {a0 : Nat} {i1 : Int32} {i2 : Int32} {i3 : Int32} {i4 : Int32} {M : zM}, hi a0 → FR M0 M → KF (FR M0) (f_X7_far n a0 i1 i2 i3 i4 M) := by
  intro n
  induction n with
  | zero => exact fun _ _ => KF.n
  | succ n ih =>
    intro a0 i1 i2 i3 i4 M h_a0 hM
    rw [f_X7_far]
    exact (kr_X7_far_0 hg ih h_a0 hM)
theorem kr_X6_far_0 {M0 : zM} (hg : KD M0) {a0 : Nat} {M : zM} (hM : FR M0 M) : KF (FR M0) (f_X6_far_0 a0 M) := by
  unfold f_X6_far_0
  refine KF.p (fr_gRh hM) fun v1 h_v1 => ?_
  refine KF.b fun v2 => ?_
  refine KF.i ?_ KF.n
  refine KF.c (kr_Jx4a65c_size_8abf5 hg hM) fun r3 h_r3 => ?_
  refine KF.c (kr_X7_far hg zR h_v1 h_r3) fun r5 h_r5 => ?_
  exact KF.s h_r5
theorem kr_X6_far {M0 : zM} (hg : KD M0) {a0 : Nat} {M : zM} (hM : FR M0 M) : KF (FR M0) (f_X6_far a0 M) := by
  unfold f_X6_far
  exact (kr_X6_far_0 hg hM)
theorem kr_X6_farWith_0 {M0 : zM} (hg : KD M0) {a0 : Nat} {i1 : Int32} {i2 : Int32} {M : zM} (hM : FR M0 M) : KF (FR M0) (f_X6_farWith_0 a0 i1 i2 M) := by
  unfold f_X6_farWith_0
  refine KF.p (fr_gRh hM) fun v1 h_v1 => ?_
  refine KF.b fun v2 => ?_
  refine KF.w (fr_tA hM h_v1) fun M3 h_M3 => ?_
  refine KF.i ?_ KF.n
  refine KF.c (kr_X6_far hg h_M3) fun r4 h_r4 => ?_
  refine KF.p (fr_gRh h_r4) fun v6 h_v6 => ?_
  refine KF.b fun v7 => ?_
  refine KF.w (fr_tA h_r4 h_v6) fun M8 h_M8 => ?_
  exact KF.s h_M8
theorem kr_X6_farWith {M0 : zM} (hg : KD M0) {a0 : Nat} {i1 : Int32} {i2 : Int32} {M : zM} (hM : FR M0 M) : KF (FR M0) (f_X6_farWith a0 i1 i2 M) := by
  unfold f_X6_farWith
  exact (kr_X6_farWith_0 hg hM)
theorem kr_X7_areSets_139 {M0 : zM} (hg : KD M0) {RC_X7_areSets : Nat → Int32 → zM → Option (Int32 × zM)} (hRC_X7_areSets : ∀ {x0 : Nat} {x1 : Int32} {M : zM}, hi x0 → FR M0 M → KF (FR M0) (RC_X7_areSets x0 x1 M)) : ∀ (n : Nat) {a0 : Nat} {i2 : Int32} {i3 : Int32} {i4 : Int32} {M : zM}, hi a0 → FR M0 M → KF (FR M0) (f_X7_areSets_139 RC_X7_areSets n a0 i2 i3 i4 M) := by
  intro n
  induction n with
  | zero => exact fun _ _ => KF.n
  | succ n ih =>
    intro a0 i2 i3 i4 M h_a0 hM
    rw [f_X7_areSets_139]
    refine KF.i ?_ ?_
    · refine KF.i ?_ KF.n
      exact KF.s hM
    · refine KF.b fun v2 => ?_
      refine KF.w (fr_tA hM h_a0) fun M3 h_M3 => ?_
      exact (ih h_a0 h_M3)
theorem kr_X7_areSets_106 {M0 : zM} (hg : KD M0) {RC_X7_areSets : Nat → Int32 → zM → Option (Int32 × zM)} (hRC_X7_areSets : ∀ {x0 : Nat} {x1 : Int32} {M : zM}, hi x0 → FR M0 M → KF (FR M0) (RC_X7_areSets x0 x1 M)) : ∀ (n : Nat) {a0 : Nat} {i1 : Int32} {i2 : Int32} {i4 : Int32} {M : zM}, hi a0 → FR M0 M → KF (FR M0) (f_X7_areSets_106 RC_X7_areSets n a0 i1 i2 i4 M) := by
  intro n
  induction n with
  | zero => exact fun _ _ => KF.n
  | succ n ih =>
    intro a0 i1 i2 i4 M h_a0 hM
    rw [f_X7_areSets_106]
    refine KF.i ?_ ?_
    · refine KF.c (hRC_X7_areSets h_a0 hM) fun r1 h_r1 => ?_
      exact (kr_X7_areSets_139 hg hRC_X7_areSets zN h_a0 h_r1)
    · refine KF.b fun v2 => ?_
      refine KF.w (fr_tA hM h_a0) fun M3 h_M3 => ?_
      exact (ih h_a0 h_M3)
theorem kr_X7_areSets_73 {M0 : zM} (hg : KD M0) {RC_X7_areSets : Nat → Int32 → zM → Option (Int32 × zM)} (hRC_X7_areSets : ∀ {x0 : Nat} {x1 : Int32} {M : zM}, hi x0 → FR M0 M → KF (FR M0) (RC_X7_areSets x0 x1 M)) {a0 : Nat} {i1 : Int32} {i2 : Int32} {i3 : Int32} {M : zM} (h_a0 : hi a0) (hM : FR M0 M) : KF (FR M0) (f_X7_areSets_73 RC_X7_areSets a0 i1 i2 i3 M) := by
  unfold f_X7_areSets_73
  refine KF.i ?_ ?_
  · refine KF.c (kr_X7_isRun hg hM) fun r2 h_r2 => ?_
    refine KF.i ?_ ?_
    · refine KF.i ?_ KF.n
      exact KF.s h_r2
    · refine KF.b fun v4 => ?_
      refine KF.i ?_ ?_
      · refine KF.i ?_ KF.n
        exact KF.s h_r2
      · refine KF.b fun v6 => ?_
        refine KF.i ?_ ?_
        · refine KF.i ?_ KF.n
          exact KF.s h_r2
        · exact (kr_X7_areSets_106 hg hRC_X7_areSets zN h_a0 h_r2)
  · refine KF.i ?_ KF.n
    exact KF.s hM
theorem kr_X7_areSets_20 {M0 : zM} (hg : KD M0) {RC_X7_areSets : Nat → Int32 → zM → Option (Int32 × zM)} (hRC_X7_areSets : ∀ {x0 : Nat} {x1 : Int32} {M : zM}, hi x0 → FR M0 M → KF (FR M0) (RC_X7_areSets x0 x1 M)) {a0 : Nat} {i1 : Int32} {i2 : Int32} {M : zM} (h_a0 : hi a0) (hM : FR M0 M) : KF (FR M0) (f_X7_areSets_20 RC_X7_areSets a0 i1 i2 M) := by
  unfold f_X7_areSets_20
  refine KF.i ?_ ?_
  · refine KF.i ?_ ?_
    · exact KF.s hM
    · exact KF.s hM
  · refine KF.i ?_ ?_
    · exact KF.s hM
    · refine KF.b fun v1 => ?_
      refine KF.i ?_ ?_
      · exact (kr_X7_areSets_73 hg hRC_X7_areSets h_a0 hM)
      · refine KF.b fun v2 => ?_
        refine KF.w (fr_tA hM h_a0) fun M3 h_M3 => ?_
        refine KF.c (hRC_X7_areSets h_a0 h_M3) fun r4 h_r4 => ?_
        refine KF.b fun v5 => ?_
        refine KF.w (fr_tA h_r4 h_a0) fun M6 h_M6 => ?_
        exact (kr_X7_areSets_73 hg hRC_X7_areSets h_a0 h_M6)
theorem kr_X7_areSets_2 {M0 : zM} (hg : KD M0) {RC_X7_areSets : Nat → Int32 → zM → Option (Int32 × zM)} (hRC_X7_areSets : ∀ {x0 : Nat} {x1 : Int32} {M : zM}, hi x0 → FR M0 M → KF (FR M0) (RC_X7_areSets x0 x1 M)) : ∀ (n : Nat) {a0 : Nat} {i1 : Int32} {i2 : Int32} {M : zM}, hi a0 → FR M0 M → KF (FR M0) (f_X7_areSets_2 RC_X7_areSets n a0 i1 i2 M) := by
  intro n
  induction n with
  | zero => exact fun _ _ => KF.n
  | succ n ih =>
    intro a0 i1 i2 M h_a0 hM
    rw [f_X7_areSets_2]
    refine KF.i ?_ ?_
    · exact (kr_X7_areSets_20 hg hRC_X7_areSets h_a0 hM)
    · refine KF.b fun v1 => ?_
      refine KF.i ?_ ?_
      · exact (ih h_a0 hM)
      · exact (kr_X7_areSets_20 hg hRC_X7_areSets h_a0 hM)
theorem kr_X7_areSets_0 {M0 : zM} (hg : KD M0) {RC_X7_areSets : Nat → Int32 → zM → Option (Int32 × zM)} (hRC_X7_areSets : ∀ {x0 : Nat} {x1 : Int32} {M : zM}, hi x0 → FR M0 M → KF (FR M0) (RC_X7_areSets x0 x1 M)) {a0 : Nat} {i1 : Int32} {M : zM} (h_a0 : hi a0) (hM : FR M0 M) : KF (FR M0) (f_X7_areSets_0 RC_X7_areSets a0 i1 M) := by
  unfold f_X7_areSets_0
  exact (kr_X7_areSets_2 hg hRC_X7_areSets zN h_a0 hM)
theorem kr_X7_areSets {M0 : zM} (hg : KD M0) : ∀ (n : Nat) {a0 : Nat} {i1 : Int32} {M : zM}, hi a0 → FR M0 M → KF (FR M0) (f_X7_areSets n a0 i1 M) := by
  intro n
  induction n with
  | zero => exact fun _ _ => KF.n
  | succ n ih =>
    intro a0 i1 M h_a0 hM
    rw [f_X7_areSets]
    exact (kr_X7_areSets_0 hg ih h_a0 hM)
theorem kr_X7_isComplete_2 {M0 : zM} (hg : KD M0) : ∀ (n : Nat) {a0 : Nat} {i1 : Int32} {i2 : Int32} {M : zM}, hi a0 → FR M0 M → KF (FR M0) (f_X7_isComplete_2 n a0 i1 i2 M) := by
  intro n
  induction n with
  | zero => exact fun _ _ => KF.n
  | succ n ih =>
    intro a0 i1 i2 M h_a0 hM
    rw [f_X7_isComplete_2]
    refine KF.i ?_ ?_
    · exact KF.s hM
    · refine KF.b fun v1 => ?_
      refine KF.i ?_ ?_
      · refine KF.b fun v2 => ?_
        refine KF.w (fr_tA hM h_a0) fun M3 h_M3 => ?_
        refine KF.c (kr_X7_areSets hg zR h_a0 h_M3) fun r4 h_r4 => ?_
        refine KF.b fun v5 => ?_
        refine KF.w (fr_tA h_r4 h_a0) fun M6 h_M6 => ?_
        refine KF.i ?_ ?_
        · exact (ih h_a0 h_M6)
        · exact KF.s h_M6
      · exact (ih h_a0 hM)
theorem kr_X7_isComplete_0 {M0 : zM} (hg : KD M0) {a0 : Nat} {i1 : Int32} {M : zM} (h_a0 : hi a0) (hM : FR M0 M) : KF (FR M0) (f_X7_isComplete_0 a0 i1 M) := by
  unfold f_X7_isComplete_0
  exact (kr_X7_isComplete_2 hg zN h_a0 hM)
theorem kr_X7_isComplete {M0 : zM} (hg : KD M0) {a0 : Nat} {i1 : Int32} {M : zM} (h_a0 : hi a0) (hM : FR M0 M) : KF (FR M0) (f_X7_isComplete a0 i1 M) := by
  unfold f_X7_isComplete
  exact (kr_X7_isComplete_0 hg h_a0 hM)
theorem kr_X6_waits_64 {M0 : zM} (hg : KD M0) {K4 : Nat → Int64 → Int32 → zM → Option (Int64 × zM)} (hK4 : ∀ {x0 : Nat} {x1 : Int64} {x2 : Int32} {M : zM}, FR M0 M → KF (FR M0) (K4 x0 x1 x2 M)) {a0 : Nat} {i3 : Int32} {j_0 : Int64} {j_1 : Int64} {M : zM} (hM : FR M0 M) : KF (FR M0) (f_X6_waits_64 K4 a0 i3 j_0 j_1 M) := by
  unfold f_X6_waits_64
  refine KF.p (fr_gRh hM) fun v1 h_v1 => ?_
  refine KF.b fun v2 => ?_
  refine KF.w (fr_tA hM h_v1) fun M3 h_M3 => ?_
  exact (hK4 h_M3)
theorem kr_X6_waits_4 {M0 : zM} (hg : KD M0) : ∀ (n : Nat) {a0 : Nat} {j1 : Int64} {i3 : Int32} {M : zM}, FR M0 M → KF (FR M0) (f_X6_waits_4 n a0 j1 i3 M) := by
  intro n
  induction n with
  | zero => exact fun _ => KF.n
  | succ n ih =>
    intro a0 j1 i3 M hM
    rw [f_X6_waits_4]
    refine KF.i ?_ ?_
    · exact KF.s hM
    · refine KF.i ?_ KF.n
      refine KF.c (kr_X6_tiles hg hM) fun r1 h_r1 => ?_
      refine KF.b fun v3 => ?_
      refine KF.i ?_ KF.n
      refine KF.c (kr_Jx4a65c_size_8abf5 hg h_r1) fun r4 h_r4 => ?_
      refine KF.i ?_ ?_
      · refine KF.p (fr_gRh h_r4) fun v6 h_v6 => ?_
        refine KF.b fun v7 => ?_
        refine KF.w (fr_tA h_r4 h_v6) fun M8 h_M8 => ?_
        refine KF.p (fr_gRh h_M8) fun v9 h_v9 => ?_
        refine KF.b fun v10 => ?_
        refine KF.i ?_ KF.n
        refine KF.c (kr_Jx4a65c_size_8abf5 hg h_M8) fun r11 h_r11 => ?_
        refine KF.c (kr_X7_isComplete hg h_v9 h_r11) fun r13 h_r13 => ?_
        refine KF.i ?_ ?_
        · exact (kr_X6_waits_64 hg ih h_r13)
        · exact (kr_X6_waits_64 hg ih h_r13)
      · exact KF.s h_r4
theorem kr_X6_waits_0 {M0 : zM} (hg : KD M0) {a0 : Nat} {M : zM} (hM : FR M0 M) : KF (FR M0) (f_X6_waits_0 a0 M) := by
  unfold f_X6_waits_0
  exact (kr_X6_waits_4 hg zN hM)
theorem kr_X6_waits {M0 : zM} (hg : KD M0) {a0 : Nat} {M : zM} (hM : FR M0 M) : KF (FR M0) (f_X6_waits a0 M) := by
  unfold f_X6_waits
  exact (kr_X6_waits_0 hg hM)
theorem kr_X6_isReady_0 {M0 : zM} (hg : KD M0) {a0 : Nat} {M : zM} (hM : FR M0 M) : KF (FR M0) (f_X6_isReady_0 a0 M) := by
  unfold f_X6_isReady_0
  refine KF.i ?_ KF.n
  refine KF.c (kr_X6_waits hg hM) fun r1 h_r1 => ?_
  refine KF.i ?_ ?_
  · exact KF.s h_r1
  · exact KF.s h_r1
theorem kr_X6_isReady {M0 : zM} (hg : KD M0) {a0 : Nat} {M : zM} (hM : FR M0 M) : KF (FR M0) (f_X6_isReady a0 M) := by
  unfold f_X6_isReady
  exact (kr_X6_isReady_0 hg hM)
theorem kr_X7_isKind_0 {M0 : zM} (hg : KD M0) {i0 : Int32} {M : zM} (hM : FR M0 M) : KF (FR M0) (f_X7_isKind_0 i0 M) := by
  unfold f_X7_isKind_0
  refine KF.c (kr_X7_isIn hg hM) fun r1 h_r1 => ?_
  refine KF.i ?_ KF.n
  exact KF.s h_r1
theorem kr_X7_isKind {M0 : zM} (hg : KD M0) {i0 : Int32} {M : zM} (hM : FR M0 M) : KF (FR M0) (f_X7_isKind i0 M) := by
  unfold f_X7_isKind
  exact (kr_X7_isKind_0 hg hM)
theorem kr_X7_isEnd_0 {M0 : zM} (hg : KD M0) {i0 : Int32} {M : zM} (hM : FR M0 M) : KF (FR M0) (f_X7_isEnd_0 i0 M) := by
  unfold f_X7_isEnd_0
  refine KF.i ?_ ?_
  · exact KF.s hM
  · refine KF.i ?_ ?_
    · exact KF.s hM
    · refine KF.i ?_ ?_
      · exact KF.s hM
      · exact KF.s hM
theorem kr_X7_isEnd {M0 : zM} (hg : KD M0) {i0 : Int32} {M : zM} (hM : FR M0 M) : KF (FR M0) (f_X7_isEnd i0 M) := by
  unfold f_X7_isEnd
  exact (kr_X7_isEnd_0 hg hM)
theorem kr_X7_lucky_0 {M0 : zM} (hg : KD M0) {i0 : Int32} {M : zM} (hM : FR M0 M) : KF (FR M0) (f_X7_lucky_0 i0 M) := by
  unfold f_X7_lucky_0
  refine KF.i ?_ ?_
  · refine KF.i ?_ ?_
    · exact KF.s hM
    · refine KF.i ?_ ?_
      · exact KF.s hM
      · exact KF.s hM
  · refine KF.i ?_ ?_
    · exact KF.s hM
    · exact KF.s hM
theorem kr_X7_lucky {M0 : zM} (hg : KD M0) {i0 : Int32} {M : zM} (hM : FR M0 M) : KF (FR M0) (f_X7_lucky i0 M) := by
  unfold f_X7_lucky
  exact (kr_X7_lucky_0 hg hM)
theorem kr_X7_thrown_0 {M0 : zM} (hg : KD M0) {a0 : Nat} {M : zM} (hM : FR M0 M) : KF (FR M0) (f_X7_thrown_0 a0 M) := by
  unfold f_X7_thrown_0
  refine KF.b fun v1 => ?_
  exact KF.s hM
theorem kr_X7_thrown {M0 : zM} (hg : KD M0) {a0 : Nat} {M : zM} (hM : FR M0 M) : KF (FR M0) (f_X7_thrown a0 M) := by
  unfold f_X7_thrown
  exact (kr_X7_thrown_0 hg hM)
theorem kr_X7_refuse_16 {M0 : zM} (hg : KD M0) {a0 : Nat} {M : zM} (hM : FR M0 M) : KF (FR M0) (f_X7_refuse_16 a0 M) := by
  unfold f_X7_refuse_16
  refine KF.b fun v1 => ?_
  refine KF.i ?_ ?_
  · exact KF.s hM
  · exact KF.s hM
theorem kr_X7_refuse_0 {M0 : zM} (hg : KD M0) {a0 : Nat} {i1 : Int32} {i2 : Int32} {M : zM} (hM : FR M0 M) : KF (FR M0) (f_X7_refuse_0 a0 i1 i2 M) := by
  unfold f_X7_refuse_0
  refine KF.i ?_ ?_
  · exact (kr_X7_refuse_16 hg hM)
  · refine KF.b fun v1 => ?_
    refine KF.i ?_ ?_
    · refine KF.w (fr_pI hg hM rfl) fun M2 h_M2 => ?_
      exact (kr_X7_refuse_16 hg h_M2)
    · exact (kr_X7_refuse_16 hg hM)
theorem kr_X7_refuse {M0 : zM} (hg : KD M0) {a0 : Nat} {i1 : Int32} {i2 : Int32} {M : zM} (hM : FR M0 M) : KF (FR M0) (f_X7_refuse a0 i1 i2 M) := by
  unfold f_X7_refuse
  exact (kr_X7_refuse_0 hg hM)
theorem kr_X7_start_0 {M0 : zM} (hg : KD M0) {a0 : Nat} {i1 : Int32} {i2 : Int32} {M : zM} (hM : FR M0 M) : KF (FR M0) (f_X7_start_0 a0 i1 i2 M) := by
  unfold f_X7_start_0
  refine KF.w (fr_pI hg hM rfl) fun M1 h_M1 => ?_
  refine KF.i ?_ KF.n
  refine KF.c (kr_X7_refuse hg h_M1) fun r2 h_r2 => ?_
  refine KF.i ?_ KF.n
  exact KF.s h_r2
theorem kr_X7_start {M0 : zM} (hg : KD M0) {a0 : Nat} {i1 : Int32} {i2 : Int32} {M : zM} (hM : FR M0 M) : KF (FR M0) (f_X7_start a0 i1 i2 M) := by
  unfold f_X7_start
  exact (kr_X7_start_0 hg hM)
theorem kr_X7_isNoPlayer_0 {M0 : zM} (hg : KD M0) {i0 : Int32} {M : zM} (hM : FR M0 M) : KF (FR M0) (f_X7_isNoPlayer_0 i0 M) := by
  unfold f_X7_isNoPlayer_0
  refine KF.c (kr_X7_isIn hg hM) fun r1 h_r1 => ?_
  refine KF.i ?_ ?_
  · exact KF.s h_r1
  · exact KF.s h_r1
theorem kr_X7_isNoPlayer {M0 : zM} (hg : KD M0) {i0 : Int32} {M : zM} (hM : FR M0 M) : KF (FR M0) (f_X7_isNoPlayer i0 M) := by
  unfold f_X7_isNoPlayer
  exact (kr_X7_isNoPlayer_0 hg hM)
theorem kr_X7_left_0 {M0 : zM} (hg : KD M0) {a0 : Nat} {M : zM} (hM : FR M0 M) : KF (FR M0) (f_X7_left_0 a0 M) := by
  unfold f_X7_left_0
  refine KF.b fun v1 => ?_
  refine KF.i ?_ ?_
  · exact KF.s hM
  · refine KF.b fun v2 => ?_
    refine KF.b fun v3 => ?_
    exact KF.s hM
theorem kr_X7_left {M0 : zM} (hg : KD M0) {a0 : Nat} {M : zM} (hM : FR M0 M) : KF (FR M0) (f_X7_left a0 M) := by
  unfold f_X7_left
  exact (kr_X7_left_0 hg hM)
theorem kr_X7_canDraw_0 {M0 : zM} (hg : KD M0) {a0 : Nat} {M : zM} (hM : FR M0 M) : KF (FR M0) (f_X7_canDraw_0 a0 M) := by
  unfold f_X7_canDraw_0
  refine KF.i ?_ KF.n
  refine KF.c (kr_X7_left hg hM) fun r1 h_r1 => ?_
  refine KF.i ?_ ?_
  · exact KF.s h_r1
  · exact KF.s h_r1
theorem kr_X7_canDraw {M0 : zM} (hg : KD M0) {a0 : Nat} {M : zM} (hM : FR M0 M) : KF (FR M0) (f_X7_canDraw a0 M) := by
  unfold f_X7_canDraw
  exact (kr_X7_canDraw_0 hg hM)
theorem kr_X7_its_0 {M0 : zM} (hg : KD M0) {a0 : Nat} {M : zM} (hM : FR M0 M) : KF (FR M0) (f_X7_its_0 a0 M) := by
  unfold f_X7_its_0
  refine KF.b fun v1 => ?_
  refine KF.b fun v2 => ?_
  refine KF.b fun v3 => ?_
  exact KF.s hM
theorem kr_X7_its {M0 : zM} (hg : KD M0) {a0 : Nat} {M : zM} (hM : FR M0 M) : KF (FR M0) (f_X7_its a0 M) := by
  unfold f_X7_its
  exact (kr_X7_its_0 hg hM)
theorem kr_X7_lay_137 {M0 : zM} (hg : KD M0) {K120 : Nat → Int32 → zM → Option (Int32 × zM)} (hK120 : ∀ {x0 : Nat} {x1 : Int32} {M : zM}, FR M0 M → KF (FR M0) (K120 x0 x1 M)) : ∀ (n : Nat) {a0 : Nat} {i3 : Int32} {i4 : Int32} {M : zM}, FR M0 M → KF (FR M0) (f_X7_lay_137 K120 n a0 i3 i4 M) := by
  intro n
  induction n with
  | zero => exact fun _ => KF.n
  | succ n ih =>
    intro a0 i3 i4 M hM
    rw [f_X7_lay_137]
    refine KF.i ?_ ?_
    · exact (hK120 hM)
    · refine KF.b fun v1 => ?_
      refine KF.b fun v2 => ?_
      refine KF.p (fr_gRh hM) fun v3 h_v3 => ?_
      refine KF.p (fr_gRw hM) fun v4 h_v4 => ?_
      refine KF.b fun v5 => ?_
      refine KF.b fun v6 => ?_
      refine KF.w (fr_tA hM h_v3) fun M7 h_M7 => ?_
      exact (ih h_M7)
theorem kr_X7_lay_120 {M0 : zM} (hg : KD M0) : ∀ (n : Nat) {a0 : Nat} {i3 : Int32} {M : zM}, FR M0 M → KF (FR M0) (f_X7_lay_120 n a0 i3 M) := by
  intro n
  induction n with
  | zero => exact fun _ => KF.n
  | succ n ih =>
    intro a0 i3 M hM
    rw [f_X7_lay_120]
    refine KF.i ?_ ?_
    · refine KF.w (fr_pI hg hM rfl) fun M1 h_M1 => ?_
      refine KF.w (fr_pI hg h_M1 rfl) fun M2 h_M2 => ?_
      refine KF.p (fr_gRw h_M2) fun v3 h_v3 => ?_
      refine KF.b fun v4 => ?_
      refine KF.c (kr_X7_lucky hg h_M2) fun r5 h_r5 => ?_
      refine KF.w (fr_pI hg h_r5 rfl) fun M6 h_M6 => ?_
      refine KF.w (fr_pI hg h_M6 rfl) fun M7 h_M7 => ?_
      refine KF.w (fr_pI hg h_M7 rfl) fun M8 h_M8 => ?_
      refine KF.b fun v9 => ?_
      refine KF.w (fr_pI hg h_M8 rfl) fun M10 h_M10 => ?_
      refine KF.b fun v11 => ?_
      exact KF.s h_M10
    · refine KF.b fun v12 => ?_
      refine KF.b fun v13 => ?_
      refine KF.i ?_ KF.n
      refine KF.c (kr_X6_begin hg hM) fun r14 h_r14 => ?_
      exact (kr_X7_lay_137 hg ih zN h_r14)
theorem kr_X7_lay_70 {M0 : zM} (hg : KD M0) : ∀ (n : Nat) {a0 : Nat} {i1 : Int32} {i2 : Int32} {i3 : Int32} {M : zM}, FR M0 M → KF (FR M0) (f_X7_lay_70 n a0 i1 i2 i3 M) := by
  intro n
  induction n with
  | zero => exact fun _ => KF.n
  | succ n ih =>
    intro a0 i1 i2 i3 M hM
    rw [f_X7_lay_70]
    refine KF.i ?_ ?_
    · refine KF.b fun v1 => ?_
      refine KF.w (fr_pI hg hM rfl) fun M2 h_M2 => ?_
      refine KF.b fun v3 => ?_
      refine KF.w (fr_pI hg h_M2 rfl) fun M4 h_M4 => ?_
      exact (kr_X7_lay_120 hg zN h_M4)
    · refine KF.p (fr_gRw hM) fun v5 h_v5 => ?_
      refine KF.w (fr_tA hM h_v5) fun M6 h_M6 => ?_
      exact (ih h_M6)
theorem kr_X7_lay_59 {M0 : zM} (hg : KD M0) {a0 : Nat} {i1 : Int32} {i2 : Int32} {i_0 : Int32} {a_1 : Nat} {M : zM} (hM : FR M0 M) : KF (FR M0) (f_X7_lay_59 a0 i1 i2 i_0 a_1 M) := by
  unfold f_X7_lay_59
  refine KF.i ?_ KF.n
  refine KF.c (kr_X7_refuse hg hM) fun r1 h_r1 => ?_
  refine KF.i ?_ ?_
  · exact (kr_X7_lay_70 hg zN h_r1)
  · exact KF.s h_r1
theorem kr_X7_lay_38 {M0 : zM} (hg : KD M0) {a0 : Nat} {i1 : Int32} {i2 : Int32} {i_0 : Int32} {a_1 : Nat} {M : zM} (hM : FR M0 M) : KF (FR M0) (f_X7_lay_38 a0 i1 i2 i_0 a_1 M) := by
  unfold f_X7_lay_38
  refine KF.i ?_ KF.n
  refine KF.c (kr_X7_start hg hM) fun r1 h_r1 => ?_
  refine KF.i ?_ ?_
  · refine KF.b fun v3 => ?_
    refine KF.i ?_ ?_
    · exact (kr_X7_lay_59 hg h_r1)
    · exact (kr_X7_lay_59 hg h_r1)
  · exact KF.s h_r1
theorem kr_X7_lay_33 {M0 : zM} (hg : KD M0) {a0 : Nat} {i1 : Int32} {i2 : Int32} {a_0 : Nat} {M : zM} (hM : FR M0 M) : KF (FR M0) (f_X7_lay_33 a0 i1 i2 a_0 M) := by
  unfold f_X7_lay_33
  exact (kr_X7_lay_38 hg hM)
theorem kr_X7_lay_0 {M0 : zM} (hg : KD M0) {a0 : Nat} {i1 : Int32} {i2 : Int32} {M : zM} (hM : FR M0 M) : KF (FR M0) (f_X7_lay_0 a0 i1 i2 M) := by
  unfold f_X7_lay_0
  refine KF.c (kr_X7_isIn hg hM) fun r1 h_r1 => ?_
  refine KF.i ?_ ?_
  · exact (kr_X7_lay_33 hg h_r1)
  · refine KF.i ?_ ?_
    · exact (kr_X7_lay_33 hg h_r1)
    · refine KF.i ?_ ?_
      · exact (kr_X7_lay_33 hg h_r1)
      · refine KF.c (kr_X7_isIn hg h_r1) fun r2 h_r2 => ?_
        refine KF.i ?_ ?_
        · exact (kr_X7_lay_33 hg h_r2)
        · exact (kr_X7_lay_38 hg h_r2)
theorem kr_X7_lay {M0 : zM} (hg : KD M0) {a0 : Nat} {i1 : Int32} {i2 : Int32} {M : zM} (hM : FR M0 M) : KF (FR M0) (f_X7_lay a0 i1 i2 M) := by
  unfold f_X7_lay
  exact (kr_X7_lay_0 hg hM)
theorem kr_X7_take_0 {M0 : zM} (hg : KD M0) {a0 : Nat} {i1 : Int32} {M : zM} (hM : FR M0 M) : KF (FR M0) (f_X7_take_0 a0 i1 M) := by
  unfold f_X7_take_0
  refine KF.i ?_ KF.n
  refine KF.c (kr_X7_its hg hM) fun r1 h_r1 => ?_
  refine KF.p (fr_gRh h_r1) fun v3 h_v3 => ?_
  refine KF.b fun v4 => ?_
  refine KF.w (fr_tA h_r1 h_v3) fun M5 h_M5 => ?_
  refine KF.w (fr_pI hg h_M5 rfl) fun M6 h_M6 => ?_
  refine KF.w (fr_pI hg h_M6 rfl) fun M7 h_M7 => ?_
  exact KF.s h_M7
theorem kr_X7_take {M0 : zM} (hg : KD M0) {a0 : Nat} {i1 : Int32} {M : zM} (hM : FR M0 M) : KF (FR M0) (f_X7_take a0 i1 M) := by
  unfold f_X7_take
  exact (kr_X7_take_0 hg hM)
theorem kr_X7_settle_38 {M0 : zM} (hg : KD M0) {K31 : Nat → Nat → Int32 → zM → Option (Unit × zM)} (hK31 : ∀ {x0 : Nat} {x1 : Nat} {x2 : Int32} {M : zM}, FR M0 M → KF (FR M0) (K31 x0 x1 x2 M)) : ∀ (n : Nat) {a0 : Nat} {a1 : Nat} {i2 : Int32} {i3 : Int32} {M : zM}, FR M0 M → KF (FR M0) (f_X7_settle_38 K31 n a0 a1 i2 i3 M) := by
  intro n
  induction n with
  | zero => exact fun _ => KF.n
  | succ n ih =>
    intro a0 a1 i2 i3 M hM
    rw [f_X7_settle_38]
    refine KF.i ?_ ?_
    · exact (hK31 hM)
    · refine KF.b fun v1 => ?_
      refine KF.i ?_ ?_
      · refine KF.b fun v2 => ?_
        refine KF.i ?_ ?_
        · exact (ih hM)
        · refine KF.b fun v3 => ?_
          refine KF.b fun v4 => ?_
          refine KF.b fun v5 => ?_
          refine KF.w (fr_pI hg hM rfl) fun M6 h_M6 => ?_
          refine KF.b fun v7 => ?_
          refine KF.b fun v8 => ?_
          refine KF.b fun v9 => ?_
          refine KF.w (fr_pI hg h_M6 rfl) fun M10 h_M10 => ?_
          exact (ih h_M10)
      · exact (ih hM)
theorem kr_X7_settle_31 {M0 : zM} (hg : KD M0) : ∀ (n : Nat) {a0 : Nat} {a1 : Nat} {i2 : Int32} {M : zM}, FR M0 M → KF (FR M0) (f_X7_settle_31 n a0 a1 i2 M) := by
  intro n
  induction n with
  | zero => exact fun _ => KF.n
  | succ n ih =>
    intro a0 a1 i2 M hM
    rw [f_X7_settle_31]
    refine KF.i ?_ ?_
    · exact KF.s hM
    · exact (kr_X7_settle_38 hg ih zN hM)
theorem kr_X7_settle_6 {M0 : zM} (hg : KD M0) : ∀ (n : Nat) {a0 : Nat} {a1 : Nat} {i2 : Int32} {M : zM}, FR M0 M → KF (FR M0) (f_X7_settle_6 n a0 a1 i2 M) := by
  intro n
  induction n with
  | zero => exact fun _ => KF.n
  | succ n ih =>
    intro a0 a1 i2 M hM
    rw [f_X7_settle_6]
    refine KF.i ?_ ?_
    · exact (kr_X7_settle_31 hg zN hM)
    · refine KF.b fun v1 => ?_
      refine KF.b fun v2 => ?_
      refine KF.i ?_ KF.n
      refine KF.c (kr_X6_isReady hg hM) fun r3 h_r3 => ?_
      refine KF.w (fr_tZ hg h_r3) fun M5 h_M5 => ?_
      exact (ih h_M5)
theorem kr_X7_settle_0 {M0 : zM} (hg : KD M0) {a0 : Nat} {M : zM} (hM : FR M0 M) : KF (FR M0) (f_X7_settle_0 a0 M) := by
  unfold f_X7_settle_0
  refine KF.cp (fr_aA hg hM) fun r1 h_r1 g_r1 => ?_
  exact (kr_X7_settle_6 hg zN g_r1)
theorem kr_X7_settle {M0 : zM} (hg : KD M0) {a0 : Nat} {M : zM} (hM : FR M0 M) : KF (FR M0) (f_X7_settle a0 M) := by
  unfold f_X7_settle
  exact (kr_X7_settle_0 hg hM)
theorem kr_X7_draw_13 {M0 : zM} (hg : KD M0) {a0 : Nat} {i_0 : Int32} {a_1 : Nat} {M : zM} (hM : FR M0 M) : KF (FR M0) (f_X7_draw_13 a0 i_0 a_1 M) := by
  unfold f_X7_draw_13
  refine KF.i ?_ KF.n
  refine KF.c (kr_X7_start hg hM) fun r1 h_r1 => ?_
  refine KF.i ?_ ?_
  · refine KF.i ?_ KF.n
    refine KF.c (kr_X7_canDraw hg h_r1) fun r3 h_r3 => ?_
    refine KF.i ?_ ?_
    · refine KF.i ?_ KF.n
      refine KF.c (kr_X7_settle hg h_r3) fun r5 h_r5 => ?_
      refine KF.w (fr_pI hg h_r5 rfl) fun M7 h_M7 => ?_
      refine KF.w (fr_pI hg h_M7 rfl) fun M8 h_M8 => ?_
      exact KF.s h_M8
    · refine KF.p (fr_gRw h_r3) fun v9 h_v9 => ?_
      refine KF.b fun v10 => ?_
      refine KF.w (fr_pI hg h_r3 rfl) fun M11 h_M11 => ?_
      refine KF.b fun v12 => ?_
      refine KF.i ?_ KF.n
      refine KF.c (kr_X7_take hg h_M11) fun r13 h_r13 => ?_
      exact KF.s h_r13
  · exact KF.s h_r1
theorem kr_X7_draw_0 {M0 : zM} (hg : KD M0) {a0 : Nat} {M : zM} (hM : FR M0 M) : KF (FR M0) (f_X7_draw_0 a0 M) := by
  unfold f_X7_draw_0
  refine KF.b fun v1 => ?_
  refine KF.i ?_ ?_
  · exact (kr_X7_draw_13 hg hM)
  · exact (kr_X7_draw_13 hg hM)
theorem kr_X7_draw {M0 : zM} (hg : KD M0) {a0 : Nat} {M : zM} (hM : FR M0 M) : KF (FR M0) (f_X7_draw a0 M) := by
  unfold f_X7_draw
  exact (kr_X7_draw_0 hg hM)
theorem kr_Jxd2413_init_da8c8_0 {M0 : zM} (hg : KD M0) {a0 : Nat} {M : zM} (hM : FR M0 M) : KF (FR M0) (f_Jxd2413_init_da8c8_0 a0 M) := by
  unfold f_Jxd2413_init_da8c8_0
  exact KF.s hM
theorem kr_Jxd2413_init_da8c8 {M0 : zM} (hg : KD M0) {a0 : Nat} {M : zM} (hM : FR M0 M) : KF (FR M0) (f_Jxd2413_init_da8c8 a0 M) := by
  unfold f_Jxd2413_init_da8c8
  exact (kr_Jxd2413_init_da8c8_0 hg hM)
theorem kr_J6_init_d00df_0 {M0 : zM} (hg : KD M0) {a0 : Nat} {i1 : Int32} {M : zM} (hM : FR M0 M) : KF (FR M0) (f_J6_init_d00df_0 a0 i1 M) := by
  unfold f_J6_init_d00df_0
  refine KF.c (kr_Jxd2413_init_da8c8 hg hM) fun r1 h_r1 => ?_
  refine KF.w (fr_pI hg h_r1 rfl) fun M2 h_M2 => ?_
  exact KF.s h_M2
theorem kr_J6_init_d00df {M0 : zM} (hg : KD M0) {a0 : Nat} {i1 : Int32} {M : zM} (hM : FR M0 M) : KF (FR M0) (f_J6_init_d00df a0 i1 M) := by
  unfold f_J6_init_d00df
  exact (kr_J6_init_d00df_0 hg hM)
theorem kr_J6_valueOf_2dffe_23 {M0 : zM} (hg : KD M0) {i0 : Int32} {M : zM} (hM : FR M0 M) : KF (FR M0) (f_J6_valueOf_2dffe_23 i0 M) := by
  unfold f_J6_valueOf_2dffe_23
  refine KF.c (kr_J6_init_d00df hg (fr_nO hM)) fun r1 h_r1 => ?_
  exact KF.s h_r1
theorem kr_J6_valueOf_2dffe_0 {M0 : zM} (hg : KD M0) {i0 : Int32} {M : zM} (hM : FR M0 M) : KF (FR M0) (f_J6_valueOf_2dffe_0 i0 M) := by
  unfold f_J6_valueOf_2dffe_0
  refine KF.i ?_ ?_
  · exact (kr_J6_valueOf_2dffe_23 hg hM)
  · refine KF.i ?_ ?_
    · exact (kr_J6_valueOf_2dffe_23 hg hM)
    · refine KF.b fun v1 => ?_
      exact KF.s hM
theorem kr_J6_valueOf_2dffe {M0 : zM} (hg : KD M0) {i0 : Int32} {M : zM} (hM : FR M0 M) : KF (FR M0) (f_J6_valueOf_2dffe i0 M) := by
  unfold f_J6_valueOf_2dffe
  exact (kr_J6_valueOf_2dffe_0 hg hM)
theorem kr_J7_copyOf_6403c_24 {M0 : zM} (hg : KD M0) {a0 : Nat} {i1 : Int32} {a_0 : Nat} {M : zM} (hM : FR M0 M) : KF (FR M0) (f_J7_copyOf_6403c_24 a0 i1 a_0 M) := by
  unfold f_J7_copyOf_6403c_24
  refine KF.b fun v1 => ?_
  refine KF.c (kr_J9_min_7cf53 hg hM) fun r2 h_r2 => ?_
  refine KF.w (fr_yQ hg h_r2) fun M3 h_M3 => ?_
  exact KF.s h_M3
theorem kr_J7_copyOf_6403c_0 {M0 : zM} (hg : KD M0) {a0 : Nat} {i1 : Int32} {a2 : Nat} {M : zM} (hM : FR M0 M) : KF (FR M0) (f_J7_copyOf_6403c_0 a0 i1 a2 M) := by
  unfold f_J7_copyOf_6403c_0
  refine KF.i ?_ KF.n
  refine KF.i ?_ KF.n
  refine KF.cp (fr_aQ hg hM) fun r1 h_r1 g_r1 => ?_
  exact (kr_J7_copyOf_6403c_24 hg g_r1)
theorem kr_J7_copyOf_6403c {M0 : zM} (hg : KD M0) {a0 : Nat} {i1 : Int32} {a2 : Nat} {M : zM} (hM : FR M0 M) : KF (FR M0) (f_J7_copyOf_6403c a0 i1 a2 M) := by
  unfold f_J7_copyOf_6403c
  exact (kr_J7_copyOf_6403c_0 hg hM)
theorem kr_J7_copyOf_1904c_0 {M0 : zM} (hg : KD M0) {a0 : Nat} {i1 : Int32} {M : zM} (hM : FR M0 M) : KF (FR M0) (f_J7_copyOf_1904c_0 a0 i1 M) := by
  unfold f_J7_copyOf_1904c_0
  refine KF.i ?_ KF.n
  refine KF.c (kr_J7_copyOf_6403c hg hM) fun r2 h_r2 => ?_
  exact KF.s h_r2
theorem kr_J7_copyOf_1904c {M0 : zM} (hg : KD M0) {a0 : Nat} {i1 : Int32} {M : zM} (hM : FR M0 M) : KF (FR M0) (f_J7_copyOf_1904c a0 i1 M) := by
  unfold f_J7_copyOf_1904c
  exact (kr_J7_copyOf_1904c_0 hg hM)
theorem kr_Jx4a65c_grow_92f84_20 {M0 : zM} (hg : KD M0) {a0 : Nat} {i1 : Int32} {i2 : Int32} {M : zM} (hM : FR M0 M) : KF (FR M0) (f_Jx4a65c_grow_92f84_20 a0 i1 i2 M) := by
  unfold f_Jx4a65c_grow_92f84_20
  refine KF.c (kr_J8_newLength_cabcc hg hM) fun r1 h_r1 => ?_
  refine KF.b fun v2 => ?_
  refine KF.c (kr_J7_copyOf_1904c hg h_r1) fun r3 h_r3 => ?_
  refine KF.w (fr_pR hg h_r3 rfl (fun q => absurd q (by decide))) fun M4 h_M4 => ?_
  exact KF.s h_M4
theorem kr_Jx4a65c_grow_92f84_0 {M0 : zM} (hg : KD M0) {a0 : Nat} {i1 : Int32} {M : zM} (hM : FR M0 M) : KF (FR M0) (f_Jx4a65c_grow_92f84_0 a0 i1 M) := by
  unfold f_Jx4a65c_grow_92f84_0
  refine KF.b fun v1 => ?_
  refine KF.b fun v2 => ?_
  refine KF.i ?_ ?_
  · exact (kr_Jx4a65c_grow_92f84_20 hg hM)
  · refine KF.b fun v3 => ?_
    refine KF.i ?_ KF.n
    refine KF.i ?_ ?_
    · refine KF.c (kr_J9_max_7cf53 hg hM) fun r4 h_r4 => ?_
      refine KF.cp (fr_aQ hg h_r4) fun r5 h_r5 g_r5 => ?_
      refine KF.w (fr_pR hg g_r5 rfl (fun q => absurd q (by decide))) fun M6 h_M6 => ?_
      exact KF.s h_M6
    · exact (kr_Jx4a65c_grow_92f84_20 hg hM)
theorem kr_Jx4a65c_grow_92f84 {M0 : zM} (hg : KD M0) {a0 : Nat} {i1 : Int32} {M : zM} (hM : FR M0 M) : KF (FR M0) (f_Jx4a65c_grow_92f84 a0 i1 M) := by
  unfold f_Jx4a65c_grow_92f84
  exact (kr_Jx4a65c_grow_92f84_0 hg hM)
theorem kr_Jx4a65c_grow_d5877_0 {M0 : zM} (hg : KD M0) {a0 : Nat} {M : zM} (hM : FR M0 M) : KF (FR M0) (f_Jx4a65c_grow_d5877_0 a0 M) := by
  unfold f_Jx4a65c_grow_d5877_0
  refine KF.b fun v1 => ?_
  refine KF.i ?_ KF.n
  refine KF.c (kr_Jx4a65c_grow_92f84 hg hM) fun r2 h_r2 => ?_
  exact KF.s h_r2
theorem kr_Jx4a65c_grow_d5877 {M0 : zM} (hg : KD M0) {a0 : Nat} {M : zM} (hM : FR M0 M) : KF (FR M0) (f_Jx4a65c_grow_d5877 a0 M) := by
  unfold f_Jx4a65c_grow_d5877
  exact (kr_Jx4a65c_grow_d5877_0 hg hM)
theorem kr_Jx4a65c_add_72be8_11 {M0 : zM} (hg : KD M0) {a0 : Nat} {a1 : Nat} {a2 : Nat} {i3 : Int32} {M : zM} (hM : FR M0 M) : KF (FR M0) (f_Jx4a65c_add_72be8_11 a0 a1 a2 i3 M) := by
  unfold f_Jx4a65c_add_72be8_11
  refine KF.i ?_ KF.n
  refine KF.w (fr_tQ hg hM rfl) fun M1 h_M1 => ?_
  refine KF.w (fr_pI hg h_M1 rfl) fun M2 h_M2 => ?_
  exact KF.s h_M2
theorem kr_Jx4a65c_add_72be8_0 {M0 : zM} (hg : KD M0) {a0 : Nat} {a1 : Nat} {a2 : Nat} {i3 : Int32} {M : zM} (hM : FR M0 M) : KF (FR M0) (f_Jx4a65c_add_72be8_0 a0 a1 a2 i3 M) := by
  unfold f_Jx4a65c_add_72be8_0
  refine KF.b fun v1 => ?_
  refine KF.i ?_ ?_
  · refine KF.i ?_ KF.n
    refine KF.c (kr_Jx4a65c_grow_d5877 hg hM) fun r2 h_r2 => ?_
    exact (kr_Jx4a65c_add_72be8_11 hg h_r2)
  · exact (kr_Jx4a65c_add_72be8_11 hg hM)
theorem kr_Jx4a65c_add_72be8 {M0 : zM} (hg : KD M0) {a0 : Nat} {a1 : Nat} {a2 : Nat} {i3 : Int32} {M : zM} (hM : FR M0 M) : KF (FR M0) (f_Jx4a65c_add_72be8 a0 a1 a2 i3 M) := by
  unfold f_Jx4a65c_add_72be8
  exact (kr_Jx4a65c_add_72be8_0 hg hM)
theorem kr_Jx4a65c_add_9ea2d_0 {M0 : zM} (hg : KD M0) {a0 : Nat} {a1 : Nat} {M : zM} (hM : FR M0 M) : KF (FR M0) (f_Jx4a65c_add_9ea2d_0 a0 a1 M) := by
  unfold f_Jx4a65c_add_9ea2d_0
  refine KF.b fun v1 => ?_
  refine KF.w (fr_pI hg hM rfl) fun M2 h_M2 => ?_
  refine KF.b fun v3 => ?_
  refine KF.b fun v4 => ?_
  refine KF.i ?_ KF.n
  refine KF.c (kr_Jx4a65c_add_72be8 hg h_M2) fun r5 h_r5 => ?_
  exact KF.s h_r5
theorem kr_Jx4a65c_add_9ea2d {M0 : zM} (hg : KD M0) {a0 : Nat} {a1 : Nat} {M : zM} (hM : FR M0 M) : KF (FR M0) (f_Jx4a65c_add_9ea2d a0 a1 M) := by
  unfold f_Jx4a65c_add_9ea2d
  exact (kr_Jx4a65c_add_9ea2d_0 hg hM)
theorem kr_X7_away_0 {M0 : zM} (hg : KD M0) {a0 : Nat} {i1 : Int32} {M : zM} (hM : FR M0 M) : KF (FR M0) (f_X7_away_0 a0 i1 M) := by
  unfold f_X7_away_0
  refine KF.i ?_ KF.n
  refine KF.c (kr_X7_its hg hM) fun r1 h_r1 => ?_
  refine KF.p (fr_gRh h_r1) fun v3 h_v3 => ?_
  refine KF.b fun v4 => ?_
  refine KF.w (fr_tA h_r1 h_v3) fun M5 h_M5 => ?_
  refine KF.b fun v6 => ?_
  refine KF.c (kr_J6_valueOf_2dffe hg h_M5) fun r7 h_r7 => ?_
  refine KF.i ?_ KF.n
  refine KF.c (kr_Jx4a65c_add_9ea2d hg h_r7) fun r8 h_r8 => ?_
  refine KF.b fun v10 => ?_
  refine KF.w (fr_pJ hg h_r8 rfl) fun M11 h_M11 => ?_
  refine KF.w (fr_pI hg h_M11 rfl) fun M12 h_M12 => ?_
  refine KF.w (fr_pI hg h_M12 rfl) fun M13 h_M13 => ?_
  refine KF.b fun v14 => ?_
  refine KF.i ?_ KF.n
  refine KF.c (kr_Jx4a65c_size_8abf5 hg h_M13) fun r15 h_r15 => ?_
  exact KF.s h_r15
theorem kr_X7_away {M0 : zM} (hg : KD M0) {a0 : Nat} {i1 : Int32} {M : zM} (hM : FR M0 M) : KF (FR M0) (f_X7_away a0 i1 M) := by
  unfold f_X7_away
  exact (kr_X7_away_0 hg hM)
theorem kr_X7_discard_65 {M0 : zM} (hg : KD M0) {a0 : Nat} {i1 : Int32} {i_0 : Int32} {M : zM} (hM : FR M0 M) : KF (FR M0) (f_X7_discard_65 a0 i1 i_0 M) := by
  unfold f_X7_discard_65
  refine KF.i ?_ KF.n
  refine KF.c (kr_X7_refuse hg hM) fun r1 h_r1 => ?_
  refine KF.i ?_ ?_
  · refine KF.i ?_ KF.n
    refine KF.c (kr_X7_away hg h_r1) fun r3 h_r3 => ?_
    exact KF.s h_r3
  · exact KF.s h_r1
theorem kr_X7_discard_60 {M0 : zM} (hg : KD M0) {a0 : Nat} {i1 : Int32} {M : zM} (hM : FR M0 M) : KF (FR M0) (f_X7_discard_60 a0 i1 M) := by
  unfold f_X7_discard_60
  exact (kr_X7_discard_65 hg hM)
theorem kr_X7_discard_64 {M0 : zM} (hg : KD M0) {a0 : Nat} {i1 : Int32} {M : zM} (hM : FR M0 M) : KF (FR M0) (f_X7_discard_64 a0 i1 M) := by
  unfold f_X7_discard_64
  exact (kr_X7_discard_65 hg hM)
theorem kr_X7_discard_13 {M0 : zM} (hg : KD M0) {a0 : Nat} {i1 : Int32} {i_0 : Int32} {a_1 : Nat} {M : zM} (hM : FR M0 M) : KF (FR M0) (f_X7_discard_13 a0 i1 i_0 a_1 M) := by
  unfold f_X7_discard_13
  refine KF.i ?_ KF.n
  refine KF.c (kr_X7_start hg hM) fun r1 h_r1 => ?_
  refine KF.i ?_ ?_
  · refine KF.b fun v3 => ?_
    refine KF.i ?_ ?_
    · refine KF.i ?_ KF.n
      refine KF.c (kr_X7_its hg h_r1) fun r4 h_r4 => ?_
      refine KF.p (fr_gRh h_r4) fun v6 h_v6 => ?_
      refine KF.b fun v7 => ?_
      refine KF.i ?_ ?_
      · exact (kr_X7_discard_60 hg h_r4)
      · refine KF.i ?_ KF.n
        refine KF.c (kr_X7_its hg h_r4) fun r8 h_r8 => ?_
        refine KF.b fun v10 => ?_
        refine KF.i ?_ ?_
        · exact (kr_X7_discard_64 hg h_r8)
        · refine KF.b fun v11 => ?_
          refine KF.i ?_ ?_
          · exact (kr_X7_discard_64 hg h_r8)
          · exact (kr_X7_discard_60 hg h_r8)
    · exact (kr_X7_discard_60 hg h_r1)
  · exact KF.s h_r1
theorem kr_X7_discard_0 {M0 : zM} (hg : KD M0) {a0 : Nat} {i1 : Int32} {M : zM} (hM : FR M0 M) : KF (FR M0) (f_X7_discard_0 a0 i1 M) := by
  unfold f_X7_discard_0
  refine KF.c (kr_X7_isKind hg hM) fun r1 h_r1 => ?_
  refine KF.i ?_ ?_
  · exact (kr_X7_discard_13 hg h_r1)
  · exact (kr_X7_discard_13 hg h_r1)
theorem kr_X7_discard {M0 : zM} (hg : KD M0) {a0 : Nat} {i1 : Int32} {M : zM} (hM : FR M0 M) : KF (FR M0) (f_X7_discard a0 i1 M) := by
  unfold f_X7_discard
  exact (kr_X7_discard_0 hg hM)
theorem kr_X7_mayCall_0 {M0 : zM} (hg : KD M0) {a0 : Nat} {i1 : Int32} {M : zM} (hM : FR M0 M) : KF (FR M0) (f_X7_mayCall_0 a0 i1 M) := by
  unfold f_X7_mayCall_0
  refine KF.b fun v1 => ?_
  refine KF.i ?_ ?_
  · refine KF.i ?_ KF.n
    refine KF.c (kr_X7_its hg hM) fun r2 h_r2 => ?_
    refine KF.i ?_ KF.n
    refine KF.c (kr_X6_open hg h_r2) fun r4 h_r4 => ?_
    refine KF.i ?_ ?_
    · exact KF.s h_r4
    · refine KF.i ?_ KF.n
      refine KF.c (kr_X7_its hg h_r4) fun r6 h_r6 => ?_
      refine KF.b fun v8 => ?_
      refine KF.i ?_ ?_
      · refine KF.i ?_ KF.n
        refine KF.c (kr_X7_its hg h_r6) fun r9 h_r9 => ?_
        refine KF.p (fr_gRh h_r9) fun v11 h_v11 => ?_
        refine KF.b fun v12 => ?_
        refine KF.i ?_ ?_
        · exact KF.s h_r9
        · refine KF.i ?_ KF.n
          refine KF.c (kr_X7_its hg h_r9) fun r13 h_r13 => ?_
          refine KF.p (fr_gRh h_r13) fun v15 h_v15 => ?_
          refine KF.b fun v16 => ?_
          refine KF.w (fr_tA h_r13 h_v15) fun M17 h_M17 => ?_
          refine KF.i ?_ KF.n
          refine KF.c (kr_X7_its hg h_M17) fun r18 h_r18 => ?_
          refine KF.i ?_ KF.n
          refine KF.c (kr_X6_isReady hg h_r18) fun r20 h_r20 => ?_
          refine KF.i ?_ KF.n
          refine KF.c (kr_X7_its hg h_r20) fun r22 h_r22 => ?_
          refine KF.p (fr_gRh h_r22) fun v24 h_v24 => ?_
          refine KF.b fun v25 => ?_
          refine KF.w (fr_tA h_r22 h_v24) fun M26 h_M26 => ?_
          refine KF.i ?_ KF.n
          exact KF.s h_M26
      · exact KF.s h_r6
  · exact KF.s hM
theorem kr_X7_mayCall {M0 : zM} (hg : KD M0) {a0 : Nat} {i1 : Int32} {M : zM} (hM : FR M0 M) : KF (FR M0) (f_X7_mayCall a0 i1 M) := by
  unfold f_X7_mayCall
  exact (kr_X7_mayCall_0 hg hM)
theorem kr_X7_call_34 {M0 : zM} (hg : KD M0) {a0 : Nat} {i1 : Int32} {i_0 : Int32} {a_1 : Nat} {M : zM} (hM : FR M0 M) : KF (FR M0) (f_X7_call_34 a0 i1 i_0 a_1 M) := by
  unfold f_X7_call_34
  refine KF.i ?_ KF.n
  refine KF.c (kr_X7_refuse hg hM) fun r1 h_r1 => ?_
  refine KF.i ?_ ?_
  · refine KF.i ?_ KF.n
    refine KF.c (kr_X7_its hg h_r1) fun r3 h_r3 => ?_
    refine KF.w (fr_pZ hg h_r3 rfl) fun M5 h_M5 => ?_
    refine KF.b fun v6 => ?_
    refine KF.w (fr_pI hg h_M5 rfl) fun M7 h_M7 => ?_
    refine KF.b fun v8 => ?_
    refine KF.w (fr_pI hg h_M7 rfl) fun M9 h_M9 => ?_
    refine KF.i ?_ KF.n
    refine KF.c (kr_X7_away hg h_M9) fun r10 h_r10 => ?_
    refine KF.b fun v12 => ?_
    exact KF.s h_r10
  · exact KF.s h_r1
theorem kr_X7_call_13 {M0 : zM} (hg : KD M0) {a0 : Nat} {i1 : Int32} {i_0 : Int32} {a_1 : Nat} {M : zM} (hM : FR M0 M) : KF (FR M0) (f_X7_call_13 a0 i1 i_0 a_1 M) := by
  unfold f_X7_call_13
  refine KF.i ?_ KF.n
  refine KF.c (kr_X7_start hg hM) fun r1 h_r1 => ?_
  refine KF.i ?_ ?_
  · refine KF.i ?_ KF.n
    refine KF.c (kr_X7_mayCall hg h_r1) fun r3 h_r3 => ?_
    refine KF.i ?_ ?_
    · exact (kr_X7_call_34 hg h_r3)
    · exact (kr_X7_call_34 hg h_r3)
  · exact KF.s h_r1
theorem kr_X7_call_0 {M0 : zM} (hg : KD M0) {a0 : Nat} {i1 : Int32} {M : zM} (hM : FR M0 M) : KF (FR M0) (f_X7_call_0 a0 i1 M) := by
  unfold f_X7_call_0
  refine KF.c (kr_X7_isKind hg hM) fun r1 h_r1 => ?_
  refine KF.i ?_ ?_
  · exact (kr_X7_call_13 hg h_r1)
  · exact (kr_X7_call_13 hg h_r1)
theorem kr_X7_call {M0 : zM} (hg : KD M0) {a0 : Nat} {i1 : Int32} {M : zM} (hM : FR M0 M) : KF (FR M0) (f_X7_call a0 i1 M) := by
  unfold f_X7_call
  exact (kr_X7_call_0 hg hM)
theorem kr_X7_mayFour_0 {M0 : zM} (hg : KD M0) {a0 : Nat} {M : zM} (hM : FR M0 M) : KF (FR M0) (f_X7_mayFour_0 a0 M) := by
  unfold f_X7_mayFour_0
  refine KF.b fun v1 => ?_
  refine KF.i ?_ ?_
  · exact KF.s hM
  · refine KF.i ?_ KF.n
    refine KF.c (kr_X7_canDraw hg hM) fun r2 h_r2 => ?_
    refine KF.i ?_ ?_
    · exact KF.s h_r2
    · exact KF.s h_r2
theorem kr_X7_mayFour {M0 : zM} (hg : KD M0) {a0 : Nat} {M : zM} (hM : FR M0 M) : KF (FR M0) (f_X7_mayFour a0 M) := by
  unfold f_X7_mayFour
  exact (kr_X7_mayFour_0 hg hM)
theorem kr_X7_mayClaim_130 {M0 : zM} (hg : KD M0) : ∀ (n : Nat) {a0 : Nat} {i3 : Int32} {a4 : Nat} {i5 : Int32} {M : zM}, FR M0 M → KF (FR M0) (f_X7_mayClaim_130 n a0 i3 a4 i5 M) := by
  intro n
  induction n with
  | zero => exact fun _ => KF.n
  | succ n ih =>
    intro a0 i3 a4 i5 M hM
    rw [f_X7_mayClaim_130]
    refine KF.i ?_ ?_
    · exact KF.s hM
    · refine KF.b fun v1 => ?_
      refine KF.i ?_ ?_
      · exact (ih hM)
      · refine KF.b fun v2 => ?_
        refine KF.i ?_ ?_
        · exact KF.s hM
        · exact (ih hM)
theorem kr_X7_mayClaim_0 {M0 : zM} (hg : KD M0) {a0 : Nat} {i1 : Int32} {i2 : Int32} {i3 : Int32} {M : zM} (hM : FR M0 M) : KF (FR M0) (f_X7_mayClaim_0 a0 i1 i2 i3 M) := by
  unfold f_X7_mayClaim_0
  refine KF.b fun v1 => ?_
  refine KF.i ?_ ?_
  · refine KF.b fun v2 => ?_
    refine KF.i ?_ ?_
    · exact KF.s hM
    · refine KF.b fun v3 => ?_
      refine KF.b fun v4 => ?_
      refine KF.b fun v5 => ?_
      refine KF.i ?_ ?_
      · refine KF.b fun v6 => ?_
        refine KF.b fun v7 => ?_
        refine KF.p (fr_gRh hM) fun v8 h_v8 => ?_
        refine KF.i ?_ ?_
        · refine KF.b fun v23 => ?_
          refine KF.b fun v24 => ?_
          refine KF.i ?_ ?_
          · exact KF.s hM
          · exact KF.s hM
        · refine KF.i ?_ ?_
          · refine KF.b fun v16 => ?_
            refine KF.b fun v17 => ?_
            refine KF.i ?_ ?_
            · exact KF.s hM
            · refine KF.i ?_ KF.n
              refine KF.c (kr_X7_mayFour hg hM) fun r18 h_r18 => ?_
              refine KF.i ?_ ?_
              · exact KF.s h_r18
              · exact KF.s h_r18
          · refine KF.b fun v9 => ?_
            refine KF.i ?_ ?_
            · refine KF.c (kr_X7_isRun hg hM) fun r10 h_r10 => ?_
              refine KF.i ?_ ?_
              · exact KF.s h_r10
              · refine KF.b fun v11 => ?_
                refine KF.c (kr_X7_isIn hg h_r10) fun r12 h_r12 => ?_
                refine KF.i ?_ ?_
                · exact KF.s h_r12
                · exact (kr_X7_mayClaim_130 hg zN h_r12)
            · exact KF.s hM
      · exact KF.s hM
  · exact KF.s hM
theorem kr_X7_mayClaim {M0 : zM} (hg : KD M0) {a0 : Nat} {i1 : Int32} {i2 : Int32} {i3 : Int32} {M : zM} (hM : FR M0 M) : KF (FR M0) (f_X7_mayClaim a0 i1 i2 i3 M) := by
  unfold f_X7_mayClaim
  exact (kr_X7_mayClaim_0 hg hM)
theorem kr_J15_checkIndex_7cf53_0 {M0 : zM} (hg : KD M0) {i0 : Int32} {i1 : Int32} {M : zM} (hM : FR M0 M) : KF (FR M0) (f_J15_checkIndex_7cf53_0 i0 i1 M) := by
  unfold f_J15_checkIndex_7cf53_0
  refine KF.c (kr_J3_checkIndex_8e157 hg hM) fun r1 h_r1 => ?_
  exact KF.s h_r1
theorem kr_J15_checkIndex_7cf53 {M0 : zM} (hg : KD M0) {i0 : Int32} {i1 : Int32} {M : zM} (hM : FR M0 M) : KF (FR M0) (f_J15_checkIndex_7cf53 i0 i1 M) := by
  unfold f_J15_checkIndex_7cf53
  exact (kr_J15_checkIndex_7cf53_0 hg hM)
theorem kr_Jx4a65c_fastRemove_b59b0_34 {M0 : zM} (hg : KD M0) {a0 : Nat} {a1 : Nat} {i3 : Int32} {M : zM} (hM : FR M0 M) : KF (FR M0) (f_Jx4a65c_fastRemove_b59b0_34 a0 a1 i3 M) := by
  unfold f_Jx4a65c_fastRemove_b59b0_34
  refine KF.w (fr_pI hg hM rfl) fun M1 h_M1 => ?_
  refine KF.w (fr_tQ hg h_M1 rfl) fun M2 h_M2 => ?_
  exact KF.s h_M2
theorem kr_Jx4a65c_fastRemove_b59b0_0 {M0 : zM} (hg : KD M0) {a0 : Nat} {a1 : Nat} {i2 : Int32} {M : zM} (hM : FR M0 M) : KF (FR M0) (f_Jx4a65c_fastRemove_b59b0_0 a0 a1 i2 M) := by
  unfold f_Jx4a65c_fastRemove_b59b0_0
  refine KF.b fun v1 => ?_
  refine KF.w (fr_pI hg hM rfl) fun M2 h_M2 => ?_
  refine KF.b fun v3 => ?_
  refine KF.i ?_ ?_
  · exact (kr_Jx4a65c_fastRemove_b59b0_34 hg h_M2)
  · refine KF.w (fr_yQ hg h_M2) fun M4 h_M4 => ?_
    exact (kr_Jx4a65c_fastRemove_b59b0_34 hg h_M4)
theorem kr_Jx4a65c_fastRemove_b59b0 {M0 : zM} (hg : KD M0) {a0 : Nat} {a1 : Nat} {i2 : Int32} {M : zM} (hM : FR M0 M) : KF (FR M0) (f_Jx4a65c_fastRemove_b59b0 a0 a1 i2 M) := by
  unfold f_Jx4a65c_fastRemove_b59b0
  exact (kr_Jx4a65c_fastRemove_b59b0_0 hg hM)
theorem kr_Jx4a65c_remove_915e3_0 {M0 : zM} (hg : KD M0) {a0 : Nat} {i1 : Int32} {M : zM} (hM : FR M0 M) : KF (FR M0) (f_Jx4a65c_remove_915e3_0 a0 i1 M) := by
  unfold f_Jx4a65c_remove_915e3_0
  refine KF.b fun v1 => ?_
  refine KF.c (kr_J15_checkIndex_7cf53 hg hM) fun r2 h_r2 => ?_
  refine KF.b fun v3 => ?_
  refine KF.b fun v4 => ?_
  refine KF.i ?_ KF.n
  refine KF.c (kr_Jx4a65c_fastRemove_b59b0 hg h_r2) fun r5 h_r5 => ?_
  exact KF.s h_r5
theorem kr_Jx4a65c_remove_915e3 {M0 : zM} (hg : KD M0) {a0 : Nat} {i1 : Int32} {M : zM} (hM : FR M0 M) : KF (FR M0) (f_Jx4a65c_remove_915e3 a0 i1 M) := by
  unfold f_Jx4a65c_remove_915e3
  exact (kr_Jx4a65c_remove_915e3_0 hg hM)
theorem kr_X7_leave_0 {M0 : zM} (hg : KD M0) {a0 : Nat} {M : zM} (hM : FR M0 M) : KF (FR M0) (f_X7_leave_0 a0 M) := by
  unfold f_X7_leave_0
  refine KF.i ?_ KF.n
  refine KF.c (kr_X7_its hg hM) fun r1 h_r1 => ?_
  refine KF.b fun v3 => ?_
  refine KF.i ?_ KF.n
  refine KF.c (kr_X7_its hg h_r1) fun r4 h_r4 => ?_
  refine KF.b fun v6 => ?_
  refine KF.i ?_ KF.n
  refine KF.c (kr_Jx4a65c_size_8abf5 hg h_r4) fun r7 h_r7 => ?_
  refine KF.i ?_ KF.n
  refine KF.c (kr_Jx4a65c_remove_915e3 hg h_r7) fun r9 h_r9 => ?_
  exact KF.s h_r9
theorem kr_X7_leave {M0 : zM} (hg : KD M0) {a0 : Nat} {M : zM} (hM : FR M0 M) : KF (FR M0) (f_X7_leave a0 M) := by
  unfold f_X7_leave
  exact (kr_X7_leave_0 hg hM)
theorem kr_X7_drawLast_0 {M0 : zM} (hg : KD M0) {a0 : Nat} {M : zM} (hM : FR M0 M) : KF (FR M0) (f_X7_drawLast_0 a0 M) := by
  unfold f_X7_drawLast_0
  refine KF.b fun v1 => ?_
  refine KF.w (fr_pI hg hM rfl) fun M2 h_M2 => ?_
  refine KF.p (fr_gRw h_M2) fun v3 h_v3 => ?_
  refine KF.b fun v4 => ?_
  refine KF.w (fr_pI hg h_M2 rfl) fun M5 h_M5 => ?_
  refine KF.b fun v6 => ?_
  refine KF.i ?_ KF.n
  refine KF.c (kr_X7_take hg h_M5) fun r7 h_r7 => ?_
  exact KF.s h_r7
theorem kr_X7_drawLast {M0 : zM} (hg : KD M0) {a0 : Nat} {M : zM} (hM : FR M0 M) : KF (FR M0) (f_X7_drawLast a0 M) := by
  unfold f_X7_drawLast
  exact (kr_X7_drawLast_0 hg hM)
theorem kr_X7_claim_193 {M0 : zM} (hg : KD M0) {a4 : Nat} {M : zM} (hM : FR M0 M) : KF (FR M0) (f_X7_claim_193 a4 M) := by
  unfold f_X7_claim_193
  refine KF.b fun v1 => ?_
  refine KF.i ?_ KF.n
  refine KF.c (kr_Jx4a65c_size_8abf5 hg hM) fun r2 h_r2 => ?_
  exact KF.s h_r2
theorem kr_X7_claim_157 {M0 : zM} (hg : KD M0) {K122 : Nat → Int32 → Int32 → Nat → Int32 → Int32 → zM → Option (Int32 × zM)} (hK122 : ∀ {x0 : Nat} {x1 : Int32} {x2 : Int32} {x3 : Nat} {x4 : Int32} {x5 : Int32} {M : zM}, FR M0 M → KF (FR M0) (K122 x0 x1 x2 x3 x4 x5 M)) {a0 : Nat} {i1 : Int32} {i2 : Int32} {a4 : Nat} {i5 : Int32} {i6 : Int32} {i_0 : Int32} {a_1 : Nat} {M : zM} (h_a_1 : hi a_1) (hM : FR M0 M) : KF (FR M0) (f_X7_claim_157 K122 a0 i1 i2 a4 i5 i6 i_0 a_1 M) := by
  unfold f_X7_claim_157
  refine KF.b fun v1 => ?_
  refine KF.w (fr_tA hM h_a_1) fun M2 h_M2 => ?_
  exact (hK122 h_M2)
theorem kr_X7_claim_134 {M0 : zM} (hg : KD M0) {K122 : Nat → Int32 → Int32 → Nat → Int32 → Int32 → zM → Option (Int32 × zM)} (hK122 : ∀ {x0 : Nat} {x1 : Int32} {x2 : Int32} {x3 : Nat} {x4 : Int32} {x5 : Int32} {M : zM}, FR M0 M → KF (FR M0) (K122 x0 x1 x2 x3 x4 x5 M)) {a0 : Nat} {i1 : Int32} {i2 : Int32} {a4 : Nat} {i5 : Int32} {i6 : Int32} {i_0 : Int32} {i_1 : Int32} {M : zM} (hM : FR M0 M) : KF (FR M0) (f_X7_claim_134 K122 a0 i1 i2 a4 i5 i6 i_0 i_1 M) := by
  unfold f_X7_claim_134
  refine KF.i ?_ ?_
  · refine KF.w (fr_pI hg hM rfl) fun M1 h_M1 => ?_
    refine KF.w (fr_pI hg h_M1 rfl) fun M2 h_M2 => ?_
    refine KF.w (fr_pI hg h_M2 rfl) fun M3 h_M3 => ?_
    refine KF.i ?_ ?_
    · refine KF.i ?_ KF.n
      refine KF.c (kr_X7_drawLast hg h_M3) fun r4 h_r4 => ?_
      exact (kr_X7_claim_193 hg h_r4)
    · exact (kr_X7_claim_193 hg h_M3)
  · refine KF.p (fr_gRh hM) fun v7 h_v7 => ?_
    refine KF.i ?_ ?_
    · exact (kr_X7_claim_157 hg hK122 h_v7 hM)
    · exact (kr_X7_claim_157 hg hK122 h_v7 hM)
theorem kr_X7_claim_122 {M0 : zM} (hg : KD M0) : ∀ (n : Nat) {a0 : Nat} {i1 : Int32} {i2 : Int32} {a4 : Nat} {i5 : Int32} {i6 : Int32} {M : zM}, FR M0 M → KF (FR M0) (f_X7_claim_122 n a0 i1 i2 a4 i5 i6 M) := by
  intro n
  induction n with
  | zero => exact fun _ => KF.n
  | succ n ih =>
    intro a0 i1 i2 a4 i5 i6 M hM
    rw [f_X7_claim_122]
    refine KF.i ?_ ?_
    · exact (kr_X7_claim_134 hg ih hM)
    · exact (kr_X7_claim_134 hg ih hM)
theorem kr_X7_claim_98 {M0 : zM} (hg : KD M0) {a0 : Nat} {i1 : Int32} {i2 : Int32} {a4 : Nat} {i_0 : Int32} {M : zM} (hM : FR M0 M) : KF (FR M0) (f_X7_claim_98 a0 i1 i2 a4 i_0 M) := by
  unfold f_X7_claim_98
  refine KF.b fun v1 => ?_
  refine KF.c (kr_X5_init hg (fr_nO hM)) fun r2 h_r2 => ?_
  refine KF.i ?_ KF.n
  refine KF.c (kr_Jx4a65c_add_9ea2d hg h_r2) fun r3 h_r3 => ?_
  exact (kr_X7_claim_122 hg zN h_r3)
theorem kr_X7_claim_50 {M0 : zM} (hg : KD M0) {a0 : Nat} {i1 : Int32} {i2 : Int32} {i3 : Int32} {i_0 : Int32} {a_1 : Nat} {M : zM} (hM : FR M0 M) : KF (FR M0) (f_X7_claim_50 a0 i1 i2 i3 i_0 a_1 M) := by
  unfold f_X7_claim_50
  refine KF.i ?_ KF.n
  refine KF.c (kr_X7_refuse hg hM) fun r1 h_r1 => ?_
  refine KF.i ?_ ?_
  · refine KF.i ?_ KF.n
    refine KF.c (kr_X7_leave hg h_r1) fun r3 h_r3 => ?_
    refine KF.b fun v5 => ?_
    refine KF.b fun v6 => ?_
    refine KF.p (fr_gRh h_r3) fun v7 h_v7 => ?_
    refine KF.b fun v8 => ?_
    refine KF.b fun v9 => ?_
    refine KF.w (fr_tA h_r3 h_v7) fun M10 h_M10 => ?_
    refine KF.i ?_ ?_
    · exact (kr_X7_claim_98 hg h_M10)
    · refine KF.b fun v11 => ?_
      exact (kr_X7_claim_98 hg h_M10)
  · exact KF.s h_r1
theorem kr_X7_claim_27 {M0 : zM} (hg : KD M0) {a0 : Nat} {i1 : Int32} {i2 : Int32} {i3 : Int32} {i_0 : Int32} {a_1 : Nat} {M : zM} (hM : FR M0 M) : KF (FR M0) (f_X7_claim_27 a0 i1 i2 i3 i_0 a_1 M) := by
  unfold f_X7_claim_27
  refine KF.i ?_ KF.n
  refine KF.c (kr_X7_refuse hg hM) fun r1 h_r1 => ?_
  refine KF.i ?_ ?_
  · refine KF.i ?_ KF.n
    refine KF.c (kr_X7_mayClaim hg h_r1) fun r3 h_r3 => ?_
    refine KF.i ?_ ?_
    · exact (kr_X7_claim_50 hg h_r3)
    · exact (kr_X7_claim_50 hg h_r3)
  · exact KF.s h_r1
theorem kr_X7_claim_0 {M0 : zM} (hg : KD M0) {a0 : Nat} {i1 : Int32} {i2 : Int32} {i3 : Int32} {M : zM} (hM : FR M0 M) : KF (FR M0) (f_X7_claim_0 a0 i1 i2 i3 M) := by
  unfold f_X7_claim_0
  refine KF.c (kr_X7_isNoPlayer hg hM) fun r1 h_r1 => ?_
  refine KF.i ?_ KF.n
  refine KF.c (kr_X7_start hg h_r1) fun r2 h_r2 => ?_
  refine KF.i ?_ ?_
  · refine KF.c (kr_X7_isIn hg h_r2) fun r4 h_r4 => ?_
    refine KF.i ?_ ?_
    · exact (kr_X7_claim_27 hg h_r4)
    · exact (kr_X7_claim_27 hg h_r4)
  · exact KF.s h_r2
theorem kr_X7_claim {M0 : zM} (hg : KD M0) {a0 : Nat} {i1 : Int32} {i2 : Int32} {i3 : Int32} {M : zM} (hM : FR M0 M) : KF (FR M0) (f_X7_claim a0 i1 i2 i3 M) := by
  unfold f_X7_claim
  exact (kr_X7_claim_0 hg hM)
theorem kr_X7_four_76 {M0 : zM} (hg : KD M0) {a0 : Nat} {i1 : Int32} {i_0 : Int32} {a_1 : Nat} {M : zM} (hM : FR M0 M) : KF (FR M0) (f_X7_four_76 a0 i1 i_0 a_1 M) := by
  unfold f_X7_four_76
  refine KF.i ?_ KF.n
  refine KF.c (kr_X7_refuse hg hM) fun r1 h_r1 => ?_
  refine KF.i ?_ ?_
  · refine KF.i ?_ KF.n
    refine KF.c (kr_X7_its hg h_r1) fun r3 h_r3 => ?_
    refine KF.p (fr_gRh h_r3) fun v5 h_v5 => ?_
    refine KF.b fun v6 => ?_
    refine KF.w (fr_tA h_r3 h_v5) fun M7 h_M7 => ?_
    refine KF.i ?_ KF.n
    refine KF.c (kr_X7_its hg h_M7) fun r8 h_r8 => ?_
    refine KF.b fun v10 => ?_
    refine KF.c (kr_X5_init hg (fr_nO h_r8)) fun r11 h_r11 => ?_
    refine KF.i ?_ KF.n
    refine KF.c (kr_Jx4a65c_add_9ea2d hg h_r11) fun r12 h_r12 => ?_
    refine KF.i ?_ KF.n
    refine KF.c (kr_X7_drawLast hg h_r12) fun r14 h_r14 => ?_
    exact KF.s h_r14
  · exact KF.s h_r1
theorem kr_X7_four_65 {M0 : zM} (hg : KD M0) {a0 : Nat} {i1 : Int32} {i_0 : Int32} {M : zM} (hM : FR M0 M) : KF (FR M0) (f_X7_four_65 a0 i1 i_0 M) := by
  unfold f_X7_four_65
  refine KF.i ?_ ?_
  · exact (kr_X7_four_76 hg hM)
  · exact (kr_X7_four_76 hg hM)
theorem kr_X7_four_64 {M0 : zM} (hg : KD M0) {a0 : Nat} {i1 : Int32} {M : zM} (hM : FR M0 M) : KF (FR M0) (f_X7_four_64 a0 i1 M) := by
  unfold f_X7_four_64
  exact (kr_X7_four_65 hg hM)
theorem kr_X7_four_13 {M0 : zM} (hg : KD M0) {a0 : Nat} {i1 : Int32} {i_0 : Int32} {a_1 : Nat} {M : zM} (hM : FR M0 M) : KF (FR M0) (f_X7_four_13 a0 i1 i_0 a_1 M) := by
  unfold f_X7_four_13
  refine KF.i ?_ KF.n
  refine KF.c (kr_X7_start hg hM) fun r1 h_r1 => ?_
  refine KF.i ?_ ?_
  · refine KF.b fun v3 => ?_
    refine KF.i ?_ ?_
    · refine KF.i ?_ KF.n
      refine KF.c (kr_X7_its hg h_r1) fun r4 h_r4 => ?_
      refine KF.b fun v6 => ?_
      refine KF.i ?_ ?_
      · refine KF.i ?_ KF.n
        refine KF.c (kr_X7_its hg h_r4) fun r7 h_r7 => ?_
        refine KF.p (fr_gRh h_r7) fun v9 h_v9 => ?_
        refine KF.b fun v10 => ?_
        refine KF.i ?_ ?_
        · refine KF.i ?_ KF.n
          refine KF.c (kr_X7_mayFour hg h_r7) fun r11 h_r11 => ?_
          refine KF.i ?_ ?_
          · exact (kr_X7_four_64 hg h_r11)
          · exact (kr_X7_four_65 hg h_r11)
        · exact (kr_X7_four_64 hg h_r7)
      · exact (kr_X7_four_64 hg h_r4)
    · exact (kr_X7_four_64 hg h_r1)
  · exact KF.s h_r1
theorem kr_X7_four_0 {M0 : zM} (hg : KD M0) {a0 : Nat} {i1 : Int32} {M : zM} (hM : FR M0 M) : KF (FR M0) (f_X7_four_0 a0 i1 M) := by
  unfold f_X7_four_0
  refine KF.c (kr_X7_isKind hg hM) fun r1 h_r1 => ?_
  refine KF.i ?_ ?_
  · exact (kr_X7_four_13 hg h_r1)
  · exact (kr_X7_four_13 hg h_r1)
theorem kr_X7_four {M0 : zM} (hg : KD M0) {a0 : Nat} {i1 : Int32} {M : zM} (hM : FR M0 M) : KF (FR M0) (f_X7_four a0 i1 M) := by
  unfold f_X7_four
  exact (kr_X7_four_0 hg hM)
theorem kr_X7_pass_14 {M0 : zM} (hg : KD M0) {a0 : Nat} {i_0 : Int32} {a_1 : Nat} {M : zM} (hM : FR M0 M) : KF (FR M0) (f_X7_pass_14 a0 i_0 a_1 M) := by
  unfold f_X7_pass_14
  refine KF.i ?_ KF.n
  refine KF.c (kr_X7_start hg hM) fun r1 h_r1 => ?_
  refine KF.i ?_ ?_
  · refine KF.b fun v3 => ?_
    refine KF.w (fr_pI hg h_r1 rfl) fun M4 h_M4 => ?_
    refine KF.w (fr_pI hg h_M4 rfl) fun M5 h_M5 => ?_
    refine KF.b fun v6 => ?_
    exact KF.s h_M5
  · exact KF.s h_r1
theorem kr_X7_pass_0 {M0 : zM} (hg : KD M0) {a0 : Nat} {M : zM} (hM : FR M0 M) : KF (FR M0) (f_X7_pass_0 a0 M) := by
  unfold f_X7_pass_0
  refine KF.b fun v1 => ?_
  refine KF.i ?_ ?_
  · exact (kr_X7_pass_14 hg hM)
  · exact (kr_X7_pass_14 hg hM)
theorem kr_X7_pass {M0 : zM} (hg : KD M0) {a0 : Nat} {M : zM} (hM : FR M0 M) : KF (FR M0) (f_X7_pass a0 M) := by
  unfold f_X7_pass
  exact (kr_X7_pass_0 hg hM)
theorem kr_J9_floorMod_7cf53_0 {M0 : zM} (hg : KD M0) {i0 : Int32} {i1 : Int32} {M : zM} (hM : FR M0 M) : KF (FR M0) (f_J9_floorMod_7cf53_0 i0 i1 M) := by
  unfold f_J9_floorMod_7cf53_0
  refine KF.i ?_ ?_
  · exact KF.n
  · refine KF.i ?_ ?_
    · exact KF.s hM
    · refine KF.i ?_ ?_
      · exact KF.s hM
      · exact KF.s hM
theorem kr_J9_floorMod_7cf53 {M0 : zM} (hg : KD M0) {i0 : Int32} {i1 : Int32} {M : zM} (hM : FR M0 M) : KF (FR M0) (f_J9_floorMod_7cf53 i0 i1 M) := by
  unfold f_J9_floorMod_7cf53
  exact (kr_J9_floorMod_7cf53_0 hg hM)
theorem kr_X7_wind_0 {M0 : zM} (hg : KD M0) {a0 : Nat} {i1 : Int32} {M : zM} (hM : FR M0 M) : KF (FR M0) (f_X7_wind_0 a0 i1 M) := by
  unfold f_X7_wind_0
  refine KF.b fun v1 => ?_
  refine KF.c (kr_J9_floorMod_7cf53 hg hM) fun r2 h_r2 => ?_
  exact KF.s h_r2
theorem kr_X7_wind {M0 : zM} (hg : KD M0) {a0 : Nat} {i1 : Int32} {M : zM} (hM : FR M0 M) : KF (FR M0) (f_X7_wind a0 i1 M) := by
  unfold f_X7_wind
  exact (kr_X7_wind_0 hg hM)
theorem kr_X7_areAll_2 {M0 : zM} (hg : KD M0) : ∀ (n : Nat) {a0 : Nat} {i1 : Int32} {i2 : Int32} {i3 : Int32} {M : zM}, FR M0 M → KF (FR M0) (f_X7_areAll_2 n a0 i1 i2 i3 M) := by
  intro n
  induction n with
  | zero => exact fun _ => KF.n
  | succ n ih =>
    intro a0 i1 i2 i3 M hM
    rw [f_X7_areAll_2]
    refine KF.i ?_ ?_
    · exact KF.s hM
    · refine KF.b fun v1 => ?_
      refine KF.i ?_ ?_
      · exact (ih hM)
      · refine KF.c (kr_X7_isIn hg hM) fun r2 h_r2 => ?_
        refine KF.i ?_ ?_
        · exact KF.s h_r2
        · exact (ih h_r2)
theorem kr_X7_areAll_0 {M0 : zM} (hg : KD M0) {a0 : Nat} {i1 : Int32} {i2 : Int32} {M : zM} (hM : FR M0 M) : KF (FR M0) (f_X7_areAll_0 a0 i1 i2 M) := by
  unfold f_X7_areAll_0
  exact (kr_X7_areAll_2 hg zN hM)
theorem kr_X7_areAll {M0 : zM} (hg : KD M0) {a0 : Nat} {i1 : Int32} {i2 : Int32} {M : zM} (hM : FR M0 M) : KF (FR M0) (f_X7_areAll a0 i1 i2 M) := by
  unfold f_X7_areAll
  exact (kr_X7_areAll_0 hg hM)
theorem kr_X7_valueOfTiles_250 {M0 : zM} (hg : KD M0) {i5 : Int32} {i6 : Int32} {i_0 : Int32} {M : zM} (hM : FR M0 M) : KF (FR M0) (f_X7_valueOfTiles_250 i5 i6 i_0 M) := by
  unfold f_X7_valueOfTiles_250
  refine KF.i ?_ ?_
  · exact KF.s hM
  · refine KF.i ?_ ?_
    · exact KF.s hM
    · exact KF.s hM
theorem kr_X7_valueOfTiles_249 {M0 : zM} (hg : KD M0) {i5 : Int32} {i6 : Int32} {M : zM} (hM : FR M0 M) : KF (FR M0) (f_X7_valueOfTiles_249 i5 i6 M) := by
  unfold f_X7_valueOfTiles_249
  exact (kr_X7_valueOfTiles_250 hg hM)
theorem kr_X7_valueOfTiles_245 {M0 : zM} (hg : KD M0) {i5 : Int32} {i6 : Int32} {M : zM} (hM : FR M0 M) : KF (FR M0) (f_X7_valueOfTiles_245 i5 i6 M) := by
  unfold f_X7_valueOfTiles_245
  exact (kr_X7_valueOfTiles_250 hg hM)
theorem kr_X7_valueOfTiles_215 {M0 : zM} (hg : KD M0) {i5 : Int32} {i6 : Int32} {a7 : Nat} {i_0 : Int32} {M : zM} (hM : FR M0 M) : KF (FR M0) (f_X7_valueOfTiles_215 i5 i6 a7 i_0 M) := by
  unfold f_X7_valueOfTiles_215
  refine KF.i ?_ ?_
  · exact (kr_X7_valueOfTiles_249 hg hM)
  · refine KF.c (kr_X7_areAll hg hM) fun r1 h_r1 => ?_
    refine KF.i ?_ ?_
    · refine KF.c (kr_X7_areAll hg h_r1) fun r2 h_r2 => ?_
      refine KF.i ?_ ?_
      · exact (kr_X7_valueOfTiles_249 hg h_r2)
      · exact (kr_X7_valueOfTiles_245 hg h_r2)
    · exact (kr_X7_valueOfTiles_245 hg h_r1)
theorem kr_X7_valueOfTiles_179 {M0 : zM} (hg : KD M0) {a3 : Nat} {i5 : Int32} {i_0 : Int32} {i_1 : Int32} {M : zM} (hM : FR M0 M) : KF (FR M0) (f_X7_valueOfTiles_179 a3 i5 i_0 i_1 M) := by
  unfold f_X7_valueOfTiles_179
  refine KF.cp (fr_aA hg hM) fun r1 h_r1 g_r1 => ?_
  refine KF.w (fr_yI0 g_r1 h_r1) fun M2 h_M2 => ?_
  refine KF.c (kr_X7_areAll hg h_M2) fun r3 h_r3 => ?_
  refine KF.i ?_ ?_
  · exact (kr_X7_valueOfTiles_215 hg h_r3)
  · exact (kr_X7_valueOfTiles_215 hg h_r3)
theorem kr_X7_valueOfTiles_161 {M0 : zM} (hg : KD M0) {a0 : Nat} {a3 : Nat} {i4 : Int32} {i5 : Int32} {i_0 : Int32} {i_1 : Int32} {M : zM} (hM : FR M0 M) : KF (FR M0) (f_X7_valueOfTiles_161 a0 a3 i4 i5 i_0 i_1 M) := by
  unfold f_X7_valueOfTiles_161
  refine KF.b fun v1 => ?_
  refine KF.b fun v2 => ?_
  refine KF.i ?_ ?_
  · exact (kr_X7_valueOfTiles_179 hg hM)
  · exact (kr_X7_valueOfTiles_179 hg hM)
theorem kr_X7_valueOfTiles_160 {M0 : zM} (hg : KD M0) {a0 : Nat} {a3 : Nat} {i4 : Int32} {i5 : Int32} {i_0 : Int32} {M : zM} (hM : FR M0 M) : KF (FR M0) (f_X7_valueOfTiles_160 a0 a3 i4 i5 i_0 M) := by
  unfold f_X7_valueOfTiles_160
  exact (kr_X7_valueOfTiles_161 hg hM)
theorem kr_X7_valueOfTiles_144 {M0 : zM} (hg : KD M0) {a0 : Nat} {a1 : Nat} {i2 : Int32} {a3 : Nat} {i4 : Int32} {i5 : Int32} {i_0 : Int32} {i_1 : Int32} {M : zM} (hM : FR M0 M) : KF (FR M0) (f_X7_valueOfTiles_144 a0 a1 i2 a3 i4 i5 i_0 i_1 M) := by
  unfold f_X7_valueOfTiles_144
  refine KF.i ?_ ?_
  · exact (kr_X7_valueOfTiles_160 hg hM)
  · refine KF.i ?_ KF.n
    refine KF.c (kr_X6_open hg hM) fun r1 h_r1 => ?_
    refine KF.i ?_ ?_
    · exact (kr_X7_valueOfTiles_161 hg h_r1)
    · exact (kr_X7_valueOfTiles_160 hg h_r1)
theorem kr_X7_valueOfTiles_105 {M0 : zM} (hg : KD M0) {K14 : Nat → Nat → Int32 → Nat → Int32 → Int32 → Int32 → zM → Option (Int32 × zM)} (hK14 : ∀ {x0 : Nat} {x1 : Nat} {x2 : Int32} {x3 : Nat} {x4 : Int32} {x5 : Int32} {x6 : Int32} {M : zM}, hi x3 → FR M0 M → KF (FR M0) (K14 x0 x1 x2 x3 x4 x5 x6 M)) {a0 : Nat} {a1 : Nat} {i2 : Int32} {a3 : Nat} {i5 : Int32} {i6 : Int32} {i_0 : Int32} {i_1 : Int32} {M : zM} (h_a3 : hi a3) (hM : FR M0 M) : KF (FR M0) (f_X7_valueOfTiles_105 K14 a0 a1 i2 a3 i5 i6 i_0 i_1 M) := by
  unfold f_X7_valueOfTiles_105
  refine KF.i ?_ ?_
  · exact (hK14 h_a3 hM)
  · exact (hK14 h_a3 hM)
theorem kr_X7_valueOfTiles_41 {M0 : zM} (hg : KD M0) {K14 : Nat → Nat → Int32 → Nat → Int32 → Int32 → Int32 → zM → Option (Int32 × zM)} (hK14 : ∀ {x0 : Nat} {x1 : Nat} {x2 : Int32} {x3 : Nat} {x4 : Int32} {x5 : Int32} {x6 : Int32} {M : zM}, hi x3 → FR M0 M → KF (FR M0) (K14 x0 x1 x2 x3 x4 x5 x6 M)) : ∀ (n : Nat) {a0 : Nat} {a1 : Nat} {i2 : Int32} {a3 : Nat} {i4 : Int32} {i5 : Int32} {i6 : Int32} {a7 : Nat} {M : zM}, hi a3 → FR M0 M → KF (FR M0) (f_X7_valueOfTiles_41 K14 n a0 a1 i2 a3 i4 i5 i6 a7 M) := by
  intro n
  induction n with
  | zero => exact fun _ _ => KF.n
  | succ n ih =>
    intro a0 a1 i2 a3 i4 i5 i6 a7 M h_a3 hM
    rw [f_X7_valueOfTiles_41]
    refine KF.i ?_ KF.n
    refine KF.c (kr_Jx35411_hasNext_aae02 hg hM) fun r1 h_r1 => ?_
    refine KF.i ?_ ?_
    · refine KF.b fun v3 => ?_
      refine KF.i ?_ ?_
      · exact (hK14 h_a3 h_r1)
      · refine KF.c (kr_X7_isEnd hg h_r1) fun r4 h_r4 => ?_
        refine KF.i ?_ ?_
        · exact (kr_X7_valueOfTiles_105 hg hK14 h_a3 h_r4)
        · exact (kr_X7_valueOfTiles_105 hg hK14 h_a3 h_r4)
    · refine KF.i ?_ KF.n
      refine KF.c (kr_Jx35411_next_0502b hg h_r1) fun r7 h_r7 => ?_
      refine KF.i ?_ KF.n
      refine KF.b fun v10 => ?_
      refine KF.i ?_ KF.n
      refine KF.c (kr_X5_of hg h_r7) fun r11 h_r11 => ?_
      refine KF.w (fr_tA h_r11 h_a3) fun M13 h_M13 => ?_
      exact (ih h_a3 h_M13)
theorem kr_X7_valueOfTiles_14 {M0 : zM} (hg : KD M0) : ∀ (n : Nat) {a0 : Nat} {a1 : Nat} {i2 : Int32} {a3 : Nat} {i4 : Int32} {i5 : Int32} {i6 : Int32} {M : zM}, hi a3 → FR M0 M → KF (FR M0) (f_X7_valueOfTiles_14 n a0 a1 i2 a3 i4 i5 i6 M) := by
  intro n
  induction n with
  | zero => exact fun _ _ => KF.n
  | succ n ih =>
    intro a0 a1 i2 a3 i4 i5 i6 M h_a3 hM
    rw [f_X7_valueOfTiles_14]
    refine KF.i ?_ ?_
    · refine KF.b fun v1 => ?_
      refine KF.i ?_ ?_
      · exact (kr_X7_valueOfTiles_144 hg hM)
      · exact (kr_X7_valueOfTiles_144 hg hM)
    · refine KF.p (fr_gRh hM) fun v3 h_v3 => ?_
      refine KF.b fun v4 => ?_
      refine KF.w (fr_tA hM h_a3) fun M5 h_M5 => ?_
      refine KF.b fun v6 => ?_
      refine KF.i ?_ KF.n
      refine KF.c (kr_Jx4a65c_iterator_32c93 hg h_M5) fun r7 h_r7 => ?_
      exact (kr_X7_valueOfTiles_41 hg ih zN h_a3 h_r7)
theorem kr_X7_valueOfTiles_0 {M0 : zM} (hg : KD M0) {a0 : Nat} {a1 : Nat} {i2 : Int32} {M : zM} (hM : FR M0 M) : KF (FR M0) (f_X7_valueOfTiles_0 a0 a1 i2 M) := by
  unfold f_X7_valueOfTiles_0
  refine KF.cp (fr_aA hg hM) fun r1 h_r1 g_r1 => ?_
  exact (kr_X7_valueOfTiles_14 hg zN h_r1 g_r1)
theorem kr_X7_valueOfTiles {M0 : zM} (hg : KD M0) {a0 : Nat} {a1 : Nat} {i2 : Int32} {M : zM} (hM : FR M0 M) : KF (FR M0) (f_X7_valueOfTiles a0 a1 i2 M) := by
  unfold f_X7_valueOfTiles
  exact (kr_X7_valueOfTiles_0 hg hM)
theorem kr_X7_valueOfThree_0 {M0 : zM} (hg : KD M0) {a0 : Nat} {i1 : Int32} {i2 : Int32} {M : zM} (hM : FR M0 M) : KF (FR M0) (f_X7_valueOfThree_0 a0 i1 i2 M) := by
  unfold f_X7_valueOfThree_0
  refine KF.i ?_ ?_
  · exact KF.s hM
  · refine KF.i ?_ KF.n
    refine KF.c (kr_X7_wind hg hM) fun r1 h_r1 => ?_
    refine KF.i ?_ ?_
    · exact KF.s h_r1
    · exact KF.s h_r1
theorem kr_X7_valueOfThree {M0 : zM} (hg : KD M0) {a0 : Nat} {i1 : Int32} {i2 : Int32} {M : zM} (hM : FR M0 M) : KF (FR M0) (f_X7_valueOfThree a0 i1 i2 M) := by
  unfold f_X7_valueOfThree
  exact (kr_X7_valueOfThree_0 hg hM)
theorem kr_X7_valueOfSets_185 {M0 : zM} (hg : KD M0) {RC_X7_valueOfSets : Nat → Nat → Int32 → Int32 → Int32 → Int32 → zM → Option (Int32 × zM)} (hRC_X7_valueOfSets : ∀ {x0 : Nat} {x1 : Nat} {x2 : Int32} {x3 : Int32} {x4 : Int32} {x5 : Int32} {M : zM}, hi x1 → FR M0 M → KF (FR M0) (RC_X7_valueOfSets x0 x1 x2 x3 x4 x5 M)) : ∀ (n : Nat) {a1 : Nat} {i6 : Int32} {i7 : Int32} {i8 : Int32} {M : zM}, hi a1 → FR M0 M → KF (FR M0) (f_X7_valueOfSets_185 RC_X7_valueOfSets n a1 i6 i7 i8 M) := by
  intro n
  induction n with
  | zero => exact fun _ _ => KF.n
  | succ n ih =>
    intro a1 i6 i7 i8 M h_a1 hM
    rw [f_X7_valueOfSets_185]
    refine KF.i ?_ ?_
    · exact KF.s hM
    · refine KF.b fun v1 => ?_
      refine KF.w (fr_tA hM h_a1) fun M2 h_M2 => ?_
      exact (ih h_a1 h_M2)
theorem kr_X7_valueOfSets_139 {M0 : zM} (hg : KD M0) {RC_X7_valueOfSets : Nat → Nat → Int32 → Int32 → Int32 → Int32 → zM → Option (Int32 × zM)} (hRC_X7_valueOfSets : ∀ {x0 : Nat} {x1 : Nat} {x2 : Int32} {x3 : Int32} {x4 : Int32} {x5 : Int32} {M : zM}, hi x1 → FR M0 M → KF (FR M0) (RC_X7_valueOfSets x0 x1 x2 x3 x4 x5 M)) : ∀ (n : Nat) {a0 : Nat} {a1 : Nat} {i2 : Int32} {i3 : Int32} {i4 : Int32} {i5 : Int32} {i6 : Int32} {i7 : Int32} {i8 : Int32} {M : zM}, hi a1 → FR M0 M → KF (FR M0) (f_X7_valueOfSets_139 RC_X7_valueOfSets n a0 a1 i2 i3 i4 i5 i6 i7 i8 M) := by
  intro n
  induction n with
  | zero => exact fun _ _ => KF.n
  | succ n ih =>
    intro a0 a1 i2 i3 i4 i5 i6 i7 i8 M h_a1 hM
    rw [f_X7_valueOfSets_139]
    refine KF.i ?_ ?_
    · refine KF.i ?_ KF.n
      refine KF.c (hRC_X7_valueOfSets h_a1 hM) fun r1 h_r1 => ?_
      refine KF.c (kr_J9_max_7cf53 hg h_r1) fun r3 h_r3 => ?_
      exact (kr_X7_valueOfSets_185 hg hRC_X7_valueOfSets zN h_a1 h_r3)
    · refine KF.b fun v4 => ?_
      refine KF.w (fr_tA hM h_a1) fun M5 h_M5 => ?_
      exact (ih h_a1 h_M5)
theorem kr_X7_valueOfSets_106 {M0 : zM} (hg : KD M0) {RC_X7_valueOfSets : Nat → Nat → Int32 → Int32 → Int32 → Int32 → zM → Option (Int32 × zM)} (hRC_X7_valueOfSets : ∀ {x0 : Nat} {x1 : Nat} {x2 : Int32} {x3 : Int32} {x4 : Int32} {x5 : Int32} {M : zM}, hi x1 → FR M0 M → KF (FR M0) (RC_X7_valueOfSets x0 x1 x2 x3 x4 x5 M)) {a0 : Nat} {a1 : Nat} {i2 : Int32} {i3 : Int32} {i4 : Int32} {i5 : Int32} {i6 : Int32} {i7 : Int32} {M : zM} (h_a1 : hi a1) (hM : FR M0 M) : KF (FR M0) (f_X7_valueOfSets_106 RC_X7_valueOfSets a0 a1 i2 i3 i4 i5 i6 i7 M) := by
  unfold f_X7_valueOfSets_106
  refine KF.c (kr_X7_isRun hg hM) fun r1 h_r1 => ?_
  refine KF.i ?_ ?_
  · exact KF.s h_r1
  · refine KF.b fun v2 => ?_
    refine KF.i ?_ ?_
    · exact KF.s h_r1
    · refine KF.b fun v3 => ?_
      refine KF.i ?_ ?_
      · exact KF.s h_r1
      · exact (kr_X7_valueOfSets_139 hg hRC_X7_valueOfSets zN h_a1 h_r1)
theorem kr_X7_valueOfSets_23 {M0 : zM} (hg : KD M0) {RC_X7_valueOfSets : Nat → Nat → Int32 → Int32 → Int32 → Int32 → zM → Option (Int32 × zM)} (hRC_X7_valueOfSets : ∀ {x0 : Nat} {x1 : Nat} {x2 : Int32} {x3 : Int32} {x4 : Int32} {x5 : Int32} {M : zM}, hi x1 → FR M0 M → KF (FR M0) (RC_X7_valueOfSets x0 x1 x2 x3 x4 x5 M)) {a0 : Nat} {a1 : Nat} {i2 : Int32} {i3 : Int32} {i4 : Int32} {i5 : Int32} {i6 : Int32} {M : zM} (h_a1 : hi a1) (hM : FR M0 M) : KF (FR M0) (f_X7_valueOfSets_23 RC_X7_valueOfSets a0 a1 i2 i3 i4 i5 i6 M) := by
  unfold f_X7_valueOfSets_23
  refine KF.i ?_ ?_
  · refine KF.i ?_ ?_
    · refine KF.i ?_ ?_
      · exact KF.s hM
      · exact KF.s hM
    · exact KF.s hM
  · refine KF.b fun v1 => ?_
    refine KF.i ?_ ?_
    · exact (kr_X7_valueOfSets_106 hg hRC_X7_valueOfSets h_a1 hM)
    · refine KF.b fun v2 => ?_
      refine KF.w (fr_tA hM h_a1) fun M3 h_M3 => ?_
      refine KF.i ?_ KF.n
      refine KF.c (kr_X7_valueOfThree hg h_M3) fun r4 h_r4 => ?_
      refine KF.i ?_ KF.n
      refine KF.c (hRC_X7_valueOfSets h_a1 h_r4) fun r6 h_r6 => ?_
      refine KF.b fun v8 => ?_
      refine KF.w (fr_tA h_r6 h_a1) fun M9 h_M9 => ?_
      exact (kr_X7_valueOfSets_106 hg hRC_X7_valueOfSets h_a1 h_M9)
theorem kr_X7_valueOfSets_3 {M0 : zM} (hg : KD M0) {RC_X7_valueOfSets : Nat → Nat → Int32 → Int32 → Int32 → Int32 → zM → Option (Int32 × zM)} (hRC_X7_valueOfSets : ∀ {x0 : Nat} {x1 : Nat} {x2 : Int32} {x3 : Int32} {x4 : Int32} {x5 : Int32} {M : zM}, hi x1 → FR M0 M → KF (FR M0) (RC_X7_valueOfSets x0 x1 x2 x3 x4 x5 M)) : ∀ (n : Nat) {a0 : Nat} {a1 : Nat} {i2 : Int32} {i3 : Int32} {i4 : Int32} {i5 : Int32} {i6 : Int32} {M : zM}, hi a1 → FR M0 M → KF (FR M0) (f_X7_valueOfSets_3 RC_X7_valueOfSets n a0 a1 i2 i3 i4 i5 i6 M) := by
  intro n
  induction n with
  | zero => exact fun _ _ => KF.n
  | succ n ih =>
    intro a0 a1 i2 i3 i4 i5 i6 M h_a1 hM
    rw [f_X7_valueOfSets_3]
    refine KF.i ?_ ?_
    · exact (kr_X7_valueOfSets_23 hg hRC_X7_valueOfSets h_a1 hM)
    · refine KF.b fun v1 => ?_
      refine KF.i ?_ ?_
      · exact (ih h_a1 hM)
      · exact (kr_X7_valueOfSets_23 hg hRC_X7_valueOfSets h_a1 hM)
theorem kr_X7_valueOfSets_0 {M0 : zM} (hg : KD M0) {RC_X7_valueOfSets : Nat → Nat → Int32 → Int32 → Int32 → Int32 → zM → Option (Int32 × zM)} (hRC_X7_valueOfSets : ∀ {x0 : Nat} {x1 : Nat} {x2 : Int32} {x3 : Int32} {x4 : Int32} {x5 : Int32} {M : zM}, hi x1 → FR M0 M → KF (FR M0) (RC_X7_valueOfSets x0 x1 x2 x3 x4 x5 M)) {a0 : Nat} {a1 : Nat} {i2 : Int32} {i3 : Int32} {i4 : Int32} {i5 : Int32} {M : zM} (h_a1 : hi a1) (hM : FR M0 M) : KF (FR M0) (f_X7_valueOfSets_0 RC_X7_valueOfSets a0 a1 i2 i3 i4 i5 M) := by
  unfold f_X7_valueOfSets_0
  exact (kr_X7_valueOfSets_3 hg hRC_X7_valueOfSets zN h_a1 hM)
theorem kr_X7_valueOfSets {M0 : zM} (hg : KD M0) : ∀ (n : Nat) {a0 : Nat} {a1 : Nat} {i2 : Int32} {i3 : Int32} {i4 : Int32} {i5 : Int32} {M : zM}, hi a1 → FR M0 M → KF (FR M0) (f_X7_valueOfSets n a0 a1 i2 i3 i4 i5 M) := by
  intro n
  induction n with
  | zero => exact fun _ _ => KF.n
  | succ n ih =>
    intro a0 a1 i2 i3 i4 i5 M h_a1 hM
    rw [f_X7_valueOfSets]
    exact (kr_X7_valueOfSets_0 hg ih h_a1 hM)
theorem kr_X7_value_80 {M0 : zM} (hg : KD M0) : ∀ (n : Nat) {a0 : Nat} {i1 : Int32} {i2 : Int32} {a3 : Nat} {i4 : Int32} {i5 : Int32} {i6 : Int32} {i7 : Int32} {M : zM}, FR M0 M → KF (FR M0) (f_X7_value_80 n a0 i1 i2 a3 i4 i5 i6 i7 M) := by
  intro n
  induction n with
  | zero => exact fun _ => KF.n
  | succ n ih =>
    intro a0 i1 i2 a3 i4 i5 i6 i7 M hM
    rw [f_X7_value_80]
    refine KF.i ?_ ?_
    · refine KF.i ?_ KF.n
      refine KF.c (kr_X7_valueOfTiles hg hM) fun r1 h_r1 => ?_
      refine KF.c (kr_J9_min_7cf53 hg h_r1) fun r3 h_r3 => ?_
      exact KF.s h_r3
    · refine KF.p (fr_gRh hM) fun v4 h_v4 => ?_
      refine KF.b fun v5 => ?_
      refine KF.i ?_ ?_
      · exact (ih hM)
      · refine KF.p (fr_gRh hM) fun v6 h_v6 => ?_
        refine KF.b fun v7 => ?_
        refine KF.w (fr_tA hM h_v6) fun M8 h_M8 => ?_
        refine KF.p (fr_gRh h_M8) fun v9 h_v9 => ?_
        refine KF.b fun v10 => ?_
        refine KF.i ?_ KF.n
        refine KF.c (kr_Jx4a65c_size_8abf5 hg h_M8) fun r11 h_r11 => ?_
        refine KF.i ?_ KF.n
        refine KF.c (kr_X7_valueOfSets hg zR h_v9 h_r11) fun r13 h_r13 => ?_
        refine KF.c (kr_J9_max_7cf53 hg h_r13) fun r15 h_r15 => ?_
        refine KF.p (fr_gRh h_r15) fun v16 h_v16 => ?_
        refine KF.b fun v17 => ?_
        refine KF.w (fr_tA h_r15 h_v16) fun M18 h_M18 => ?_
        exact (ih h_M18)
theorem kr_X7_value_22 {M0 : zM} (hg : KD M0) : ∀ (n : Nat) {a0 : Nat} {i1 : Int32} {i2 : Int32} {a3 : Nat} {i4 : Int32} {i5 : Int32} {a6 : Nat} {M : zM}, FR M0 M → KF (FR M0) (f_X7_value_22 n a0 i1 i2 a3 i4 i5 a6 M) := by
  intro n
  induction n with
  | zero => exact fun _ => KF.n
  | succ n ih =>
    intro a0 i1 i2 a3 i4 i5 a6 M hM
    rw [f_X7_value_22]
    refine KF.i ?_ KF.n
    refine KF.c (kr_Jx35411_hasNext_aae02 hg hM) fun r1 h_r1 => ?_
    refine KF.i ?_ ?_
    · exact (kr_X7_value_80 hg zN h_r1)
    · refine KF.i ?_ KF.n
      refine KF.c (kr_Jx35411_next_0502b hg h_r1) fun r3 h_r3 => ?_
      refine KF.i ?_ KF.n
      refine KF.b fun v6 => ?_
      refine KF.i ?_ ?_
      · exact (ih h_r3)
      · refine KF.b fun v7 => ?_
        refine KF.i ?_ KF.n
        refine KF.c (kr_X7_valueOfThree hg h_r3) fun r8 h_r8 => ?_
        exact (ih h_r8)
theorem kr_X7_value_0 {M0 : zM} (hg : KD M0) {a0 : Nat} {i1 : Int32} {i2 : Int32} {M : zM} (hM : FR M0 M) : KF (FR M0) (f_X7_value_0 a0 i1 i2 M) := by
  unfold f_X7_value_0
  refine KF.b fun v1 => ?_
  refine KF.b fun v2 => ?_
  refine KF.b fun v3 => ?_
  refine KF.i ?_ KF.n
  refine KF.c (kr_Jx4a65c_iterator_32c93 hg hM) fun r4 h_r4 => ?_
  exact (kr_X7_value_22 hg zN h_r4)
theorem kr_X7_value {M0 : zM} (hg : KD M0) {a0 : Nat} {i1 : Int32} {i2 : Int32} {M : zM} (hM : FR M0 M) : KF (FR M0) (f_X7_value a0 i1 i2 M) := by
  unfold f_X7_value
  exact (kr_X7_value_0 hg hM)
theorem kr_X7_isBarred_0 {M0 : zM} (hg : KD M0) {a0 : Nat} {a1 : Nat} {M : zM} (hM : FR M0 M) : KF (FR M0) (f_X7_isBarred_0 a0 a1 M) := by
  unfold f_X7_isBarred_0
  refine KF.i ?_ KF.n
  refine KF.c (kr_X6_waits hg hM) fun r1 h_r1 => ?_
  refine KF.b fun v3 => ?_
  refine KF.i ?_ ?_
  · exact KF.s h_r1
  · exact KF.s h_r1
theorem kr_X7_isBarred {M0 : zM} (hg : KD M0) {a0 : Nat} {a1 : Nat} {M : zM} (hM : FR M0 M) : KF (FR M0) (f_X7_isBarred a0 a1 M) := by
  unfold f_X7_isBarred
  exact (kr_X7_isBarred_0 hg hM)
theorem kr_X7_mayWin_0 {M0 : zM} (hg : KD M0) {a0 : Nat} {i1 : Int32} {M : zM} (hM : FR M0 M) : KF (FR M0) (f_X7_mayWin_0 a0 i1 M) := by
  unfold f_X7_mayWin_0
  refine KF.b fun v1 => ?_
  refine KF.b fun v2 => ?_
  refine KF.b fun v3 => ?_
  refine KF.i ?_ ?_
  · refine KF.b fun v15 => ?_
    refine KF.i ?_ ?_
    · refine KF.b fun v16 => ?_
      refine KF.i ?_ ?_
      · exact KF.s hM
      · refine KF.p (fr_gRh hM) fun v17 h_v17 => ?_
        refine KF.b fun v18 => ?_
        refine KF.i ?_ KF.n
        refine KF.c (kr_Jx4a65c_size_8abf5 hg hM) fun r19 h_r19 => ?_
        refine KF.c (kr_X7_isComplete hg h_v17 h_r19) fun r21 h_r21 => ?_
        refine KF.i ?_ ?_
        · exact KF.s h_r21
        · exact KF.s h_r21
    · exact KF.s hM
  · refine KF.b fun v4 => ?_
    refine KF.i ?_ ?_
    · refine KF.b fun v5 => ?_
      refine KF.i ?_ ?_
      · exact KF.s hM
      · refine KF.i ?_ KF.n
        refine KF.c (kr_X6_waits hg hM) fun r6 h_r6 => ?_
        refine KF.b fun v8 => ?_
        refine KF.i ?_ ?_
        · refine KF.i ?_ KF.n
          refine KF.c (kr_X7_isBarred hg h_r6) fun r9 h_r9 => ?_
          refine KF.i ?_ ?_
          · exact KF.s h_r9
          · exact KF.s h_r9
        · exact KF.s h_r6
    · exact KF.s hM
theorem kr_X7_mayWin {M0 : zM} (hg : KD M0) {a0 : Nat} {i1 : Int32} {M : zM} (hM : FR M0 M) : KF (FR M0) (f_X7_mayWin a0 i1 M) := by
  unfold f_X7_mayWin
  exact (kr_X7_mayWin_0 hg hM)
theorem kr_X7_win_133 {M0 : zM} (hg : KD M0) {K88 : Nat → Int32 → Nat → Int32 → Int32 → Int32 → zM → Option (Int32 × zM)} (hK88 : ∀ {x0 : Nat} {x1 : Int32} {x2 : Nat} {x3 : Int32} {x4 : Int32} {x5 : Int32} {M : zM}, FR M0 M → KF (FR M0) (K88 x0 x1 x2 x3 x4 x5 M)) {a0 : Nat} {i1 : Int32} {a2 : Nat} {i3 : Int32} {i4 : Int32} {i5 : Int32} {i_0 : Int32} {M : zM} (hM : FR M0 M) : KF (FR M0) (f_X7_win_133 K88 a0 i1 a2 i3 i4 i5 i_0 M) := by
  unfold f_X7_win_133
  refine KF.b fun v1 => ?_
  refine KF.b fun v2 => ?_
  refine KF.b fun v3 => ?_
  refine KF.w (fr_pI hg hM rfl) fun M4 h_M4 => ?_
  refine KF.b fun v5 => ?_
  refine KF.w (fr_pI hg h_M4 rfl) fun M6 h_M6 => ?_
  exact (hK88 h_M6)
theorem kr_X7_win_88 {M0 : zM} (hg : KD M0) : ∀ (n : Nat) {a0 : Nat} {i1 : Int32} {a2 : Nat} {i3 : Int32} {i4 : Int32} {i5 : Int32} {M : zM}, FR M0 M → KF (FR M0) (f_X7_win_88 n a0 i1 a2 i3 i4 i5 M) := by
  intro n
  induction n with
  | zero => exact fun _ => KF.n
  | succ n ih =>
    intro a0 i1 a2 i3 i4 i5 M hM
    rw [f_X7_win_88]
    refine KF.i ?_ ?_
    · refine KF.b fun v1 => ?_
      refine KF.b fun v2 => ?_
      refine KF.w (fr_pI hg hM rfl) fun M3 h_M3 => ?_
      refine KF.w (fr_pI hg h_M3 rfl) fun M4 h_M4 => ?_
      refine KF.b fun v5 => ?_
      refine KF.w (fr_pI hg h_M4 rfl) fun M6 h_M6 => ?_
      refine KF.w (fr_pI hg h_M6 rfl) fun M7 h_M7 => ?_
      refine KF.w (fr_pI hg h_M7 rfl) fun M8 h_M8 => ?_
      exact KF.s h_M8
    · refine KF.i ?_ ?_
      · exact (kr_X7_win_133 hg ih hM)
      · refine KF.i ?_ ?_
        · refine KF.b fun v9 => ?_
          refine KF.i ?_ ?_
          · exact (kr_X7_win_133 hg ih hM)
          · exact (kr_X7_win_133 hg ih hM)
        · exact (kr_X7_win_133 hg ih hM)
theorem kr_X7_win_77 {M0 : zM} (hg : KD M0) {a0 : Nat} {i1 : Int32} {a2 : Nat} {i3 : Int32} {M : zM} (hM : FR M0 M) : KF (FR M0) (f_X7_win_77 a0 i1 a2 i3 M) := by
  unfold f_X7_win_77
  refine KF.i ?_ KF.n
  refine KF.c (kr_X7_value hg hM) fun r1 h_r1 => ?_
  exact (kr_X7_win_88 hg zN h_r1)
theorem kr_X7_win_55 {M0 : zM} (hg : KD M0) {a0 : Nat} {i1 : Int32} {a2 : Nat} {i_0 : Int32} {M : zM} (hM : FR M0 M) : KF (FR M0) (f_X7_win_55 a0 i1 a2 i_0 M) := by
  unfold f_X7_win_55
  refine KF.i ?_ ?_
  · refine KF.i ?_ KF.n
    refine KF.c (kr_X7_leave hg hM) fun r1 h_r1 => ?_
    refine KF.p (fr_gRh h_r1) fun v3 h_v3 => ?_
    refine KF.b fun v4 => ?_
    refine KF.b fun v5 => ?_
    refine KF.w (fr_tA h_r1 h_v3) fun M6 h_M6 => ?_
    exact (kr_X7_win_77 hg h_M6)
  · exact (kr_X7_win_77 hg hM)
theorem kr_X7_win_26 {M0 : zM} (hg : KD M0) {a0 : Nat} {i1 : Int32} {i_0 : Int32} {a_1 : Nat} {M : zM} (hM : FR M0 M) : KF (FR M0) (f_X7_win_26 a0 i1 i_0 a_1 M) := by
  unfold f_X7_win_26
  refine KF.i ?_ KF.n
  refine KF.c (kr_X7_refuse hg hM) fun r1 h_r1 => ?_
  refine KF.i ?_ ?_
  · refine KF.b fun v3 => ?_
    refine KF.b fun v4 => ?_
    refine KF.b fun v5 => ?_
    refine KF.i ?_ ?_
    · exact (kr_X7_win_55 hg h_r1)
    · exact (kr_X7_win_55 hg h_r1)
  · exact KF.s h_r1
theorem kr_X7_win_0 {M0 : zM} (hg : KD M0) {a0 : Nat} {i1 : Int32} {M : zM} (hM : FR M0 M) : KF (FR M0) (f_X7_win_0 a0 i1 M) := by
  unfold f_X7_win_0
  refine KF.c (kr_X7_isNoPlayer hg hM) fun r1 h_r1 => ?_
  refine KF.i ?_ KF.n
  refine KF.c (kr_X7_start hg h_r1) fun r2 h_r2 => ?_
  refine KF.i ?_ ?_
  · refine KF.i ?_ KF.n
    refine KF.c (kr_X7_mayWin hg h_r2) fun r4 h_r4 => ?_
    refine KF.i ?_ ?_
    · exact (kr_X7_win_26 hg h_r4)
    · exact (kr_X7_win_26 hg h_r4)
  · exact KF.s h_r2
theorem kr_X7_win {M0 : zM} (hg : KD M0) {a0 : Nat} {i1 : Int32} {M : zM} (hM : FR M0 M) : KF (FR M0) (f_X7_win a0 i1 M) := by
  unfold f_X7_win
  exact (kr_X7_win_0 hg hM)
theorem kr_X7_has_25 {M0 : zM} (hg : KD M0) {a0 : Nat} {i1 : Int32} {i2 : Int32} {i_0 : Int32} {a_1 : Nat} {M : zM} (hM : FR M0 M) : KF (FR M0) (f_X7_has_25 a0 i1 i2 i_0 a_1 M) := by
  unfold f_X7_has_25
  refine KF.i ?_ KF.n
  refine KF.c (kr_X7_refuse hg hM) fun r1 h_r1 => ?_
  refine KF.i ?_ ?_
  · refine KF.b fun v3 => ?_
    refine KF.b fun v4 => ?_
    refine KF.p (fr_gRh h_r1) fun v5 h_v5 => ?_
    refine KF.b fun v6 => ?_
    exact KF.s h_r1
  · exact KF.s h_r1
theorem kr_X7_has_0 {M0 : zM} (hg : KD M0) {a0 : Nat} {i1 : Int32} {i2 : Int32} {M : zM} (hM : FR M0 M) : KF (FR M0) (f_X7_has_0 a0 i1 i2 M) := by
  unfold f_X7_has_0
  refine KF.c (kr_X7_isNoPlayer hg hM) fun r1 h_r1 => ?_
  refine KF.i ?_ KF.n
  refine KF.c (kr_X7_start hg h_r1) fun r2 h_r2 => ?_
  refine KF.i ?_ ?_
  · refine KF.c (kr_X7_isKind hg h_r2) fun r4 h_r4 => ?_
    refine KF.i ?_ ?_
    · exact (kr_X7_has_25 hg h_r4)
    · exact (kr_X7_has_25 hg h_r4)
  · exact KF.s h_r2
theorem kr_X7_has {M0 : zM} (hg : KD M0) {a0 : Nat} {i1 : Int32} {i2 : Int32} {M : zM} (hM : FR M0 M) : KF (FR M0) (f_X7_has a0 i1 i2 M) := by
  unfold f_X7_has
  exact (kr_X7_has_0 hg hM)
theorem kr_X7_ofPlayerNow_0 {M0 : zM} (hg : KD M0) {a0 : Nat} {i1 : Int32} {i2 : Int32} {M : zM} (hM : FR M0 M) : KF (FR M0) (f_X7_ofPlayerNow_0 a0 i1 i2 M) := by
  unfold f_X7_ofPlayerNow_0
  refine KF.b fun v1 => ?_
  refine KF.b fun v2 => ?_
  refine KF.i ?_ ?_
  · refine KF.b fun v34 => ?_
    exact KF.s hM
  · refine KF.i ?_ ?_
    · refine KF.b fun v31 => ?_
      refine KF.i ?_ KF.n
      refine KF.c (kr_Jx4a65c_size_8abf5 hg hM) fun r32 h_r32 => ?_
      exact KF.s h_r32
    · refine KF.i ?_ ?_
      · refine KF.i ?_ KF.n
        refine KF.c (kr_X6_open hg hM) fun r29 h_r29 => ?_
        exact KF.s h_r29
      · refine KF.i ?_ ?_
        · refine KF.i ?_ KF.n
          refine KF.c (kr_X6_tiles hg hM) fun r27 h_r27 => ?_
          exact KF.s h_r27
        · refine KF.i ?_ ?_
          · refine KF.b fun v24 => ?_
            refine KF.i ?_ KF.n
            refine KF.c (kr_Jx4a65c_size_8abf5 hg hM) fun r25 h_r25 => ?_
            exact KF.s h_r25
          · refine KF.i ?_ ?_
            · refine KF.b fun v22 => ?_
              refine KF.i ?_ ?_
              · exact KF.s hM
              · exact KF.s hM
            · refine KF.i ?_ ?_
              · refine KF.i ?_ KF.n
                refine KF.c (kr_X6_far hg hM) fun r20 h_r20 => ?_
                exact KF.s h_r20
              · refine KF.i ?_ ?_
                · refine KF.b fun v16 => ?_
                  refine KF.i ?_ ?_
                  · exact KF.s hM
                  · refine KF.i ?_ KF.n
                    refine KF.c (kr_X7_wind hg hM) fun r17 h_r17 => ?_
                    exact KF.s h_r17
                · refine KF.i ?_ ?_
                  · refine KF.b fun v15 => ?_
                    exact KF.s hM
                  · refine KF.i ?_ KF.n
                    refine KF.c (kr_X7_isBarred hg hM) fun r12 h_r12 => ?_
                    refine KF.i ?_ ?_
                    · exact KF.s h_r12
                    · exact KF.s h_r12
theorem kr_X7_ofPlayerNow {M0 : zM} (hg : KD M0) {a0 : Nat} {i1 : Int32} {i2 : Int32} {M : zM} (hM : FR M0 M) : KF (FR M0) (f_X7_ofPlayerNow a0 i1 i2 M) := by
  unfold f_X7_ofPlayerNow
  exact (kr_X7_ofPlayerNow_0 hg hM)
theorem kr_X7_ofPlayer_28 {M0 : zM} (hg : KD M0) {a0 : Nat} {i1 : Int32} {i2 : Int32} {i_0 : Int32} {a_1 : Nat} {M : zM} (hM : FR M0 M) : KF (FR M0) (f_X7_ofPlayer_28 a0 i1 i2 i_0 a_1 M) := by
  unfold f_X7_ofPlayer_28
  refine KF.i ?_ KF.n
  refine KF.c (kr_X7_refuse hg hM) fun r1 h_r1 => ?_
  refine KF.i ?_ ?_
  · refine KF.i ?_ KF.n
    refine KF.c (kr_X7_ofPlayerNow hg h_r1) fun r3 h_r3 => ?_
    exact KF.s h_r3
  · exact KF.s h_r1
theorem kr_X7_ofPlayer_0 {M0 : zM} (hg : KD M0) {a0 : Nat} {i1 : Int32} {i2 : Int32} {M : zM} (hM : FR M0 M) : KF (FR M0) (f_X7_ofPlayer_0 a0 i1 i2 M) := by
  unfold f_X7_ofPlayer_0
  refine KF.c (kr_X7_isNoPlayer hg hM) fun r1 h_r1 => ?_
  refine KF.i ?_ KF.n
  refine KF.c (kr_X7_start hg h_r1) fun r2 h_r2 => ?_
  refine KF.i ?_ ?_
  · refine KF.c (kr_X7_isIn hg h_r2) fun r4 h_r4 => ?_
    refine KF.i ?_ ?_
    · exact (kr_X7_ofPlayer_28 hg h_r4)
    · exact (kr_X7_ofPlayer_28 hg h_r4)
  · exact KF.s h_r2
theorem kr_X7_ofPlayer {M0 : zM} (hg : KD M0) {a0 : Nat} {i1 : Int32} {i2 : Int32} {M : zM} (hM : FR M0 M) : KF (FR M0) (f_X7_ofPlayer a0 i1 i2 M) := by
  unfold f_X7_ofPlayer
  exact (kr_X7_ofPlayer_0 hg hM)
theorem kr_X7_ofSetNow_0 {M0 : zM} (hg : KD M0) {a0 : Nat} {M : zM} (hM : FR M0 M) : KF (FR M0) (f_X7_ofSetNow_0 a0 M) := by
  unfold f_X7_ofSetNow_0
  refine KF.b fun v1 => ?_
  refine KF.b fun v2 => ?_
  exact KF.s hM
theorem kr_X7_ofSetNow {M0 : zM} (hg : KD M0) {a0 : Nat} {M : zM} (hM : FR M0 M) : KF (FR M0) (f_X7_ofSetNow a0 M) := by
  unfold f_X7_ofSetNow
  exact (kr_X7_ofSetNow_0 hg hM)
theorem kr_Jx4a65c_elementData_915e3_0 {M0 : zM} (hg : KD M0) {a0 : Nat} {i1 : Int32} {M : zM} (hM : FR M0 M) : KF (FR M0) (f_Jx4a65c_elementData_915e3_0 a0 i1 M) := by
  unfold f_Jx4a65c_elementData_915e3_0
  refine KF.b fun v1 => ?_
  refine KF.b fun v2 => ?_
  exact KF.s hM
theorem kr_Jx4a65c_elementData_915e3 {M0 : zM} (hg : KD M0) {a0 : Nat} {i1 : Int32} {M : zM} (hM : FR M0 M) : KF (FR M0) (f_Jx4a65c_elementData_915e3 a0 i1 M) := by
  unfold f_Jx4a65c_elementData_915e3
  exact (kr_Jx4a65c_elementData_915e3_0 hg hM)
theorem kr_Jx4a65c_get_915e3_0 {M0 : zM} (hg : KD M0) {a0 : Nat} {i1 : Int32} {M : zM} (hM : FR M0 M) : KF (FR M0) (f_Jx4a65c_get_915e3_0 a0 i1 M) := by
  unfold f_Jx4a65c_get_915e3_0
  refine KF.b fun v1 => ?_
  refine KF.c (kr_J15_checkIndex_7cf53 hg hM) fun r2 h_r2 => ?_
  refine KF.i ?_ KF.n
  refine KF.c (kr_Jx4a65c_elementData_915e3 hg h_r2) fun r3 h_r3 => ?_
  exact KF.s h_r3
theorem kr_Jx4a65c_get_915e3 {M0 : zM} (hg : KD M0) {a0 : Nat} {i1 : Int32} {M : zM} (hM : FR M0 M) : KF (FR M0) (f_Jx4a65c_get_915e3 a0 i1 M) := by
  unfold f_Jx4a65c_get_915e3
  exact (kr_Jx4a65c_get_915e3_0 hg hM)
theorem kr_X7_ofSet_35 {M0 : zM} (hg : KD M0) {a0 : Nat} {i1 : Int32} {i2 : Int32} {i_0 : Int32} {a_1 : Nat} {M : zM} (hM : FR M0 M) : KF (FR M0) (f_X7_ofSet_35 a0 i1 i2 i_0 a_1 M) := by
  unfold f_X7_ofSet_35
  refine KF.i ?_ KF.n
  refine KF.c (kr_X7_start hg hM) fun r1 h_r1 => ?_
  refine KF.i ?_ ?_
  · refine KF.b fun v3 => ?_
    refine KF.b fun v4 => ?_
    refine KF.b fun v5 => ?_
    refine KF.i ?_ KF.n
    refine KF.c (kr_Jx4a65c_get_915e3 hg h_r1) fun r6 h_r6 => ?_
    refine KF.i ?_ KF.n
    refine KF.c (kr_X7_ofSetNow hg h_r6) fun r9 h_r9 => ?_
    exact KF.s h_r9
  · exact KF.s h_r1
theorem kr_X7_ofSet_30 {M0 : zM} (hg : KD M0) {a0 : Nat} {i1 : Int32} {i2 : Int32} {a_0 : Nat} {M : zM} (hM : FR M0 M) : KF (FR M0) (f_X7_ofSet_30 a0 i1 i2 a_0 M) := by
  unfold f_X7_ofSet_30
  exact (kr_X7_ofSet_35 hg hM)
theorem kr_X7_ofSet_0 {M0 : zM} (hg : KD M0) {a0 : Nat} {i1 : Int32} {i2 : Int32} {M : zM} (hM : FR M0 M) : KF (FR M0) (f_X7_ofSet_0 a0 i1 i2 M) := by
  unfold f_X7_ofSet_0
  refine KF.c (kr_X7_isNoPlayer hg hM) fun r1 h_r1 => ?_
  refine KF.i ?_ ?_
  · refine KF.b fun v2 => ?_
    refine KF.b fun v3 => ?_
    refine KF.b fun v4 => ?_
    refine KF.i ?_ KF.n
    refine KF.c (kr_Jx4a65c_size_8abf5 hg h_r1) fun r5 h_r5 => ?_
    refine KF.c (kr_X7_isIn hg h_r5) fun r7 h_r7 => ?_
    refine KF.i ?_ ?_
    · exact (kr_X7_ofSet_30 hg h_r7)
    · exact (kr_X7_ofSet_35 hg h_r7)
  · exact (kr_X7_ofSet_30 hg h_r1)
theorem kr_X7_ofSet {M0 : zM} (hg : KD M0) {a0 : Nat} {i1 : Int32} {i2 : Int32} {M : zM} (hM : FR M0 M) : KF (FR M0) (f_X7_ofSet a0 i1 i2 M) := by
  unfold f_X7_ofSet
  exact (kr_X7_ofSet_0 hg hM)
theorem kr_J6_intValue_8abf5_0 {M0 : zM} (hg : KD M0) {a0 : Nat} {M : zM} (hM : FR M0 M) : KF (FR M0) (f_J6_intValue_8abf5_0 a0 M) := by
  unfold f_J6_intValue_8abf5_0
  refine KF.b fun v1 => ?_
  exact KF.s hM
theorem kr_J6_intValue_8abf5 {M0 : zM} (hg : KD M0) {a0 : Nat} {M : zM} (hM : FR M0 M) : KF (FR M0) (f_J6_intValue_8abf5 a0 M) := by
  unfold f_J6_intValue_8abf5
  exact (kr_J6_intValue_8abf5_0 hg hM)
theorem kr_X7_river_35 {M0 : zM} (hg : KD M0) {a0 : Nat} {i1 : Int32} {i2 : Int32} {i_0 : Int32} {a_1 : Nat} {M : zM} (hM : FR M0 M) : KF (FR M0) (f_X7_river_35 a0 i1 i2 i_0 a_1 M) := by
  unfold f_X7_river_35
  refine KF.i ?_ KF.n
  refine KF.c (kr_X7_start hg hM) fun r1 h_r1 => ?_
  refine KF.i ?_ ?_
  · refine KF.b fun v3 => ?_
    refine KF.b fun v4 => ?_
    refine KF.b fun v5 => ?_
    refine KF.i ?_ KF.n
    refine KF.c (kr_Jx4a65c_get_915e3 hg h_r1) fun r6 h_r6 => ?_
    refine KF.i ?_ KF.n
    refine KF.i ?_ KF.n
    refine KF.c (kr_J6_intValue_8abf5 hg h_r6) fun r9 h_r9 => ?_
    exact KF.s h_r9
  · exact KF.s h_r1
theorem kr_X7_river_30 {M0 : zM} (hg : KD M0) {a0 : Nat} {i1 : Int32} {i2 : Int32} {a_0 : Nat} {M : zM} (hM : FR M0 M) : KF (FR M0) (f_X7_river_30 a0 i1 i2 a_0 M) := by
  unfold f_X7_river_30
  exact (kr_X7_river_35 hg hM)
theorem kr_X7_river_0 {M0 : zM} (hg : KD M0) {a0 : Nat} {i1 : Int32} {i2 : Int32} {M : zM} (hM : FR M0 M) : KF (FR M0) (f_X7_river_0 a0 i1 i2 M) := by
  unfold f_X7_river_0
  refine KF.c (kr_X7_isNoPlayer hg hM) fun r1 h_r1 => ?_
  refine KF.i ?_ ?_
  · refine KF.b fun v2 => ?_
    refine KF.b fun v3 => ?_
    refine KF.b fun v4 => ?_
    refine KF.i ?_ KF.n
    refine KF.c (kr_Jx4a65c_size_8abf5 hg h_r1) fun r5 h_r5 => ?_
    refine KF.c (kr_X7_isIn hg h_r5) fun r7 h_r7 => ?_
    refine KF.i ?_ ?_
    · exact (kr_X7_river_30 hg h_r7)
    · exact (kr_X7_river_35 hg h_r7)
  · exact (kr_X7_river_30 hg h_r1)
theorem kr_X7_river {M0 : zM} (hg : KD M0) {a0 : Nat} {i1 : Int32} {i2 : Int32} {M : zM} (hM : FR M0 M) : KF (FR M0) (f_X7_river a0 i1 i2 M) := by
  unfold f_X7_river
  exact (kr_X7_river_0 hg hM)
theorem kr_X7_seenNow_81 {M0 : zM} (hg : KD M0) {K14 : Int32 → Int32 → Nat → Int32 → Int32 → zM → Option (Int32 × zM)} (hK14 : ∀ {x0 : Int32} {x1 : Int32} {x2 : Nat} {x3 : Int32} {x4 : Int32} {M : zM}, FR M0 M → KF (FR M0) (K14 x0 x1 x2 x3 x4 M)) : ∀ (n : Nat) {i1 : Int32} {i2 : Int32} {a3 : Nat} {i4 : Int32} {i5 : Int32} {a7 : Nat} {M : zM}, FR M0 M → KF (FR M0) (f_X7_seenNow_81 K14 n i1 i2 a3 i4 i5 a7 M) := by
  intro n
  induction n with
  | zero => exact fun _ => KF.n
  | succ n ih =>
    intro i1 i2 a3 i4 i5 a7 M hM
    rw [f_X7_seenNow_81]
    refine KF.i ?_ KF.n
    refine KF.c (kr_Jx35411_hasNext_aae02 hg hM) fun r1 h_r1 => ?_
    refine KF.i ?_ ?_
    · exact (hK14 h_r1)
    · refine KF.i ?_ KF.n
      refine KF.c (kr_Jx35411_next_0502b hg h_r1) fun r3 h_r3 => ?_
      refine KF.i ?_ KF.n
      refine KF.i ?_ KF.n
      refine KF.c (kr_J6_intValue_8abf5 hg h_r3) fun r6 h_r6 => ?_
      refine KF.i ?_ ?_
      · exact (ih h_r6)
      · exact (ih h_r6)
theorem kr_X7_seenNow_37 {M0 : zM} (hg : KD M0) {K14 : Int32 → Int32 → Nat → Int32 → Int32 → zM → Option (Int32 × zM)} (hK14 : ∀ {x0 : Int32} {x1 : Int32} {x2 : Nat} {x3 : Int32} {x4 : Int32} {M : zM}, FR M0 M → KF (FR M0) (K14 x0 x1 x2 x3 x4 M)) : ∀ (n : Nat) {i1 : Int32} {i2 : Int32} {a3 : Nat} {i4 : Int32} {i5 : Int32} {a6 : Nat} {a7 : Nat} {M : zM}, FR M0 M → KF (FR M0) (f_X7_seenNow_37 K14 n i1 i2 a3 i4 i5 a6 a7 M) := by
  intro n
  induction n with
  | zero => exact fun _ => KF.n
  | succ n ih =>
    intro i1 i2 a3 i4 i5 a6 a7 M hM
    rw [f_X7_seenNow_37]
    refine KF.i ?_ KF.n
    refine KF.c (kr_Jx35411_hasNext_aae02 hg hM) fun r1 h_r1 => ?_
    refine KF.i ?_ ?_
    · refine KF.b fun v3 => ?_
      refine KF.i ?_ KF.n
      refine KF.c (kr_Jx4a65c_iterator_32c93 hg h_r1) fun r4 h_r4 => ?_
      exact (kr_X7_seenNow_81 hg hK14 zN h_r4)
    · refine KF.i ?_ KF.n
      refine KF.c (kr_Jx35411_next_0502b hg h_r1) fun r6 h_r6 => ?_
      refine KF.i ?_ KF.n
      refine KF.i ?_ KF.n
      refine KF.c (kr_X5_of hg h_r6) fun r9 h_r9 => ?_
      exact (ih h_r9)
theorem kr_X7_seenNow_14 {M0 : zM} (hg : KD M0) : ∀ (n : Nat) {i1 : Int32} {i2 : Int32} {a3 : Nat} {i4 : Int32} {i5 : Int32} {M : zM}, FR M0 M → KF (FR M0) (f_X7_seenNow_14 n i1 i2 a3 i4 i5 M) := by
  intro n
  induction n with
  | zero => exact fun _ => KF.n
  | succ n ih =>
    intro i1 i2 a3 i4 i5 M hM
    rw [f_X7_seenNow_14]
    refine KF.i ?_ ?_
    · exact KF.s hM
    · refine KF.b fun v1 => ?_
      refine KF.b fun v2 => ?_
      refine KF.i ?_ KF.n
      refine KF.c (kr_Jx4a65c_iterator_32c93 hg hM) fun r3 h_r3 => ?_
      exact (kr_X7_seenNow_37 hg ih zN h_r3)
theorem kr_X7_seenNow_0 {M0 : zM} (hg : KD M0) {a0 : Nat} {i1 : Int32} {M : zM} (hM : FR M0 M) : KF (FR M0) (f_X7_seenNow_0 a0 i1 M) := by
  unfold f_X7_seenNow_0
  refine KF.b fun v1 => ?_
  refine KF.b fun v2 => ?_
  exact (kr_X7_seenNow_14 hg zN hM)
theorem kr_X7_seenNow {M0 : zM} (hg : KD M0) {a0 : Nat} {i1 : Int32} {M : zM} (hM : FR M0 M) : KF (FR M0) (f_X7_seenNow a0 i1 M) := by
  unfold f_X7_seenNow
  exact (kr_X7_seenNow_0 hg hM)
theorem kr_X7_seen_13 {M0 : zM} (hg : KD M0) {a0 : Nat} {i1 : Int32} {i_0 : Int32} {a_1 : Nat} {M : zM} (hM : FR M0 M) : KF (FR M0) (f_X7_seen_13 a0 i1 i_0 a_1 M) := by
  unfold f_X7_seen_13
  refine KF.i ?_ KF.n
  refine KF.c (kr_X7_start hg hM) fun r1 h_r1 => ?_
  refine KF.i ?_ ?_
  · refine KF.i ?_ KF.n
    refine KF.c (kr_X7_seenNow hg h_r1) fun r3 h_r3 => ?_
    exact KF.s h_r3
  · exact KF.s h_r1
theorem kr_X7_seen_0 {M0 : zM} (hg : KD M0) {a0 : Nat} {i1 : Int32} {M : zM} (hM : FR M0 M) : KF (FR M0) (f_X7_seen_0 a0 i1 M) := by
  unfold f_X7_seen_0
  refine KF.c (kr_X7_isKind hg hM) fun r1 h_r1 => ?_
  refine KF.i ?_ ?_
  · exact (kr_X7_seen_13 hg h_r1)
  · exact (kr_X7_seen_13 hg h_r1)
theorem kr_X7_seen {M0 : zM} (hg : KD M0) {a0 : Nat} {i1 : Int32} {M : zM} (hM : FR M0 M) : KF (FR M0) (f_X7_seen a0 i1 M) := by
  unfold f_X7_seen
  exact (kr_X7_seen_0 hg hM)
theorem kr_X7_waits_0 {M0 : zM} (hg : KD M0) {a0 : Nat} {i1 : Int32} {M : zM} (hM : FR M0 M) : KF (FR M0) (f_X7_waits_0 a0 i1 M) := by
  unfold f_X7_waits_0
  refine KF.c (kr_X7_isNoPlayer hg hM) fun r1 h_r1 => ?_
  refine KF.i ?_ KF.n
  refine KF.c (kr_X7_start hg h_r1) fun r2 h_r2 => ?_
  refine KF.i ?_ ?_
  · refine KF.b fun v4 => ?_
    refine KF.b fun v5 => ?_
    refine KF.i ?_ KF.n
    refine KF.c (kr_X6_waits hg h_r2) fun r6 h_r6 => ?_
    exact KF.s h_r6
  · exact KF.s h_r2
theorem kr_X7_waits {M0 : zM} (hg : KD M0) {a0 : Nat} {i1 : Int32} {M : zM} (hM : FR M0 M) : KF (FR M0) (f_X7_waits a0 i1 M) := by
  unfold f_X7_waits
  exact (kr_X7_waits_0 hg hM)
theorem kr_J5_charAt_5068e_0 {M0 : zM} (hg : KD M0) {a0 : Nat} {i1 : Int32} {M : zM} (hM : FR M0 M) : KF (FR M0) (f_J5_charAt_5068e_0 a0 i1 M) := by
  unfold f_J5_charAt_5068e_0
  refine KF.b fun v1 => ?_
  refine KF.b fun v2 => ?_
  refine KF.b fun v3 => ?_
  refine KF.b fun v4 => ?_
  refine KF.c (kr_J9_min_7cf53 hg hM) fun r5 h_r5 => ?_
  refine KF.c (kr_J0_checkIndex_df160 hg h_r5) fun r6 h_r6 => ?_
  refine KF.i ?_ KF.n
  refine KF.b fun v7 => ?_
  refine KF.i ?_ KF.n
  exact KF.s h_r6
theorem kr_J5_charAt_5068e {M0 : zM} (hg : KD M0) {a0 : Nat} {i1 : Int32} {M : zM} (hM : FR M0 M) : KF (FR M0) (f_J5_charAt_5068e a0 i1 M) := by
  unfold f_J5_charAt_5068e
  exact (kr_J5_charAt_5068e_0 hg hM)
theorem kr_J4_charAt_5068e_0 {M0 : zM} (hg : KD M0) {a0 : Nat} {i1 : Int32} {M : zM} (hM : FR M0 M) : KF (FR M0) (f_J4_charAt_5068e_0 a0 i1 M) := by
  unfold f_J4_charAt_5068e_0
  refine KF.i ?_ KF.n
  refine KF.c (kr_J5_charAt_5068e hg hM) fun r1 h_r1 => ?_
  refine KF.i ?_ KF.n
  exact KF.s h_r1
theorem kr_J4_charAt_5068e {M0 : zM} (hg : KD M0) {a0 : Nat} {i1 : Int32} {M : zM} (hM : FR M0 M) : KF (FR M0) (f_J4_charAt_5068e a0 i1 M) := by
  unfold f_J4_charAt_5068e
  exact (kr_J4_charAt_5068e_0 hg hM)
theorem kr_X7_hand_118 {M0 : zM} (hg : KD M0) {K37 : Nat → Nat → Int32 → zM → Option (Nat × zM)} (hK37 : ∀ {x0 : Nat} {x1 : Nat} {x2 : Int32} {M : zM}, FR M0 M → KF (FR M0) (K37 x0 x1 x2 M)) {a2 : Nat} {a3 : Nat} {i4 : Int32} {M : zM} (hM : FR M0 M) : KF (FR M0) (f_X7_hand_118 K37 a2 a3 i4 M) := by
  unfold f_X7_hand_118
  refine KF.i ?_ ?_
  · refine KF.i ?_ KF.n
    refine KF.c (kr_J4_length_8abf5 hg hM) fun r1 h_r1 => ?_
    refine KF.i ?_ ?_
    · exact (hK37 h_r1)
    · refine KF.i ?_ KF.n
      refine KF.c (kr_J4_length_8abf5 hg h_r1) fun r3 h_r3 => ?_
      refine KF.i ?_ KF.n
      refine KF.c (kr_J4_charAt_5068e hg h_r3) fun r5 h_r5 => ?_
      refine KF.i ?_ ?_
      · exact (hK37 h_r5)
      · refine KF.i ?_ KF.n
        refine KF.c (kr_J4_append_cf468 hg h_r5) fun r7 h_r7 => ?_
        exact (hK37 h_r7)
  · exact (hK37 hM)
theorem kr_X7_hand_87 {M0 : zM} (hg : KD M0) {K37 : Nat → Nat → Int32 → zM → Option (Nat × zM)} {K47 : Nat → Nat → Int32 → Int32 → zM → Option (Nat × zM)} (hK37 : ∀ {x0 : Nat} {x1 : Nat} {x2 : Int32} {M : zM}, FR M0 M → KF (FR M0) (K37 x0 x1 x2 M)) (hK47 : ∀ {x0 : Nat} {x1 : Nat} {x2 : Int32} {x3 : Int32} {M : zM}, FR M0 M → KF (FR M0) (K47 x0 x1 x2 x3 M)) {a2 : Nat} {a3 : Nat} {i4 : Int32} {i5 : Int32} {i_0 : Int32} {a_1 : Nat} {M : zM} (hM : FR M0 M) : KF (FR M0) (f_X7_hand_87 K37 K47 a2 a3 i4 i5 i_0 a_1 M) := by
  unfold f_X7_hand_87
  refine KF.i ?_ KF.n
  refine KF.c (kr_J4_append_cf468 hg hM) fun r1 h_r1 => ?_
  exact (hK47 h_r1)
theorem kr_X7_hand_47 {M0 : zM} (hg : KD M0) {K37 : Nat → Nat → Int32 → zM → Option (Nat × zM)} (hK37 : ∀ {x0 : Nat} {x1 : Nat} {x2 : Int32} {M : zM}, FR M0 M → KF (FR M0) (K37 x0 x1 x2 M)) : ∀ (n : Nat) {a2 : Nat} {a3 : Nat} {i4 : Int32} {i5 : Int32} {M : zM}, FR M0 M → KF (FR M0) (f_X7_hand_47 K37 n a2 a3 i4 i5 M) := by
  intro n
  induction n with
  | zero => exact fun _ => KF.n
  | succ n ih =>
    intro a2 a3 i4 i5 M hM
    rw [f_X7_hand_47]
    refine KF.b fun v1 => ?_
    refine KF.i ?_ ?_
    · refine KF.i ?_ ?_
      · refine KF.i ?_ KF.n
        refine KF.c (kr_J4_length_8abf5 hg hM) fun r2 h_r2 => ?_
        refine KF.i ?_ ?_
        · exact (kr_X7_hand_118 hg hK37 h_r2)
        · refine KF.i ?_ KF.n
          refine KF.c (kr_J4_append_cf468 hg h_r2) fun r4 h_r4 => ?_
          exact (kr_X7_hand_118 hg hK37 h_r4)
      · exact (kr_X7_hand_118 hg hK37 hM)
    · refine KF.i ?_ ?_
      · refine KF.i ?_ KF.n
        refine KF.c (kr_J0_charAt_5068e hg hM) fun r8 h_r8 => ?_
        exact (kr_X7_hand_87 hg hK37 ih h_r8)
      · exact (kr_X7_hand_87 hg hK37 ih hM)
theorem kr_X7_hand_37 {M0 : zM} (hg : KD M0) : ∀ (n : Nat) {a2 : Nat} {a3 : Nat} {i4 : Int32} {M : zM}, FR M0 M → KF (FR M0) (f_X7_hand_37 n a2 a3 i4 M) := by
  intro n
  induction n with
  | zero => exact fun _ => KF.n
  | succ n ih =>
    intro a2 a3 i4 M hM
    rw [f_X7_hand_37]
    refine KF.i ?_ ?_
    · refine KF.i ?_ KF.n
      refine KF.c (kr_J4_toString_0e30d hg hM) fun r1 h_r1 => ?_
      exact KF.s h_r1
    · exact (kr_X7_hand_47 hg ih zN hM)
theorem kr_X7_hand_0 {M0 : zM} (hg : KD M0) {a0 : Nat} {i1 : Int32} {M : zM} (hM : FR M0 M) : KF (FR M0) (f_X7_hand_0 a0 i1 M) := by
  unfold f_X7_hand_0
  refine KF.c (kr_X7_isNoPlayer hg hM) fun r1 h_r1 => ?_
  refine KF.i ?_ KF.n
  refine KF.c (kr_X7_start hg h_r1) fun r2 h_r2 => ?_
  refine KF.i ?_ ?_
  · refine KF.c (kr_J4_init_da8c8 hg (fr_nO h_r2)) fun r4 h_r4 => ?_
    refine KF.b fun v5 => ?_
    refine KF.b fun v6 => ?_
    refine KF.p (fr_gRh h_r4) fun v7 h_v7 => ?_
    exact (kr_X7_hand_37 hg zN h_r4)
  · exact KF.s h_r2
theorem kr_X7_hand {M0 : zM} (hg : KD M0) {a0 : Nat} {i1 : Int32} {M : zM} (hM : FR M0 M) : KF (FR M0) (f_X7_hand a0 i1 M) := by
  unfold f_X7_hand
  exact (kr_X7_hand_0 hg hM)
theorem kr_X7_manyNow_62 {M0 : zM} (hg : KD M0) {a0 : Nat} {i1 : Int32} {i_0 : Int32} {i_1 : Int32} {a_2 : Nat} {a_3 : Nat} {M : zM} (h_a_2 : hi a_2) (h_a_3 : hi a_3) (hM : FR M0 M) : KF (FR M0) (f_X7_manyNow_62 a0 i1 i_0 i_1 a_2 a_3 M) := by
  unfold f_X7_manyNow_62
  refine KF.w (fr_tA hM h_a_2) fun M1 h_M1 => ?_
  refine KF.b fun v2 => ?_
  refine KF.w (fr_tA h_M1 h_a_3) fun M3 h_M3 => ?_
  refine KF.b fun v4 => ?_
  refine KF.w (fr_tA h_M3 h_a_3) fun M5 h_M5 => ?_
  refine KF.b fun v6 => ?_
  refine KF.w (fr_tA h_M5 h_a_3) fun M7 h_M7 => ?_
  refine KF.b fun v8 => ?_
  refine KF.w (fr_tA h_M7 h_a_3) fun M9 h_M9 => ?_
  refine KF.b fun v10 => ?_
  refine KF.w (fr_tA h_M9 h_a_3) fun M11 h_M11 => ?_
  refine KF.b fun v12 => ?_
  exact KF.s h_M11
theorem kr_X7_manyNow_29 {M0 : zM} (hg : KD M0) {a0 : Nat} {i1 : Int32} {i_0 : Int32} {i_1 : Int32} {a_2 : Nat} {a_3 : Nat} {M : zM} (h_a_2 : hi a_2) (h_a_3 : hi a_3) (hM : FR M0 M) : KF (FR M0) (f_X7_manyNow_29 a0 i1 i_0 i_1 a_2 a_3 M) := by
  unfold f_X7_manyNow_29
  refine KF.w (fr_tA hM h_a_2) fun M1 h_M1 => ?_
  refine KF.i ?_ KF.n
  refine KF.c (kr_X7_left hg h_M1) fun r2 h_r2 => ?_
  refine KF.w (fr_tA h_r2 h_a_3) fun M4 h_M4 => ?_
  refine KF.b fun v5 => ?_
  refine KF.w (fr_tA h_M4 h_a_3) fun M6 h_M6 => ?_
  refine KF.b fun v7 => ?_
  refine KF.i ?_ ?_
  · refine KF.b fun v8 => ?_
    exact (kr_X7_manyNow_62 hg h_a_3 h_a_3 h_M6)
  · exact (kr_X7_manyNow_62 hg h_a_3 h_a_3 h_M6)
theorem kr_X7_manyNow_0 {M0 : zM} (hg : KD M0) {a0 : Nat} {i1 : Int32} {M : zM} (hM : FR M0 M) : KF (FR M0) (f_X7_manyNow_0 a0 i1 M) := by
  unfold f_X7_manyNow_0
  refine KF.cp (fr_aA hg hM) fun r1 h_r1 g_r1 => ?_
  refine KF.b fun v2 => ?_
  refine KF.w (fr_tA g_r1 h_r1) fun M3 h_M3 => ?_
  refine KF.b fun v4 => ?_
  refine KF.i ?_ ?_
  · exact (kr_X7_manyNow_29 hg h_r1 h_r1 h_M3)
  · refine KF.b fun v5 => ?_
    exact (kr_X7_manyNow_29 hg h_r1 h_r1 h_M3)
theorem kr_X7_manyNow {M0 : zM} (hg : KD M0) {a0 : Nat} {i1 : Int32} {M : zM} (hM : FR M0 M) : KF (FR M0) (f_X7_manyNow a0 i1 M) := by
  unfold f_X7_manyNow
  exact (kr_X7_manyNow_0 hg hM)
theorem kr_X7_many_16 {M0 : zM} (hg : KD M0) {a0 : Nat} {i1 : Int32} {i_0 : Int32} {a_1 : Nat} {M : zM} (hM : FR M0 M) : KF (FR M0) (f_X7_many_16 a0 i1 i_0 a_1 M) := by
  unfold f_X7_many_16
  refine KF.i ?_ KF.n
  refine KF.c (kr_X7_start hg hM) fun r1 h_r1 => ?_
  refine KF.i ?_ ?_
  · refine KF.i ?_ KF.n
    refine KF.c (kr_X7_manyNow hg h_r1) fun r3 h_r3 => ?_
    exact KF.s h_r3
  · exact KF.s h_r1
theorem kr_X7_many_0 {M0 : zM} (hg : KD M0) {a0 : Nat} {i1 : Int32} {M : zM} (hM : FR M0 M) : KF (FR M0) (f_X7_many_0 a0 i1 M) := by
  unfold f_X7_many_0
  refine KF.c (kr_X7_isIn hg hM) fun r1 h_r1 => ?_
  refine KF.i ?_ ?_
  · exact (kr_X7_many_16 hg h_r1)
  · exact (kr_X7_many_16 hg h_r1)
theorem kr_X7_many {M0 : zM} (hg : KD M0) {a0 : Nat} {i1 : Int32} {M : zM} (hM : FR M0 M) : KF (FR M0) (f_X7_many a0 i1 M) := by
  unfold f_X7_many
  exact (kr_X7_many_0 hg hM)
theorem kr_X7_leadNow_14 {M0 : zM} (hg : KD M0) : ∀ (n : Nat) {a0 : Nat} {i1 : Int32} {i2 : Int32} {a3 : Nat} {i4 : Int32} {i5 : Int32} {M : zM}, FR M0 M → KF (FR M0) (f_X7_leadNow_14 n a0 i1 i2 a3 i4 i5 M) := by
  intro n
  induction n with
  | zero => exact fun _ => KF.n
  | succ n ih =>
    intro a0 i1 i2 a3 i4 i5 M hM
    rw [f_X7_leadNow_14]
    refine KF.i ?_ ?_
    · refine KF.b fun v1 => ?_
      refine KF.b fun v2 => ?_
      refine KF.b fun v3 => ?_
      refine KF.i ?_ KF.n
      refine KF.i ?_ KF.n
      exact KF.s hM
    · refine KF.b fun v6 => ?_
      refine KF.b fun v7 => ?_
      exact (ih hM)
theorem kr_X7_leadNow_0 {M0 : zM} (hg : KD M0) {a0 : Nat} {i1 : Int32} {M : zM} (hM : FR M0 M) : KF (FR M0) (f_X7_leadNow_0 a0 i1 M) := by
  unfold f_X7_leadNow_0
  refine KF.b fun v1 => ?_
  refine KF.b fun v2 => ?_
  exact (kr_X7_leadNow_14 hg zN hM)
theorem kr_X7_leadNow {M0 : zM} (hg : KD M0) {a0 : Nat} {i1 : Int32} {M : zM} (hM : FR M0 M) : KF (FR M0) (f_X7_leadNow a0 i1 M) := by
  unfold f_X7_leadNow
  exact (kr_X7_leadNow_0 hg hM)
theorem kr_X7_lead_0 {M0 : zM} (hg : KD M0) {a0 : Nat} {i1 : Int32} {M : zM} (hM : FR M0 M) : KF (FR M0) (f_X7_lead_0 a0 i1 M) := by
  unfold f_X7_lead_0
  refine KF.c (kr_X7_isNoPlayer hg hM) fun r1 h_r1 => ?_
  refine KF.i ?_ KF.n
  refine KF.c (kr_X7_start hg h_r1) fun r2 h_r2 => ?_
  refine KF.i ?_ ?_
  · refine KF.i ?_ KF.n
    refine KF.c (kr_X7_leadNow hg h_r2) fun r4 h_r4 => ?_
    exact KF.s h_r4
  · exact KF.s h_r2
theorem kr_X7_lead {M0 : zM} (hg : KD M0) {a0 : Nat} {i1 : Int32} {M : zM} (hM : FR M0 M) : KF (FR M0) (f_X7_lead a0 i1 M) := by
  unfold f_X7_lead
  exact (kr_X7_lead_0 hg hM)
theorem kr_X7_worth_25 {M0 : zM} (hg : KD M0) {a0 : Nat} {i1 : Int32} {i2 : Int32} {i_0 : Int32} {a_1 : Nat} {M : zM} (hM : FR M0 M) : KF (FR M0) (f_X7_worth_25 a0 i1 i2 i_0 a_1 M) := by
  unfold f_X7_worth_25
  refine KF.i ?_ KF.n
  refine KF.c (kr_X7_refuse hg hM) fun r1 h_r1 => ?_
  refine KF.i ?_ ?_
  · refine KF.b fun v3 => ?_
    refine KF.b fun v4 => ?_
    refine KF.i ?_ KF.n
    refine KF.c (kr_X6_waits hg h_r1) fun r5 h_r5 => ?_
    refine KF.i ?_ ?_
    · exact KF.s h_r5
    · refine KF.p (fr_gRh h_r5) fun v7 h_v7 => ?_
      refine KF.b fun v8 => ?_
      refine KF.w (fr_tA h_r5 h_v7) fun M9 h_M9 => ?_
      refine KF.i ?_ KF.n
      refine KF.c (kr_X7_value hg h_M9) fun r10 h_r10 => ?_
      refine KF.p (fr_gRh h_r10) fun v12 h_v12 => ?_
      refine KF.b fun v13 => ?_
      refine KF.w (fr_tA h_r10 h_v12) fun M14 h_M14 => ?_
      exact KF.s h_M14
  · exact KF.s h_r1
theorem kr_X7_worth_0 {M0 : zM} (hg : KD M0) {a0 : Nat} {i1 : Int32} {i2 : Int32} {M : zM} (hM : FR M0 M) : KF (FR M0) (f_X7_worth_0 a0 i1 i2 M) := by
  unfold f_X7_worth_0
  refine KF.c (kr_X7_isNoPlayer hg hM) fun r1 h_r1 => ?_
  refine KF.i ?_ KF.n
  refine KF.c (kr_X7_start hg h_r1) fun r2 h_r2 => ?_
  refine KF.i ?_ ?_
  · refine KF.c (kr_X7_isKind hg h_r2) fun r4 h_r4 => ?_
    refine KF.i ?_ ?_
    · exact (kr_X7_worth_25 hg h_r4)
    · exact (kr_X7_worth_25 hg h_r4)
  · exact KF.s h_r2
theorem kr_X7_worth {M0 : zM} (hg : KD M0) {a0 : Nat} {i1 : Int32} {i2 : Int32} {M : zM} (hM : FR M0 M) : KF (FR M0) (f_X7_worth a0 i1 i2 M) := by
  unfold f_X7_worth
  exact (kr_X7_worth_0 hg hM)
theorem kr_X7_bestNow_84 {M0 : zM} (hg : KD M0) {K25 : Nat → Int32 → Int32 → Nat → Int32 → zM → Option (Int32 × zM)} (hK25 : ∀ {x0 : Nat} {x1 : Int32} {x2 : Int32} {x3 : Nat} {x4 : Int32} {M : zM}, FR M0 M → KF (FR M0) (K25 x0 x1 x2 x3 x4 M)) {a0 : Nat} {a3 : Nat} {i4 : Int32} {i5 : Int32} {M : zM} (hM : FR M0 M) : KF (FR M0) (f_X7_bestNow_84 K25 a0 a3 i4 i5 M) := by
  unfold f_X7_bestNow_84
  exact (hK25 hM)
theorem kr_X7_bestNow_25 {M0 : zM} (hg : KD M0) : ∀ (n : Nat) {a0 : Nat} {i1 : Int32} {i2 : Int32} {a3 : Nat} {i4 : Int32} {M : zM}, FR M0 M → KF (FR M0) (f_X7_bestNow_25 n a0 i1 i2 a3 i4 M) := by
  intro n
  induction n with
  | zero => exact fun _ => KF.n
  | succ n ih =>
    intro a0 i1 i2 a3 i4 M hM
    rw [f_X7_bestNow_25]
    refine KF.i ?_ ?_
    · exact KF.s hM
    · refine KF.b fun v1 => ?_
      refine KF.i ?_ ?_
      · exact (ih hM)
      · refine KF.i ?_ KF.n
        refine KF.c (kr_X7_its hg hM) fun r2 h_r2 => ?_
        refine KF.i ?_ KF.n
        refine KF.c (kr_X6_farWith hg h_r2) fun r4 h_r4 => ?_
        refine KF.i ?_ ?_
        · exact (kr_X7_bestNow_84 hg ih h_r4)
        · refine KF.i ?_ ?_
          · exact (ih h_r4)
          · refine KF.i ?_ ?_
            · refine KF.b fun v6 => ?_
              refine KF.b fun v7 => ?_
              refine KF.i ?_ ?_
              · exact (kr_X7_bestNow_84 hg ih h_r4)
              · exact (ih h_r4)
            · exact (kr_X7_bestNow_84 hg ih h_r4)
theorem kr_X7_bestNow_0 {M0 : zM} (hg : KD M0) {a0 : Nat} {M : zM} (hM : FR M0 M) : KF (FR M0) (f_X7_bestNow_0 a0 M) := by
  unfold f_X7_bestNow_0
  refine KF.b fun v1 => ?_
  refine KF.i ?_ ?_
  · refine KF.i ?_ KF.n
    refine KF.c (kr_X7_its hg hM) fun r2 h_r2 => ?_
    refine KF.p (fr_gRh h_r2) fun v4 h_v4 => ?_
    exact (kr_X7_bestNow_25 hg zN h_r2)
  · exact KF.s hM
theorem kr_X7_bestNow {M0 : zM} (hg : KD M0) {a0 : Nat} {M : zM} (hM : FR M0 M) : KF (FR M0) (f_X7_bestNow a0 M) := by
  unfold f_X7_bestNow
  exact (kr_X7_bestNow_0 hg hM)
theorem kr_X7_best_0 {M0 : zM} (hg : KD M0) {a0 : Nat} {M : zM} (hM : FR M0 M) : KF (FR M0) (f_X7_best_0 a0 M) := by
  unfold f_X7_best_0
  refine KF.w (fr_pI hg hM rfl) fun M1 h_M1 => ?_
  refine KF.i ?_ KF.n
  refine KF.c (kr_X7_bestNow hg h_M1) fun r2 h_r2 => ?_
  exact KF.s h_r2
theorem kr_X7_best {M0 : zM} (hg : KD M0) {a0 : Nat} {M : zM} (hM : FR M0 M) : KF (FR M0) (f_X7_best a0 M) := by
  unfold f_X7_best
  exact (kr_X7_best_0 hg hM)
theorem kr_X7_isSafe_36 {M0 : zM} (hg : KD M0) : ∀ (n : Nat) {a0 : Nat} {i1 : Int32} {i2 : Int32} {i3 : Int32} {M : zM}, FR M0 M → KF (FR M0) (f_X7_isSafe_36 n a0 i1 i2 i3 M) := by
  intro n
  induction n with
  | zero => exact fun _ => KF.n
  | succ n ih =>
    intro a0 i1 i2 i3 M hM
    rw [f_X7_isSafe_36]
    refine KF.i ?_ ?_
    · exact KF.s hM
    · refine KF.i ?_ ?_
      · exact (ih hM)
      · refine KF.b fun v1 => ?_
        refine KF.b fun v2 => ?_
        refine KF.b fun v3 => ?_
        refine KF.i ?_ ?_
        · exact (ih hM)
        · refine KF.b fun v4 => ?_
          refine KF.b fun v5 => ?_
          refine KF.b fun v6 => ?_
          refine KF.i ?_ ?_
          · exact KF.s hM
          · exact (ih hM)
theorem kr_X7_isSafe_25 {M0 : zM} (hg : KD M0) {a0 : Nat} {i1 : Int32} {i2 : Int32} {i_0 : Int32} {a_1 : Nat} {M : zM} (hM : FR M0 M) : KF (FR M0) (f_X7_isSafe_25 a0 i1 i2 i_0 a_1 M) := by
  unfold f_X7_isSafe_25
  refine KF.i ?_ KF.n
  refine KF.c (kr_X7_refuse hg hM) fun r1 h_r1 => ?_
  refine KF.i ?_ ?_
  · exact (kr_X7_isSafe_36 hg zN h_r1)
  · exact KF.s h_r1
theorem kr_X7_isSafe_0 {M0 : zM} (hg : KD M0) {a0 : Nat} {i1 : Int32} {i2 : Int32} {M : zM} (hM : FR M0 M) : KF (FR M0) (f_X7_isSafe_0 a0 i1 i2 M) := by
  unfold f_X7_isSafe_0
  refine KF.c (kr_X7_isNoPlayer hg hM) fun r1 h_r1 => ?_
  refine KF.i ?_ KF.n
  refine KF.c (kr_X7_start hg h_r1) fun r2 h_r2 => ?_
  refine KF.i ?_ ?_
  · refine KF.c (kr_X7_isKind hg h_r2) fun r4 h_r4 => ?_
    refine KF.i ?_ ?_
    · exact (kr_X7_isSafe_25 hg h_r4)
    · exact (kr_X7_isSafe_25 hg h_r4)
  · exact KF.s h_r2
theorem kr_X7_isSafe {M0 : zM} (hg : KD M0) {a0 : Nat} {i1 : Int32} {i2 : Int32} {M : zM} (hM : FR M0 M) : KF (FR M0) (f_X7_isSafe a0 i1 i2 M) := by
  unfold f_X7_isSafe
  exact (kr_X7_isSafe_0 hg hM)
theorem kr_X7_unseen_0 {M0 : zM} (hg : KD M0) {a0 : Nat} {i1 : Int32} {i2 : Int32} {M : zM} (hM : FR M0 M) : KF (FR M0) (f_X7_unseen_0 a0 i1 i2 M) := by
  unfold f_X7_unseen_0
  refine KF.b fun v1 => ?_
  refine KF.b fun v2 => ?_
  refine KF.p (fr_gRh hM) fun v3 h_v3 => ?_
  refine KF.b fun v4 => ?_
  refine KF.i ?_ KF.n
  refine KF.c (kr_X7_seenNow hg hM) fun r5 h_r5 => ?_
  exact KF.s h_r5
theorem kr_X7_unseen {M0 : zM} (hg : KD M0) {a0 : Nat} {i1 : Int32} {i2 : Int32} {M : zM} (hM : FR M0 M) : KF (FR M0) (f_X7_unseen a0 i1 i2 M) := by
  unfold f_X7_unseen
  exact (kr_X7_unseen_0 hg hM)
theorem kr_X7_outs_41 {M0 : zM} (hg : KD M0) : ∀ (n : Nat) {a0 : Nat} {i1 : Int32} {i2 : Int32} {i3 : Int32} {i4 : Int32} {M : zM}, FR M0 M → KF (FR M0) (f_X7_outs_41 n a0 i1 i2 i3 i4 M) := by
  intro n
  induction n with
  | zero => exact fun _ => KF.n
  | succ n ih =>
    intro a0 i1 i2 i3 i4 M hM
    rw [f_X7_outs_41]
    refine KF.i ?_ ?_
    · exact KF.s hM
    · refine KF.i ?_ KF.n
      refine KF.c (kr_X7_unseen hg hM) fun r1 h_r1 => ?_
      refine KF.i ?_ ?_
      · exact (ih h_r1)
      · refine KF.b fun v3 => ?_
        refine KF.b fun v4 => ?_
        refine KF.i ?_ KF.n
        refine KF.c (kr_X6_farWith hg h_r1) fun r5 h_r5 => ?_
        refine KF.i ?_ ?_
        · exact (ih h_r5)
        · refine KF.i ?_ KF.n
          refine KF.c (kr_X7_unseen hg h_r5) fun r7 h_r7 => ?_
          exact (ih h_r7)
theorem kr_X7_outs_0 {M0 : zM} (hg : KD M0) {a0 : Nat} {i1 : Int32} {M : zM} (hM : FR M0 M) : KF (FR M0) (f_X7_outs_0 a0 i1 M) := by
  unfold f_X7_outs_0
  refine KF.c (kr_X7_isNoPlayer hg hM) fun r1 h_r1 => ?_
  refine KF.i ?_ KF.n
  refine KF.c (kr_X7_start hg h_r1) fun r2 h_r2 => ?_
  refine KF.i ?_ ?_
  · refine KF.b fun v4 => ?_
    refine KF.b fun v5 => ?_
    refine KF.i ?_ KF.n
    refine KF.c (kr_X6_hasTooMany hg h_r2) fun r6 h_r6 => ?_
    refine KF.i ?_ ?_
    · refine KF.b fun v8 => ?_
      refine KF.b fun v9 => ?_
      refine KF.i ?_ KF.n
      refine KF.c (kr_X6_far hg h_r6) fun r10 h_r10 => ?_
      exact (kr_X7_outs_41 hg zN h_r10)
    · exact KF.s h_r6
  · exact KF.s h_r2
theorem kr_X7_outs {M0 : zM} (hg : KD M0) {a0 : Nat} {i1 : Int32} {M : zM} (hM : FR M0 M) : KF (FR M0) (f_X7_outs a0 i1 M) := by
  unfold f_X7_outs
  exact (kr_X7_outs_0 hg hM)
theorem kr_X7_add_0 {M0 : zM} (hg : KD M0) {j0 : Int64} {j2 : Int64} {M : zM} (hM : FR M0 M) : KF (FR M0) (f_X7_add_0 j0 j2 M) := by
  unfold f_X7_add_0
  exact KF.s hM
theorem kr_X7_add {M0 : zM} (hg : KD M0) {j0 : Int64} {j2 : Int64} {M : zM} (hM : FR M0 M) : KF (FR M0) (f_X7_add j0 j2 M) := by
  unfold f_X7_add
  exact (kr_X7_add_0 hg hM)
theorem kr_X7_digest_168 {M0 : zM} (hg : KD M0) {K36 : Nat → Int64 → Int32 → zM → Option (Int64 × zM)} (hK36 : ∀ {x0 : Nat} {x1 : Int64} {x2 : Int32} {M : zM}, FR M0 M → KF (FR M0) (K36 x0 x1 x2 M)) : ∀ (n : Nat) {a0 : Nat} {j1 : Int64} {i3 : Int32} {a4 : Nat} {M : zM}, FR M0 M → KF (FR M0) (f_X7_digest_168 K36 n a0 j1 i3 a4 M) := by
  intro n
  induction n with
  | zero => exact fun _ => KF.n
  | succ n ih =>
    intro a0 j1 i3 a4 M hM
    rw [f_X7_digest_168]
    refine KF.i ?_ KF.n
    refine KF.c (kr_Jx35411_hasNext_aae02 hg hM) fun r1 h_r1 => ?_
    refine KF.i ?_ ?_
    · refine KF.b fun v3 => ?_
      refine KF.b fun v4 => ?_
      refine KF.i ?_ KF.n
      refine KF.c (kr_X6_waits hg h_r1) fun r5 h_r5 => ?_
      refine KF.c (kr_X7_add hg h_r5) fun r7 h_r7 => ?_
      refine KF.i ?_ KF.n
      refine KF.c (kr_X7_leadNow hg h_r7) fun r8 h_r8 => ?_
      refine KF.i ?_ KF.n
      refine KF.c (kr_X7_add hg h_r8) fun r10 h_r10 => ?_
      exact (hK36 h_r10)
    · refine KF.i ?_ KF.n
      refine KF.c (kr_Jx35411_next_0502b hg h_r1) fun r12 h_r12 => ?_
      refine KF.i ?_ KF.n
      refine KF.i ?_ KF.n
      refine KF.c (kr_J6_intValue_8abf5 hg h_r12) fun r15 h_r15 => ?_
      refine KF.c (kr_X7_add hg h_r15) fun r17 h_r17 => ?_
      exact (ih h_r17)
theorem kr_X7_digest_118 {M0 : zM} (hg : KD M0) {K36 : Nat → Int64 → Int32 → zM → Option (Int64 × zM)} (hK36 : ∀ {x0 : Nat} {x1 : Int64} {x2 : Int32} {M : zM}, FR M0 M → KF (FR M0) (K36 x0 x1 x2 M)) : ∀ (n : Nat) {a0 : Nat} {j1 : Int64} {i3 : Int32} {a4 : Nat} {M : zM}, FR M0 M → KF (FR M0) (f_X7_digest_118 K36 n a0 j1 i3 a4 M) := by
  intro n
  induction n with
  | zero => exact fun _ => KF.n
  | succ n ih =>
    intro a0 j1 i3 a4 M hM
    rw [f_X7_digest_118]
    refine KF.i ?_ KF.n
    refine KF.c (kr_Jx35411_hasNext_aae02 hg hM) fun r1 h_r1 => ?_
    refine KF.i ?_ ?_
    · refine KF.b fun v3 => ?_
      refine KF.b fun v4 => ?_
      refine KF.b fun v5 => ?_
      refine KF.i ?_ KF.n
      refine KF.c (kr_Jx4a65c_iterator_32c93 hg h_r1) fun r6 h_r6 => ?_
      exact (kr_X7_digest_168 hg hK36 zN h_r6)
    · refine KF.i ?_ KF.n
      refine KF.c (kr_Jx35411_next_0502b hg h_r1) fun r8 h_r8 => ?_
      refine KF.i ?_ KF.n
      refine KF.c (kr_X7_ofSetNow hg h_r8) fun r11 h_r11 => ?_
      refine KF.c (kr_X7_add hg h_r11) fun r12 h_r12 => ?_
      exact (ih h_r12)
theorem kr_X7_digest_73 {M0 : zM} (hg : KD M0) {K36 : Nat → Int64 → Int32 → zM → Option (Int64 × zM)} (hK36 : ∀ {x0 : Nat} {x1 : Int64} {x2 : Int32} {M : zM}, FR M0 M → KF (FR M0) (K36 x0 x1 x2 M)) : ∀ (n : Nat) {a0 : Nat} {j1 : Int64} {i3 : Int32} {i4 : Int32} {M : zM}, FR M0 M → KF (FR M0) (f_X7_digest_73 K36 n a0 j1 i3 i4 M) := by
  intro n
  induction n with
  | zero => exact fun _ => KF.n
  | succ n ih =>
    intro a0 j1 i3 i4 M hM
    rw [f_X7_digest_73]
    refine KF.i ?_ ?_
    · refine KF.b fun v1 => ?_
      refine KF.b fun v2 => ?_
      refine KF.b fun v3 => ?_
      refine KF.i ?_ KF.n
      refine KF.c (kr_Jx4a65c_iterator_32c93 hg hM) fun r4 h_r4 => ?_
      exact (kr_X7_digest_118 hg hK36 zN h_r4)
    · refine KF.b fun v6 => ?_
      refine KF.b fun v7 => ?_
      refine KF.p (fr_gRh hM) fun v8 h_v8 => ?_
      refine KF.b fun v9 => ?_
      refine KF.c (kr_X7_add hg hM) fun r10 h_r10 => ?_
      exact (ih h_r10)
theorem kr_X7_digest_44 {M0 : zM} (hg : KD M0) {K36 : Nat → Int64 → Int32 → zM → Option (Int64 × zM)} (hK36 : ∀ {x0 : Nat} {x1 : Int64} {x2 : Int32} {M : zM}, FR M0 M → KF (FR M0) (K36 x0 x1 x2 M)) : ∀ (n : Nat) {a0 : Nat} {j1 : Int64} {i3 : Int32} {i4 : Int32} {M : zM}, FR M0 M → KF (FR M0) (f_X7_digest_44 K36 n a0 j1 i3 i4 M) := by
  intro n
  induction n with
  | zero => exact fun _ => KF.n
  | succ n ih =>
    intro a0 j1 i3 i4 M hM
    rw [f_X7_digest_44]
    refine KF.i ?_ ?_
    · exact (kr_X7_digest_73 hg hK36 zN hM)
    · refine KF.i ?_ KF.n
      refine KF.c (kr_X7_ofPlayerNow hg hM) fun r1 h_r1 => ?_
      refine KF.c (kr_X7_add hg h_r1) fun r3 h_r3 => ?_
      exact (ih h_r3)
theorem kr_X7_digest_36 {M0 : zM} (hg : KD M0) : ∀ (n : Nat) {a0 : Nat} {j1 : Int64} {i3 : Int32} {M : zM}, FR M0 M → KF (FR M0) (f_X7_digest_36 n a0 j1 i3 M) := by
  intro n
  induction n with
  | zero => exact fun _ => KF.n
  | succ n ih =>
    intro a0 j1 i3 M hM
    rw [f_X7_digest_36]
    refine KF.i ?_ ?_
    · refine KF.i ?_ KF.n
      refine KF.c (kr_X7_bestNow hg hM) fun r1 h_r1 => ?_
      refine KF.c (kr_X7_add hg h_r1) fun r3 h_r3 => ?_
      exact KF.s h_r3
    · exact (kr_X7_digest_44 hg ih zN hM)
theorem kr_X7_digest_11 {M0 : zM} (hg : KD M0) : ∀ (n : Nat) {a0 : Nat} {j1 : Int64} {i3 : Int32} {M : zM}, FR M0 M → KF (FR M0) (f_X7_digest_11 n a0 j1 i3 M) := by
  intro n
  induction n with
  | zero => exact fun _ => KF.n
  | succ n ih =>
    intro a0 j1 i3 M hM
    rw [f_X7_digest_11]
    refine KF.i ?_ ?_
    · exact (kr_X7_digest_36 hg zN hM)
    · refine KF.i ?_ KF.n
      refine KF.c (kr_X7_manyNow hg hM) fun r1 h_r1 => ?_
      refine KF.c (kr_X7_add hg h_r1) fun r3 h_r3 => ?_
      exact (ih h_r3)
theorem kr_X7_digest_0 {M0 : zM} (hg : KD M0) {a0 : Nat} {M : zM} (hM : FR M0 M) : KF (FR M0) (f_X7_digest_0 a0 M) := by
  unfold f_X7_digest_0
  refine KF.w (fr_pI hg hM rfl) fun M1 h_M1 => ?_
  exact (kr_X7_digest_11 hg zN h_M1)
theorem kr_X7_digest {M0 : zM} (hg : KD M0) {a0 : Nat} {M : zM} (hM : FR M0 M) : KF (FR M0) (f_X7_digest a0 M) := by
  unfold f_X7_digest
  exact (kr_X7_digest_0 hg hM)
/-! ===== FRAMES of its texts ===== -/
theorem kh_X1_count_0 {M0 : zM} {a0 : Nat} {i1 : Int32} {M : zM} (hM : FH M0 M) : KF (FH M0) (f_X1_count_0 a0 i1 M) := by
  unfold f_X1_count_0
  refine KF.i ?_ ?_
  · exact KF.s hM
  · refine KF.i ?_ ?_
    · exact KF.s hM
    · refine KF.b fun v1 => ?_
      refine KF.b fun v2 => ?_
      exact KF.s hM
theorem kh_X1_count {M0 : zM} {a0 : Nat} {i1 : Int32} {M : zM} (hM : FH M0 M) : KF (FH M0) (f_X1_count a0 i1 M) := by
  unfold f_X1_count
  exact (kh_X1_count_0 hM)
theorem kh_J9_max_7cf53_0 {M0 : zM} {i0 : Int32} {i1 : Int32} {M : zM} (hM : FH M0 M) : KF (FH M0) (f_J9_max_7cf53_0 i0 i1 M) := by
  unfold f_J9_max_7cf53_0
  refine KF.i ?_ ?_
  · exact KF.s hM
  · exact KF.s hM
theorem kh_J9_max_7cf53 {M0 : zM} {i0 : Int32} {i1 : Int32} {M : zM} (hM : FH M0 M) : KF (FH M0) (f_J9_max_7cf53 i0 i1 M) := by
  unfold f_J9_max_7cf53
  exact (kh_J9_max_7cf53_0 hM)
theorem kh_J9_min_7cf53_0 {M0 : zM} {i0 : Int32} {i1 : Int32} {M : zM} (hM : FH M0 M) : KF (FH M0) (f_J9_min_7cf53_0 i0 i1 M) := by
  unfold f_J9_min_7cf53_0
  refine KF.i ?_ ?_
  · exact KF.s hM
  · exact KF.s hM
theorem kh_J9_min_7cf53 {M0 : zM} {i0 : Int32} {i1 : Int32} {M : zM} (hM : FH M0 M) : KF (FH M0) (f_J9_min_7cf53 i0 i1 M) := by
  unfold f_J9_min_7cf53
  exact (kh_J9_min_7cf53_0 hM)
theorem kh_X3_requirePlayer_9 {M0 : zM} {M : zM} (hM : FH M0 M) : KF (FH M0) (f_X3_requirePlayer_9 M) := by
  unfold f_X3_requirePlayer_9
  exact KF.s (fh_nE hM)
theorem kh_X3_requirePlayer_0 {M0 : zM} {i0 : Int32} {M : zM} (hM : FH M0 M) : KF (FH M0) (f_X3_requirePlayer_0 i0 M) := by
  unfold f_X3_requirePlayer_0
  refine KF.i ?_ ?_
  · exact (kh_X3_requirePlayer_9 hM)
  · refine KF.i ?_ ?_
    · exact KF.s hM
    · exact (kh_X3_requirePlayer_9 hM)
theorem kh_X3_requirePlayer {M0 : zM} {i0 : Int32} {M : zM} (hM : FH M0 M) : KF (FH M0) (f_X3_requirePlayer i0 M) := by
  unfold f_X3_requirePlayer
  exact (kh_X3_requirePlayer_0 hM)
theorem kh_J5_init_d00df_0 {M0 : zM} {a0 : Nat} {i1 : Int32} {M : zM} (hM : FH M0 M) : KF (FH M0) (f_J5_init_d00df_0 a0 i1 M) := by
  unfold f_J5_init_d00df_0
  refine KF.i ?_ ?_
  · exact KF.n
  · refine KF.c (fh_aA hM) fun r1 h_r1 => ?_
    refine KF.w (fh_pR h_r1 rfl) fun M2 h_M2 => ?_
    refine KF.w (fh_pZ h_M2 rfl) fun M3 h_M3 => ?_
    exact KF.s h_M3
theorem kh_J5_init_d00df {M0 : zM} {a0 : Nat} {i1 : Int32} {M : zM} (hM : FH M0 M) : KF (FH M0) (f_J5_init_d00df a0 i1 M) := by
  unfold f_J5_init_d00df
  exact (kh_J5_init_d00df_0 hM)
theorem kh_J4_init_da8c8_0 {M0 : zM} {a0 : Nat} {M : zM} (hM : FH M0 M) : KF (FH M0) (f_J4_init_da8c8_0 a0 M) := by
  unfold f_J4_init_da8c8_0
  refine KF.c (kh_J5_init_d00df hM) fun r1 h_r1 => ?_
  exact KF.s h_r1
theorem kh_J4_init_da8c8 {M0 : zM} {a0 : Nat} {M : zM} (hM : FH M0 M) : KF (FH M0) (f_J4_init_da8c8 a0 M) := by
  unfold f_J4_init_da8c8
  exact (kh_J4_init_da8c8_0 hM)
theorem kh_J5_length_8abf5_0 {M0 : zM} {a0 : Nat} {M : zM} (hM : FH M0 M) : KF (FH M0) (f_J5_length_8abf5_0 a0 M) := by
  unfold f_J5_length_8abf5_0
  refine KF.b fun v1 => ?_
  exact KF.s hM
theorem kh_J5_length_8abf5 {M0 : zM} {a0 : Nat} {M : zM} (hM : FH M0 M) : KF (FH M0) (f_J5_length_8abf5 a0 M) := by
  unfold f_J5_length_8abf5
  exact (kh_J5_length_8abf5_0 hM)
theorem kh_J4_length_8abf5_0 {M0 : zM} {a0 : Nat} {M : zM} (hM : FH M0 M) : KF (FH M0) (f_J4_length_8abf5_0 a0 M) := by
  unfold f_J4_length_8abf5_0
  refine KF.i ?_ KF.n
  refine KF.c (kh_J5_length_8abf5 hM) fun r1 h_r1 => ?_
  exact KF.s h_r1
theorem kh_J4_length_8abf5 {M0 : zM} {a0 : Nat} {M : zM} (hM : FH M0 M) : KF (FH M0) (f_J4_length_8abf5 a0 M) := by
  unfold f_J4_length_8abf5
  exact (kh_J4_length_8abf5_0 hM)
theorem kh_J5_getValue_6d5f1_0 {M0 : zM} {a0 : Nat} {M : zM} (hM : FH M0 M) : KF (FH M0) (f_J5_getValue_6d5f1_0 a0 M) := by
  unfold f_J5_getValue_6d5f1_0
  refine KF.b fun v1 => ?_
  exact KF.s hM
theorem kh_J5_getValue_6d5f1 {M0 : zM} {a0 : Nat} {M : zM} (hM : FH M0 M) : KF (FH M0) (f_J5_getValue_6d5f1 a0 M) := by
  unfold f_J5_getValue_6d5f1
  exact (kh_J5_getValue_6d5f1_0 hM)
theorem kh_J5_isLatin1_aae02_0 {M0 : zM} {a0 : Nat} {M : zM} (hM : FH M0 M) : KF (FH M0) (f_J5_isLatin1_aae02_0 a0 M) := by
  unfold f_J5_isLatin1_aae02_0
  refine KF.i ?_ ?_
  · exact KF.s hM
  · refine KF.b fun v1 => ?_
    refine KF.i ?_ ?_
    · exact KF.s hM
    · exact KF.s hM
theorem kh_J5_isLatin1_aae02 {M0 : zM} {a0 : Nat} {M : zM} (hM : FH M0 M) : KF (FH M0) (f_J5_isLatin1_aae02 a0 M) := by
  unfold f_J5_isLatin1_aae02
  exact (kh_J5_isLatin1_aae02_0 hM)
theorem kh_J0_coder_7d493_0 {M0 : zM} {a0 : Nat} {M : zM} (hM : FH M0 M) : KF (FH M0) (f_J0_coder_7d493_0 a0 M) := by
  unfold f_J0_coder_7d493_0
  refine KF.i ?_ ?_
  · exact KF.s hM
  · refine KF.b fun v1 => ?_
    refine KF.i ?_ KF.n
    exact KF.s hM
theorem kh_J0_coder_7d493 {M0 : zM} {a0 : Nat} {M : zM} (hM : FH M0 M) : KF (FH M0) (f_J0_coder_7d493 a0 M) := by
  unfold f_J0_coder_7d493
  exact (kh_J0_coder_7d493_0 hM)
theorem kh_J0_length_8abf5_0 {M0 : zM} {a0 : Nat} {M : zM} (hM : FH M0 M) : KF (FH M0) (f_J0_length_8abf5_0 a0 M) := by
  unfold f_J0_length_8abf5_0
  refine KF.b fun v1 => ?_
  refine KF.b fun v2 => ?_
  refine KF.i ?_ KF.n
  refine KF.c (kh_J0_coder_7d493 hM) fun r3 h_r3 => ?_
  exact KF.s h_r3
theorem kh_J0_length_8abf5 {M0 : zM} {a0 : Nat} {M : zM} (hM : FH M0 M) : KF (FH M0) (f_J0_length_8abf5 a0 M) := by
  unfold f_J0_length_8abf5
  exact (kh_J0_length_8abf5_0 hM)
theorem kh_J8_newLength_cabcc_21 {M0 : zM} {i0 : Int32} {i1 : Int32} {M : zM} (hM : FH M0 M) : KF (FH M0) (f_J8_newLength_cabcc_21 i0 i1 M) := by
  unfold f_J8_newLength_cabcc_21
  exact KF.n
theorem kh_J8_newLength_cabcc_0 {M0 : zM} {i0 : Int32} {i1 : Int32} {i2 : Int32} {M : zM} (hM : FH M0 M) : KF (FH M0) (f_J8_newLength_cabcc_0 i0 i1 i2 M) := by
  unfold f_J8_newLength_cabcc_0
  refine KF.c (kh_J9_max_7cf53 hM) fun r1 h_r1 => ?_
  refine KF.i ?_ ?_
  · exact (kh_J8_newLength_cabcc_21 h_r1)
  · refine KF.i ?_ ?_
    · exact (kh_J8_newLength_cabcc_21 h_r1)
    · exact KF.s h_r1
theorem kh_J8_newLength_cabcc {M0 : zM} {i0 : Int32} {i1 : Int32} {i2 : Int32} {M : zM} (hM : FH M0 M) : KF (FH M0) (f_J8_newLength_cabcc i0 i1 i2 M) := by
  unfold f_J8_newLength_cabcc
  exact (kh_J8_newLength_cabcc_0 hM)
theorem kh_J5_newCapacity_0f7a4_0 {M0 : zM} {a0 : Nat} {i1 : Int32} {M : zM} (hM : FH M0 M) : KF (FH M0) (f_J5_newCapacity_0f7a4_0 a0 i1 M) := by
  unfold f_J5_newCapacity_0f7a4_0
  refine KF.b fun v1 => ?_
  refine KF.b fun v2 => ?_
  refine KF.b fun v3 => ?_
  refine KF.b fun v4 => ?_
  refine KF.c (kh_J8_newLength_cabcc hM) fun r5 h_r5 => ?_
  refine KF.i ?_ ?_
  · exact KF.n
  · refine KF.b fun v6 => ?_
    exact KF.s h_r5
theorem kh_J5_newCapacity_0f7a4 {M0 : zM} {a0 : Nat} {i1 : Int32} {M : zM} (hM : FH M0 M) : KF (FH M0) (f_J5_newCapacity_0f7a4 a0 i1 M) := by
  unfold f_J5_newCapacity_0f7a4
  exact (kh_J5_newCapacity_0f7a4_0 hM)
theorem kh_J7_copyOf_9075b_0 {M0 : zM} {a0 : Nat} {i1 : Int32} {M : zM} (hM : FH M0 M) : KF (FH M0) (f_J7_copyOf_9075b_0 a0 i1 M) := by
  unfold f_J7_copyOf_9075b_0
  refine KF.b fun v1 => ?_
  refine KF.i ?_ ?_
  · refine KF.c (fh_aC hM) fun r6 h_r6 => ?_
    refine KF.i ?_ KF.n
    exact KF.s h_r6
  · refine KF.c (fh_aA hM) fun r2 h_r2 => ?_
    refine KF.b fun v3 => ?_
    refine KF.c (kh_J9_min_7cf53 h_r2) fun r4 h_r4 => ?_
    refine KF.w (fh_yI h_r4) fun M5 h_M5 => ?_
    exact KF.s h_M5
theorem kh_J7_copyOf_9075b {M0 : zM} {a0 : Nat} {i1 : Int32} {M : zM} (hM : FH M0 M) : KF (FH M0) (f_J7_copyOf_9075b a0 i1 M) := by
  unfold f_J7_copyOf_9075b
  exact (kh_J7_copyOf_9075b_0 hM)
theorem kh_J5_ensureCapacityInternal_d00df_0 {M0 : zM} {a0 : Nat} {i1 : Int32} {M : zM} (hM : FH M0 M) : KF (FH M0) (f_J5_ensureCapacityInternal_d00df_0 a0 i1 M) := by
  unfold f_J5_ensureCapacityInternal_d00df_0
  refine KF.b fun v1 => ?_
  refine KF.b fun v2 => ?_
  refine KF.b fun v3 => ?_
  refine KF.i ?_ ?_
  · exact KF.s hM
  · refine KF.b fun v4 => ?_
    refine KF.i ?_ KF.n
    refine KF.c (kh_J5_newCapacity_0f7a4 hM) fun r5 h_r5 => ?_
    refine KF.b fun v7 => ?_
    refine KF.c (kh_J7_copyOf_9075b h_r5) fun r8 h_r8 => ?_
    refine KF.w (fh_pR h_r8 rfl) fun M9 h_M9 => ?_
    exact KF.s h_M9
theorem kh_J5_ensureCapacityInternal_d00df {M0 : zM} {a0 : Nat} {i1 : Int32} {M : zM} (hM : FH M0 M) : KF (FH M0) (f_J5_ensureCapacityInternal_d00df a0 i1 M) := by
  unfold f_J5_ensureCapacityInternal_d00df
  exact (kh_J5_ensureCapacityInternal_d00df_0 hM)
theorem kh_J6_getChars_ba4f3_104 {M0 : zM} {a2 : Nat} {i5 : Int32} {i6 : Int32} {M : zM} (hM : FH M0 M) : KF (FH M0) (f_J6_getChars_ba4f3_104 a2 i5 i6 M) := by
  unfold f_J6_getChars_ba4f3_104
  refine KF.i ?_ ?_
  · exact KF.s hM
  · refine KF.w (fh_tB hM) fun M1 h_M1 => ?_
    exact KF.s h_M1
theorem kh_J6_getChars_ba4f3_22 {M0 : zM} : ∀ (n : Nat) {i0 : Int32} {a2 : Nat} {i5 : Int32} {i6 : Int32} {M : zM}, FH M0 M → KF (FH M0) (f_J6_getChars_ba4f3_22 n i0 a2 i5 i6 M) := by
  intro n
  induction n with
  | zero => exact fun _ => KF.n
  | succ n ih =>
    intro i0 a2 i5 i6 M hM
    rw [f_J6_getChars_ba4f3_22]
    refine KF.i ?_ ?_
    · refine KF.b fun v1 => ?_
      refine KF.w (fh_tB hM) fun M2 h_M2 => ?_
      refine KF.i ?_ ?_
      · exact (kh_J6_getChars_ba4f3_104 h_M2)
      · refine KF.b fun v3 => ?_
        refine KF.w (fh_tB h_M2) fun M4 h_M4 => ?_
        exact (kh_J6_getChars_ba4f3_104 h_M4)
    · refine KF.b fun v6 => ?_
      refine KF.w (fh_tB hM) fun M7 h_M7 => ?_
      refine KF.b fun v8 => ?_
      refine KF.w (fh_tB h_M7) fun M9 h_M9 => ?_
      exact (ih h_M9)
theorem kh_J6_getChars_ba4f3_12 {M0 : zM} {i0 : Int32} {a2 : Nat} {i5 : Int32} {i_0 : Int32} {M : zM} (hM : FH M0 M) : KF (FH M0) (f_J6_getChars_ba4f3_12 i0 a2 i5 i_0 M) := by
  unfold f_J6_getChars_ba4f3_12
  refine KF.i ?_ ?_
  · exact (kh_J6_getChars_ba4f3_22 zN hM)
  · exact (kh_J6_getChars_ba4f3_22 zN hM)
theorem kh_J6_getChars_ba4f3_0 {M0 : zM} {i0 : Int32} {i1 : Int32} {a2 : Nat} {M : zM} (hM : FH M0 M) : KF (FH M0) (f_J6_getChars_ba4f3_0 i0 i1 a2 M) := by
  unfold f_J6_getChars_ba4f3_0
  refine KF.i ?_ ?_
  · exact (kh_J6_getChars_ba4f3_12 hM)
  · exact (kh_J6_getChars_ba4f3_12 hM)
theorem kh_J6_getChars_ba4f3 {M0 : zM} {i0 : Int32} {i1 : Int32} {a2 : Nat} {M : zM} (hM : FH M0 M) : KF (FH M0) (f_J6_getChars_ba4f3 i0 i1 a2 M) := by
  unfold f_J6_getChars_ba4f3
  exact (kh_J6_getChars_ba4f3_0 hM)
theorem kh_J6_stringSize_0f7a4_16 {M0 : zM} : ∀ (n : Nat) {i0 : Int32} {i1 : Int32} {i2 : Int32} {i3 : Int32} {M : zM}, FH M0 M → KF (FH M0) (f_J6_stringSize_0f7a4_16 n i0 i1 i2 i3 M) := by
  intro n
  induction n with
  | zero => exact fun _ => KF.n
  | succ n ih =>
    intro i0 i1 i2 i3 M hM
    rw [f_J6_stringSize_0f7a4_16]
    refine KF.i ?_ ?_
    · exact KF.s hM
    · refine KF.i ?_ ?_
      · exact (ih hM)
      · exact KF.s hM
theorem kh_J6_stringSize_0f7a4_11 {M0 : zM} {i0 : Int32} {i1 : Int32} {M : zM} (hM : FH M0 M) : KF (FH M0) (f_J6_stringSize_0f7a4_11 i0 i1 M) := by
  unfold f_J6_stringSize_0f7a4_11
  exact (kh_J6_stringSize_0f7a4_16 zN hM)
theorem kh_J6_stringSize_0f7a4_0 {M0 : zM} {i0 : Int32} {M : zM} (hM : FH M0 M) : KF (FH M0) (f_J6_stringSize_0f7a4_0 i0 M) := by
  unfold f_J6_stringSize_0f7a4_0
  refine KF.i ?_ ?_
  · exact (kh_J6_stringSize_0f7a4_11 hM)
  · exact (kh_J6_stringSize_0f7a4_11 hM)
theorem kh_J6_stringSize_0f7a4 {M0 : zM} {i0 : Int32} {M : zM} (hM : FH M0 M) : KF (FH M0) (f_J6_stringSize_0f7a4 i0 M) := by
  unfold f_J6_stringSize_0f7a4
  exact (kh_J6_stringSize_0f7a4_0 hM)
theorem kh_J5_append_c97b9_48 {M0 : zM} {a0 : Nat} {i3 : Int32} {M : zM} (hM : FH M0 M) : KF (FH M0) (f_J5_append_c97b9_48 a0 i3 M) := by
  unfold f_J5_append_c97b9_48
  refine KF.w (fh_pI hM rfl) fun M1 h_M1 => ?_
  exact KF.s h_M1
theorem kh_J5_append_c97b9_0 {M0 : zM} {a0 : Nat} {i1 : Int32} {M : zM} (hM : FH M0 M) : KF (FH M0) (f_J5_append_c97b9_0 a0 i1 M) := by
  unfold f_J5_append_c97b9_0
  refine KF.b fun v1 => ?_
  refine KF.c (kh_J6_stringSize_0f7a4 hM) fun r2 h_r2 => ?_
  refine KF.i ?_ KF.n
  refine KF.c (kh_J5_ensureCapacityInternal_d00df h_r2) fun r3 h_r3 => ?_
  refine KF.i ?_ KF.n
  refine KF.c (kh_J5_isLatin1_aae02 h_r3) fun r5 h_r5 => ?_
  refine KF.i ?_ ?_
  · refine KF.b fun v7 => ?_
    exact KF.n
  · refine KF.b fun v8 => ?_
    refine KF.c (kh_J6_getChars_ba4f3 h_r5) fun r9 h_r9 => ?_
    exact (kh_J5_append_c97b9_48 h_r9)
theorem kh_J5_append_c97b9 {M0 : zM} {a0 : Nat} {i1 : Int32} {M : zM} (hM : FH M0 M) : KF (FH M0) (f_J5_append_c97b9 a0 i1 M) := by
  unfold f_J5_append_c97b9
  exact (kh_J5_append_c97b9_0 hM)
theorem kh_J4_append_bf812_0 {M0 : zM} {a0 : Nat} {i1 : Int32} {M : zM} (hM : FH M0 M) : KF (FH M0) (f_J4_append_bf812_0 a0 i1 M) := by
  unfold f_J4_append_bf812_0
  refine KF.i ?_ KF.n
  refine KF.c (kh_J5_append_c97b9 hM) fun r1 h_r1 => ?_
  exact KF.s h_r1
theorem kh_J4_append_bf812 {M0 : zM} {a0 : Nat} {i1 : Int32} {M : zM} (hM : FH M0 M) : KF (FH M0) (f_J4_append_bf812 a0 i1 M) := by
  unfold f_J4_append_bf812
  exact (kh_J4_append_bf812_0 hM)
theorem kh_J7_checkLength_df160_0 {M0 : zM} {i0 : Int32} {i1 : Int32} {M : zM} (hM : FH M0 M) : KF (FH M0) (f_J7_checkLength_df160_0 i0 i1 M) := by
  unfold f_J7_checkLength_df160_0
  refine KF.i ?_ KF.n
  exact KF.s hM
theorem kh_J7_checkLength_df160 {M0 : zM} {i0 : Int32} {i1 : Int32} {M : zM} (hM : FH M0 M) : KF (FH M0) (f_J7_checkLength_df160 i0 i1 M) := by
  unfold f_J7_checkLength_df160
  exact (kh_J7_checkLength_df160_0 hM)
theorem kh_J7_copyOfRangeByte_39247_0 {M0 : zM} {a0 : Nat} {i1 : Int32} {i2 : Int32} {M : zM} (hM : FH M0 M) : KF (FH M0) (f_J7_copyOfRangeByte_39247_0 a0 i1 i2 M) := by
  unfold f_J7_copyOfRangeByte_39247_0
  refine KF.c (kh_J7_checkLength_df160 hM) fun r1 h_r1 => ?_
  refine KF.c (fh_aA h_r1) fun r2 h_r2 => ?_
  refine KF.b fun v3 => ?_
  refine KF.c (kh_J9_min_7cf53 h_r2) fun r4 h_r4 => ?_
  refine KF.w (fh_yI h_r4) fun M5 h_M5 => ?_
  exact KF.s h_M5
theorem kh_J7_copyOfRangeByte_39247 {M0 : zM} {a0 : Nat} {i1 : Int32} {i2 : Int32} {M : zM} (hM : FH M0 M) : KF (FH M0) (f_J7_copyOfRangeByte_39247 a0 i1 i2 M) := by
  unfold f_J7_copyOfRangeByte_39247
  exact (kh_J7_copyOfRangeByte_39247_0 hM)
theorem kh_J7_copyOfRange_39247_10 {M0 : zM} {a0 : Nat} {i1 : Int32} {i2 : Int32} {M : zM} (hM : FH M0 M) : KF (FH M0) (f_J7_copyOfRange_39247_10 a0 i1 i2 M) := by
  unfold f_J7_copyOfRange_39247_10
  refine KF.c (kh_J7_copyOfRangeByte_39247 hM) fun r1 h_r1 => ?_
  exact KF.s h_r1
theorem kh_J7_copyOfRange_39247_0 {M0 : zM} {a0 : Nat} {i1 : Int32} {i2 : Int32} {M : zM} (hM : FH M0 M) : KF (FH M0) (f_J7_copyOfRange_39247_0 a0 i1 i2 M) := by
  unfold f_J7_copyOfRange_39247_0
  refine KF.i ?_ ?_
  · refine KF.b fun v1 => ?_
    refine KF.i ?_ ?_
    · refine KF.c (fh_aC hM) fun r2 h_r2 => ?_
      refine KF.i ?_ KF.n
      exact KF.s h_r2
    · exact (kh_J7_copyOfRange_39247_10 hM)
  · exact (kh_J7_copyOfRange_39247_10 hM)
theorem kh_J7_copyOfRange_39247 {M0 : zM} {a0 : Nat} {i1 : Int32} {i2 : Int32} {M : zM} (hM : FH M0 M) : KF (FH M0) (f_J7_copyOfRange_39247 a0 i1 i2 M) := by
  unfold f_J7_copyOfRange_39247
  exact (kh_J7_copyOfRange_39247_0 hM)
theorem kh_J0_init_db425_79 {M0 : zM} {a0 : Nat} {a3 : Nat} {i4 : Int32} {M : zM} (hM : FH M0 M) : KF (FH M0) (f_J0_init_db425_79 a0 a3 i4 M) := by
  unfold f_J0_init_db425_79
  refine KF.w (fh_pZ hM rfl) fun M1 h_M1 => ?_
  refine KF.c (kh_J7_copyOfRange_39247 h_M1) fun r2 h_r2 => ?_
  refine KF.w (fh_pR h_r2 rfl) fun M3 h_M3 => ?_
  exact KF.s h_M3
theorem kh_J0_init_db425_0 {M0 : zM} {a0 : Nat} {a1 : Nat} {M : zM} (hM : FH M0 M) : KF (FH M0) (f_J0_init_db425_0 a0 a1 M) := by
  unfold f_J0_init_db425_0
  refine KF.i ?_ KF.n
  refine KF.c (kh_J5_getValue_6d5f1 hM) fun r1 h_r1 => ?_
  refine KF.i ?_ KF.n
  refine KF.c (kh_J4_length_8abf5 h_r1) fun r3 h_r3 => ?_
  refine KF.i ?_ KF.n
  refine KF.c (kh_J5_isLatin1_aae02 h_r3) fun r5 h_r5 => ?_
  refine KF.i ?_ ?_
  · refine KF.i ?_ ?_
    · exact (kh_J0_init_db425_79 h_r5)
    · refine KF.b fun v7 => ?_
      refine KF.i ?_ KF.n
      exact (kh_J0_init_db425_79 h_r5)
  · refine KF.w (fh_pZ h_r5 rfl) fun M10 h_M10 => ?_
    refine KF.c (kh_J7_copyOfRange_39247 h_M10) fun r11 h_r11 => ?_
    refine KF.w (fh_pR h_r11 rfl) fun M12 h_M12 => ?_
    exact KF.s h_M12
theorem kh_J0_init_db425 {M0 : zM} {a0 : Nat} {a1 : Nat} {M : zM} (hM : FH M0 M) : KF (FH M0) (f_J0_init_db425 a0 a1 M) := by
  unfold f_J0_init_db425
  exact (kh_J0_init_db425_0 hM)
theorem kh_J0_init_81219_0 {M0 : zM} {a0 : Nat} {a1 : Nat} {M : zM} (hM : FH M0 M) : KF (FH M0) (f_J0_init_81219_0 a0 a1 M) := by
  unfold f_J0_init_81219_0
  refine KF.c (kh_J0_init_db425 hM) fun r1 h_r1 => ?_
  exact KF.s h_r1
theorem kh_J0_init_81219 {M0 : zM} {a0 : Nat} {a1 : Nat} {M : zM} (hM : FH M0 M) : KF (FH M0) (f_J0_init_81219 a0 a1 M) := by
  unfold f_J0_init_81219
  exact (kh_J0_init_81219_0 hM)
theorem kh_J4_toString_0e30d_0 {M0 : zM} {a0 : Nat} {M : zM} (hM : FH M0 M) : KF (FH M0) (f_J4_toString_0e30d_0 a0 M) := by
  unfold f_J4_toString_0e30d_0
  refine KF.c (kh_J0_init_81219 (fh_nO hM)) fun r1 h_r1 => ?_
  exact KF.s h_r1
theorem kh_J4_toString_0e30d {M0 : zM} {a0 : Nat} {M : zM} (hM : FH M0 M) : KF (FH M0) (f_J4_toString_0e30d a0 M) := by
  unfold f_J4_toString_0e30d
  exact (kh_J4_toString_0e30d_0 hM)
theorem kh_J0_isLatin1_aae02_0 {M0 : zM} {a0 : Nat} {M : zM} (hM : FH M0 M) : KF (FH M0) (f_J0_isLatin1_aae02_0 a0 M) := by
  unfold f_J0_isLatin1_aae02_0
  refine KF.i ?_ ?_
  · exact KF.s hM
  · refine KF.b fun v1 => ?_
    refine KF.i ?_ ?_
    · exact KF.s hM
    · exact KF.s hM
theorem kh_J0_isLatin1_aae02 {M0 : zM} {a0 : Nat} {M : zM} (hM : FH M0 M) : KF (FH M0) (f_J0_isLatin1_aae02 a0 M) := by
  unfold f_J0_isLatin1_aae02
  exact (kh_J0_isLatin1_aae02_0 hM)
theorem kh_J3_checkIndex_8e157_0 {M0 : zM} {i0 : Int32} {i1 : Int32} {M : zM} (hM : FH M0 M) : KF (FH M0) (f_J3_checkIndex_8e157_0 i0 i1 M) := by
  unfold f_J3_checkIndex_8e157_0
  refine KF.i ?_ ?_
  · exact KF.n
  · refine KF.i ?_ KF.n
    exact KF.s hM
theorem kh_J3_checkIndex_8e157 {M0 : zM} {i0 : Int32} {i1 : Int32} {M : zM} (hM : FH M0 M) : KF (FH M0) (f_J3_checkIndex_8e157 i0 i1 M) := by
  unfold f_J3_checkIndex_8e157
  exact (kh_J3_checkIndex_8e157_0 hM)
theorem kh_J0_checkIndex_df160_0 {M0 : zM} {i0 : Int32} {i1 : Int32} {M : zM} (hM : FH M0 M) : KF (FH M0) (f_J0_checkIndex_df160_0 i0 i1 M) := by
  unfold f_J0_checkIndex_df160_0
  refine KF.c (kh_J3_checkIndex_8e157 hM) fun r1 h_r1 => ?_
  exact KF.s h_r1
theorem kh_J0_checkIndex_df160 {M0 : zM} {i0 : Int32} {i1 : Int32} {M : zM} (hM : FH M0 M) : KF (FH M0) (f_J0_checkIndex_df160 i0 i1 M) := by
  unfold f_J0_checkIndex_df160
  exact (kh_J0_checkIndex_df160_0 hM)
theorem kh_J1_charAt_3b067_0 {M0 : zM} {a0 : Nat} {i1 : Int32} {M : zM} (hM : FH M0 M) : KF (FH M0) (f_J1_charAt_3b067_0 a0 i1 M) := by
  unfold f_J1_charAt_3b067_0
  refine KF.b fun v1 => ?_
  refine KF.c (kh_J0_checkIndex_df160 hM) fun r2 h_r2 => ?_
  refine KF.b fun v3 => ?_
  refine KF.i ?_ KF.n
  exact KF.s h_r2
theorem kh_J1_charAt_3b067 {M0 : zM} {a0 : Nat} {i1 : Int32} {M : zM} (hM : FH M0 M) : KF (FH M0) (f_J1_charAt_3b067 a0 i1 M) := by
  unfold f_J1_charAt_3b067
  exact (kh_J1_charAt_3b067_0 hM)
theorem kh_J0_charAt_5068e_0 {M0 : zM} {a0 : Nat} {i1 : Int32} {M : zM} (hM : FH M0 M) : KF (FH M0) (f_J0_charAt_5068e_0 a0 i1 M) := by
  unfold f_J0_charAt_5068e_0
  refine KF.i ?_ KF.n
  refine KF.c (kh_J0_isLatin1_aae02 hM) fun r1 h_r1 => ?_
  refine KF.i ?_ ?_
  · refine KF.b fun v3 => ?_
    exact KF.n
  · refine KF.b fun v4 => ?_
    refine KF.c (kh_J1_charAt_3b067 h_r1) fun r5 h_r5 => ?_
    refine KF.i ?_ KF.n
    exact KF.s h_r5
theorem kh_J0_charAt_5068e {M0 : zM} {a0 : Nat} {i1 : Int32} {M : zM} (hM : FH M0 M) : KF (FH M0) (f_J0_charAt_5068e a0 i1 M) := by
  unfold f_J0_charAt_5068e
  exact (kh_J0_charAt_5068e_0 hM)
theorem kh_J1_canEncode_fc78d_0 {M0 : zM} {i0 : Int32} {M : zM} (hM : FH M0 M) : KF (FH M0) (f_J1_canEncode_fc78d_0 i0 M) := by
  unfold f_J1_canEncode_fc78d_0
  refine KF.i ?_ ?_
  · exact KF.s hM
  · exact KF.s hM
theorem kh_J1_canEncode_fc78d {M0 : zM} {i0 : Int32} {M : zM} (hM : FH M0 M) : KF (FH M0) (f_J1_canEncode_fc78d i0 M) := by
  unfold f_J1_canEncode_fc78d
  exact (kh_J1_canEncode_fc78d_0 hM)
theorem kh_J5_append_3fe6f_56 {M0 : zM} {a0 : Nat} {i1 : Int32} {M : zM} (hM : FH M0 M) : KF (FH M0) (f_J5_append_3fe6f_56 a0 i1 M) := by
  unfold f_J5_append_3fe6f_56
  refine KF.b fun v1 => ?_
  refine KF.b fun v2 => ?_
  refine KF.w (fh_pI hM rfl) fun M3 h_M3 => ?_
  exact KF.n
theorem kh_J5_append_3fe6f_45 {M0 : zM} {a0 : Nat} {i1 : Int32} {M : zM} (hM : FH M0 M) : KF (FH M0) (f_J5_append_3fe6f_45 a0 i1 M) := by
  unfold f_J5_append_3fe6f_45
  refine KF.i ?_ KF.n
  refine KF.c (kh_J5_isLatin1_aae02 hM) fun r1 h_r1 => ?_
  refine KF.i ?_ KF.n
  exact (kh_J5_append_3fe6f_56 h_r1)
theorem kh_J5_append_3fe6f_0 {M0 : zM} {a0 : Nat} {i1 : Int32} {M : zM} (hM : FH M0 M) : KF (FH M0) (f_J5_append_3fe6f_0 a0 i1 M) := by
  unfold f_J5_append_3fe6f_0
  refine KF.b fun v1 => ?_
  refine KF.i ?_ KF.n
  refine KF.c (kh_J5_ensureCapacityInternal_d00df hM) fun r2 h_r2 => ?_
  refine KF.i ?_ KF.n
  refine KF.c (kh_J5_isLatin1_aae02 h_r2) fun r4 h_r4 => ?_
  refine KF.i ?_ ?_
  · exact (kh_J5_append_3fe6f_45 h_r4)
  · refine KF.c (kh_J1_canEncode_fc78d h_r4) fun r6 h_r6 => ?_
    refine KF.i ?_ ?_
    · exact (kh_J5_append_3fe6f_45 h_r6)
    · refine KF.b fun v7 => ?_
      refine KF.b fun v8 => ?_
      refine KF.w (fh_pI h_r6 rfl) fun M9 h_M9 => ?_
      refine KF.w (fh_tB h_M9) fun M10 h_M10 => ?_
      exact KF.s h_M10
theorem kh_J5_append_3fe6f {M0 : zM} {a0 : Nat} {i1 : Int32} {M : zM} (hM : FH M0 M) : KF (FH M0) (f_J5_append_3fe6f a0 i1 M) := by
  unfold f_J5_append_3fe6f
  exact (kh_J5_append_3fe6f_0 hM)
theorem kh_J4_append_cf468_0 {M0 : zM} {a0 : Nat} {i1 : Int32} {M : zM} (hM : FH M0 M) : KF (FH M0) (f_J4_append_cf468_0 a0 i1 M) := by
  unfold f_J4_append_cf468_0
  refine KF.i ?_ KF.n
  refine KF.c (kh_J5_append_3fe6f hM) fun r1 h_r1 => ?_
  exact KF.s h_r1
theorem kh_J4_append_cf468 {M0 : zM} {a0 : Nat} {i1 : Int32} {M : zM} (hM : FH M0 M) : KF (FH M0) (f_J4_append_cf468 a0 i1 M) := by
  unfold f_J4_append_cf468
  exact (kh_J4_append_cf468_0 hM)
theorem kh_X3_writeHonours_24 {M0 : zM} {K6 : Nat → Nat → Nat → Int32 → zM → Option (Unit × zM)} (hK6 : ∀ {x0 : Nat} {x1 : Nat} {x2 : Nat} {x3 : Int32} {M : zM}, FH M0 M → KF (FH M0) (K6 x0 x1 x2 x3 M)) : ∀ (n : Nat) {a0 : Nat} {a1 : Nat} {a2 : Nat} {i3 : Int32} {i4 : Int32} {M : zM}, FH M0 M → KF (FH M0) (f_X3_writeHonours_24 K6 n a0 a1 a2 i3 i4 M) := by
  intro n
  induction n with
  | zero => exact fun _ => KF.n
  | succ n ih =>
    intro a0 a1 a2 i3 i4 M hM
    rw [f_X3_writeHonours_24]
    refine KF.i ?_ ?_
    · exact (hK6 hM)
    · refine KF.i ?_ KF.n
      refine KF.c (kh_J0_charAt_5068e hM) fun r1 h_r1 => ?_
      refine KF.i ?_ KF.n
      refine KF.c (kh_J4_append_cf468 h_r1) fun r3 h_r3 => ?_
      exact (ih h_r3)
theorem kh_X3_writeHonours_6 {M0 : zM} : ∀ (n : Nat) {a0 : Nat} {a1 : Nat} {a2 : Nat} {i3 : Int32} {M : zM}, FH M0 M → KF (FH M0) (f_X3_writeHonours_6 n a0 a1 a2 i3 M) := by
  intro n
  induction n with
  | zero => exact fun _ => KF.n
  | succ n ih =>
    intro a0 a1 a2 i3 M hM
    rw [f_X3_writeHonours_6]
    refine KF.i ?_ KF.n
    refine KF.c (kh_J0_length_8abf5 hM) fun r1 h_r1 => ?_
    refine KF.i ?_ ?_
    · exact KF.s h_r1
    · refine KF.i ?_ KF.n
      refine KF.c (kh_X1_count h_r1) fun r3 h_r3 => ?_
      exact (kh_X3_writeHonours_24 ih zN h_r3)
theorem kh_X3_writeHonours_0 {M0 : zM} {a0 : Nat} {a1 : Nat} {M : zM} (hM : FH M0 M) : KF (FH M0) (f_X3_writeHonours_0 a0 a1 M) := by
  unfold f_X3_writeHonours_0
  exact (kh_X3_writeHonours_6 zN hM)
theorem kh_X3_writeHonours {M0 : zM} {a0 : Nat} {a1 : Nat} {M : zM} (hM : FH M0 M) : KF (FH M0) (f_X3_writeHonours a0 a1 M) := by
  unfold f_X3_writeHonours
  exact (kh_X3_writeHonours_0 hM)
theorem kh_X3_writeSuit_28 {M0 : zM} {K9 : Nat → Nat → Int32 → Int32 → Int32 → Int32 → zM → Option (Unit × zM)} (hK9 : ∀ {x0 : Nat} {x1 : Nat} {x2 : Int32} {x3 : Int32} {x4 : Int32} {x5 : Int32} {M : zM}, FH M0 M → KF (FH M0) (K9 x0 x1 x2 x3 x4 x5 M)) : ∀ (n : Nat) {a0 : Nat} {a1 : Nat} {i2 : Int32} {i3 : Int32} {i4 : Int32} {i5 : Int32} {i6 : Int32} {M : zM}, FH M0 M → KF (FH M0) (f_X3_writeSuit_28 K9 n a0 a1 i2 i3 i4 i5 i6 M) := by
  intro n
  induction n with
  | zero => exact fun _ => KF.n
  | succ n ih =>
    intro a0 a1 i2 i3 i4 i5 i6 M hM
    rw [f_X3_writeSuit_28]
    refine KF.i ?_ ?_
    · exact (hK9 hM)
    · refine KF.i ?_ KF.n
      refine KF.c (kh_J4_append_bf812 hM) fun r1 h_r1 => ?_
      exact (ih h_r1)
theorem kh_X3_writeSuit_9 {M0 : zM} : ∀ (n : Nat) {a0 : Nat} {a1 : Nat} {i2 : Int32} {i3 : Int32} {i4 : Int32} {i5 : Int32} {M : zM}, FH M0 M → KF (FH M0) (f_X3_writeSuit_9 n a0 a1 i2 i3 i4 i5 M) := by
  intro n
  induction n with
  | zero => exact fun _ => KF.n
  | succ n ih =>
    intro a0 a1 i2 i3 i4 i5 M hM
    rw [f_X3_writeSuit_9]
    refine KF.i ?_ ?_
    · refine KF.i ?_ KF.n
      refine KF.c (kh_J4_length_8abf5 hM) fun r1 h_r1 => ?_
      refine KF.i ?_ ?_
      · exact KF.s h_r1
      · refine KF.i ?_ KF.n
        refine KF.c (kh_J4_append_cf468 h_r1) fun r3 h_r3 => ?_
        exact KF.s h_r3
    · refine KF.i ?_ KF.n
      refine KF.c (kh_X1_count hM) fun r6 h_r6 => ?_
      exact (kh_X3_writeSuit_28 ih zN h_r6)
theorem kh_X3_writeSuit_0 {M0 : zM} {a0 : Nat} {a1 : Nat} {i2 : Int32} {i3 : Int32} {M : zM} (hM : FH M0 M) : KF (FH M0) (f_X3_writeSuit_0 a0 a1 i2 i3 M) := by
  unfold f_X3_writeSuit_0
  refine KF.i ?_ KF.n
  refine KF.c (kh_J4_length_8abf5 hM) fun r1 h_r1 => ?_
  exact (kh_X3_writeSuit_9 zN h_r1)
theorem kh_X3_writeSuit {M0 : zM} {a0 : Nat} {a1 : Nat} {i2 : Int32} {i3 : Int32} {M : zM} (hM : FH M0 M) : KF (FH M0) (f_X3_writeSuit a0 a1 i2 i3 M) := by
  unfold f_X3_writeSuit
  exact (kh_X3_writeSuit_0 hM)
theorem kh_X3_hand_0 {M0 : zM} {a0 : Nat} {i1 : Int32} {M : zM} (hM : FH M0 M) : KF (FH M0) (f_X3_hand_0 a0 i1 M) := by
  unfold f_X3_hand_0
  refine KF.xb (kh_X3_requirePlayer hM) fun w1 Mw1 h_Mw1 => ?_
  refine KF.b fun v10 => ?_
  refine KF.b fun v11 => ?_
  refine KF.c (kh_J4_init_da8c8 (fh_nO h_Mw1)) fun r12 h_r12 => ?_
  refine KF.c (kh_X3_writeSuit h_r12) fun r13 h_r13 => ?_
  refine KF.c (kh_X3_writeSuit h_r13) fun r14 h_r14 => ?_
  refine KF.c (kh_X3_writeHonours h_r14) fun r15 h_r15 => ?_
  refine KF.i ?_ KF.n
  refine KF.c (kh_J4_toString_0e30d h_r15) fun r16 h_r16 => ?_
  exact KF.s h_r16
theorem kh_X3_hand {M0 : zM} {a0 : Nat} {i1 : Int32} {M : zM} (hM : FH M0 M) : KF (FH M0) (f_X3_hand a0 i1 M) := by
  unfold f_X3_hand
  exact (kh_X3_hand_0 hM)
