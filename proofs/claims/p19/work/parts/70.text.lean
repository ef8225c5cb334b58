/-! ===== PURE, TEXT: what the builder of text does ===== -/
/-- the digits, and the letters of the honours, on both sides -/
def TX (M : zM) : Prop := (mK M 6 = 201 ∧ mL M 6 = 100) ∧ ∀ x, x = 20 ∨ x = 21 → mK M x = 301 ∧ mR M 32 x = some (20 + x) ∧ mI M 33 x = 0 ∧ mK M (20 + x) = 201 ∧ mL M (20 + x) = 7
/-- a builder of text, of c letters -/
def SB (M : zM) (o c : Nat) : Prop := mK M o = 2 ∧ mR M 64 o = some (o + 1) ∧ mI M 65 o = 0 ∧ mI M 67 o = nI c ∧ mK M (o + 1) = 101 ∧ mL M (o + 1) = 16 ∧ ∀ i, fits .byte (.int (mA M (o + 1) i)) = true
/-- it was made since -/
def BS (M0 M : zM) (c : Nat) : Prop := KM 2 20 M0 M ∧ mX M0 + 1 < mX M ∧ SB M (mX M0) c
theorem chr_q (v : Int32) : ∃ q, q ≤ 255 ∧ (((v &&& (255 : Int32)).toUInt32 % 65536).toInt32) = nI q := by
  refine ⟨((v &&& (255 : Int32)).toUInt32 % 65536).toNat, ?_, (congrArg UInt32.toInt32 (UInt32.ofNat_toNat (x := (v &&& (255 : Int32)).toUInt32 % 65536)).symm)⟩
  have h1 : ((v &&& (255 : Int32)).toUInt32).toNat ≤ 255 := by
    show (v.toUInt32 &&& (255 : UInt32)).toNat ≤ 255
    rw [UInt32.toNat_and]
    exact Nat.and_le_right
  rw [UInt32.toNat_mod]
  exact Nat.le_trans (Nat.mod_le _ _) h1
theorem chr_n {q : Nat} (hq : q ≤ 255) : vp_nar .char (nI q) = nI q := by
  unfold vp_nar
  rw [(pk_charN (q := q) (by omega)).1]
theorem nar_fit (v : Int32) : fits .byte (.int (vp_nar .byte v)) = true := fits_byte_narrow v
section SBS
variable {M M0 : zM} {c : Nat}
theorem u2_kn {α : Type} (f : Nat → Nat → α) {k k' : Nat} (a b : Nat) (v : α) (h : k' ≠ k) : u2 f k a v k' b = f k' b := if_neg (fun z => h z.1)
theorem e_lA1 {b i : Nat} (hk : mK M b = 101 ∨ mK M b = 201) (hi : i < mL M b) (hL : mL M b < 2 ^ 31) : lA 1 M b (nI i) = some (mA M b i) := by
  have e : lA 1 M b (nI i) = some (mA M b (nI i).toNatClampNeg) := if_pos ⟨hk, nI_oob hi hL⟩
  rw [e, nI_cl (by omega)]
theorem e_tB {b i : Nat} {v : Int32} (hk : mK M b = 101) (hi : i < mL M b) (hL : mL M b < 2 ^ 31) : tB M b (nI i) v = some (sA M b i (vp_nar .byte v)) := by
  have e : tB M b (nI i) v = some (sA M b (nI i).toNatClampNeg (vp_nar .byte v)) := if_pos ⟨hk, nI_oob hi hL⟩
  rw [e, nI_cl (by omega)]
theorem e_hR {c k a v : Nat} (q : Nat) (hk : mK M a = c ∨ mK M a = 300 + c) (hv : mR M q a = some v) (hq : 32 * c + k = q := by rfl) : hR c k M a = some v := by
  subst hq
  exact (if_pos hk).trans hv
theorem b_init (M0 : zM) : ∃ M, f_J4_init_da8c8 (mX M0) (nO M0 2 4) = some ((), M) ∧ BS M0 M 0 := by
  have k0 : mK (nO M0 2 4) (mX M0) = 2 := if_pos rfl
  have k1 : mK (nA (nO M0 2 4) 1 16) (mX M0) = 2 := (if_neg (show ¬ mX M0 = mX M0 + 1 by omega)).trans k0
  have ea : aA 1 (nO M0 2 4) (16 : Int32) = some (mX M0 + 1, nA (nO M0 2 4) 1 16) := e_aA (M := nO M0 2 4) (c := 16) (by decide) 1
  refine ⟨sI (sR (nA (nO M0 2 4) 1 16) 64 (mX M0) (some (mX M0 + 1))) 65 (mX M0) 0, ?_, ((((KM.rf M0).nO 2 4).nA 1 16).sR (Nat.le_refl _) _ _).sI (Nat.le_refl _) _ _, Nat.lt_succ_self _, ?_⟩
  · unfold f_J4_init_da8c8 f_J4_init_da8c8_0 f_J5_init_d00df f_J5_init_d00df_0
    rw [if_neg (show ¬ (1 : Int32) = 0 by decide), ea, Option.bind_some]
    dsimp only
    rw [e_pR 64 k1, Option.bind_some, e_pZ 65 (show mK (sR (nA (nO M0 2 4) 1 16) 64 (mX M0) (some (mX M0 + 1))) (mX M0) = 2 from k1) (Or.inl rfl)]
    rfl
  · refine ⟨k1, if_pos ⟨rfl, rfl⟩, if_pos ⟨rfl, rfl⟩, ?_, if_pos rfl, if_pos rfl, fun i => ?_⟩
    · exact (u2_kn (k := 65) (k' := 67) (uc (mI M0) (mX M0) 0) (mX M0) (mX M0) 0 (by decide)).trans (show uc (mI M0) (mX M0) 0 67 (mX M0) = 0 from if_pos rfl)
    · have e : mA (sI (sR (nA (nO M0 2 4) 1 16) 64 (mX M0) (some (mX M0 + 1))) 65 (mX M0) 0) (mX M0 + 1) i = 0 := ur_at (mA (nO M0 2 4)) (mX M0 + 1) i (fun _ => 0)
      rw [e]
      rfl
theorem b_ens (h : BS M0 M c) (hc : c < 16) (v : Int32) (hv : v = nI (c + 1)) : f_J5_ensureCapacityInternal_d00df (mX M0) v M = some ((), M) := by
  obtain ⟨-, -, h1, h2, h3, h4, h5, h6, h7⟩ := h
  have key : ∀ c, c < 16 → nI (c + 1) - (nI 16 >>> ((0 : Int32) &&& 31)) ≤ 0 := by decide
  unfold f_J5_ensureCapacityInternal_d00df f_J5_ensureCapacityInternal_d00df_0
  rw [e_gR 64 h1 h2, Option.bind_some, e_gL (by rw [h5]; decide) h6, Option.bind_some, e_gI 65 h1, Option.bind_some, h3, hv, if_pos (key c hc)]
theorem b_lat (h : BS M0 M c) : f_J5_isLatin1_aae02 (mX M0) M = some (1, M) := by
  obtain ⟨-, -, h1, h2, h3, -⟩ := h
  unfold f_J5_isLatin1_aae02 f_J5_isLatin1_aae02_0
  rw [if_neg (show ¬ (1 : Int32) = 0 by decide), e_gI 65 h1, Option.bind_some, h3, if_pos rfl]
theorem b_len (h : BS M0 M c) : f_J4_length_8abf5 (mX M0) M = some (nI c, M) := by
  obtain ⟨-, -, h1, h2, h3, h4, -⟩ := h
  unfold f_J4_length_8abf5 f_J4_length_8abf5_0 f_J5_length_8abf5 f_J5_length_8abf5_0
  rw [if_pos h1, e_gI 67 h1, Option.bind_some, Option.bind_some, h4]
/-- one letter more -/
theorem BS.put (h : BS M0 M c) (v : Int32) : BS M0 (sA (sI M 67 (mX M0) (nI (c + 1))) (mX M0 + 1) c (vp_nar .byte v)) (c + 1) ∧ BS M0 (sI (sA M (mX M0 + 1) c (vp_nar .byte v)) 67 (mX M0) (nI (c + 1))) (c + 1) := by
  obtain ⟨k, hx, h1, h2, h3, h4, h5, h6, h7⟩ := h
  have f : ∀ i, fits .byte (.int (u2 (mA M) (mX M0 + 1) c (vp_nar .byte v) (mX M0 + 1) i)) = true := fun i => by
    by_cases z : i = c
    · rw [show u2 (mA M) (mX M0 + 1) c (vp_nar .byte v) (mX M0 + 1) i = vp_nar .byte v from if_pos ⟨rfl, z⟩]
      exact nar_fit v
    · rw [show u2 (mA M) (mX M0 + 1) c (vp_nar .byte v) (mX M0 + 1) i = mA M (mX M0 + 1) i from if_neg (fun q => z q.2)]
      exact h7 i
  exact ⟨⟨(k.sI (Nat.le_refl _) _ _).sA (by omega) _ _, hx, h1, h2, (u2_kn (k := 67) (k' := 65) (mI M) (mX M0) (mX M0) (nI (c + 1)) (by decide)).trans h3, u2_at _ _ _ _, h5, h6, f⟩,
    ⟨(k.sA (by omega) _ _).sI (Nat.le_refl _) _ _, hx, h1, h2, (u2_kn (k := 67) (k' := 65) (mI M) (mX M0) (mX M0) (nI (c + 1)) (by decide)).trans h3, u2_at _ _ _ _, h5, h6, f⟩⟩
theorem b_char (h : BS M0 M c) (hc : c < 16) {v : Int32} (hv : ¬ (255 : Int32) < v) : ∃ M', f_J4_append_cf468 (mX M0) v M = some (mX M0, M') ∧ BS M0 M' (c + 1) := by
  have hh := h
  obtain ⟨k, hx, h1, h2, h3, h4, h5, h6, h7⟩ := hh
  refine ⟨_, ?_, (h.put v.toInt8.toInt32).1⟩
  unfold f_J4_append_cf468 f_J4_append_cf468_0 f_J5_append_3fe6f f_J5_append_3fe6f_0
  rw [if_pos h1, e_gI 67 h1, Option.bind_some, h4, if_pos h1, b_ens h hc _ (nI_1 c), Option.bind_some]
  dsimp only
  rw [if_pos h1, b_lat h, Option.bind_some]
  dsimp only
  rw [if_neg (show ¬ (1 : Int32) = 0 by decide)]
  unfold f_J1_canEncode_fc78d f_J1_canEncode_fc78d_0
  rw [if_neg hv, Option.bind_some]
  dsimp only
  rw [if_neg (show ¬ (1 : Int32) = 0 by decide), e_gR 64 h1 h2, Option.bind_some, e_gI 67 h1, Option.bind_some, e_pI 67 h1, Option.bind_some, h4, nI_1, e_tB (M := sI M 67 (mX M0) (nI (c + 1))) h5 (show c < mL M (mX M0 + 1) by omega) (show mL M (mX M0 + 1) < 2 ^ 31 by rw [h6]; decide)]
  rfl
theorem dig_size : ∀ d, d < 10 → f_J6_stringSize_0f7a4 (nI d) M = some (1, M) := by
  intro d hd
  have k1 : ∀ d, d < 10 → ¬ nI d < 0 := by decide
  have k2 : ∀ d, d < 10 → ¬ - nI d ≤ -10 := by decide
  unfold f_J6_stringSize_0f7a4 f_J6_stringSize_0f7a4_0 f_J6_stringSize_0f7a4_11
  rw [if_neg (k1 d hd)]
  obtain ⟨n, en⟩ : ∃ n, zN = n + 1 := ⟨129, by decide⟩
  rw [en, f_J6_stringSize_0f7a4_16, if_neg (show ¬ (10 : Int32) ≤ 1 by decide), if_neg (k2 d hd)]
  rfl
theorem b_int (ht : TX M) (h : BS M0 M c) (hc : c < 16) {d : Nat} (hd : d < 10) : ∃ M', f_J4_append_bf812 (mX M0) (nI d) M = some (mX M0, M') ∧ BS M0 M' (c + 1) := by
  have hh := h
  obtain ⟨k, hx, h1, h2, h3, h4, h5, h6, h7⟩ := hh
  have k1 : ∀ d, d < 10 → 0 ≤ nI d ∧ (-100 : Int32) < - nI d ∧ (-9 : Int32) ≤ - nI d ∧ - - nI d = nI d := by decide
  obtain ⟨d1, d2, d3, d4⟩ := k1 d hd
  have k2 : nI (c + 1) + (-1 : Int32) = nI c := pk_m1 c
  refine ⟨_, ?_, (h.put (mA M 6 d)).2⟩
  unfold f_J4_append_bf812 f_J4_append_bf812_0 f_J5_append_c97b9 f_J5_append_c97b9_0
  rw [if_pos h1, e_gI 67 h1, Option.bind_some, h4, dig_size d hd, Option.bind_some]
  dsimp only
  rw [if_pos h1, b_ens h hc _ (nI_1 c), Option.bind_some]
  dsimp only
  rw [if_pos h1, b_lat h, Option.bind_some]
  dsimp only
  rw [if_neg (show ¬ (1 : Int32) = 0 by decide), e_gR 64 h1 h2, Option.bind_some, nI_1]
  unfold f_J6_getChars_ba4f3 f_J6_getChars_ba4f3_0 f_J6_getChars_ba4f3_12
  rw [if_pos d1, if_pos rfl]
  obtain ⟨n, en⟩ : ∃ n, zN = n + 1 := ⟨129, by decide⟩
  rw [en, f_J6_getChars_ba4f3_22, if_pos d2, d4, e_lA1 (Or.inr ht.1.1) (by rw [ht.1.2]; omega) (by rw [ht.1.2]; decide), Option.bind_some, k2, e_tB h5 (by omega) (by rw [h6]; decide), Option.bind_some, if_pos d3]
  unfold f_J6_getChars_ba4f3_104 f_J5_append_c97b9_48
  rw [if_pos rfl, Option.bind_some]
  dsimp only
  rw [e_pI 67 (show mK (sA M (mX M0 + 1) c (vp_nar .byte (mA M 6 d))) (mX M0) = 2 from h1)]
  rfl
theorem b_at (h : BS M0 M (c + 1)) (hc : c < 16) : ∃ q, q ≤ 255 ∧ f_J4_charAt_5068e (mX M0) (nI (c + 1) - 1) M = some (nI q, M) := by
  obtain ⟨k, hx, h1, h2, h3, h4, h5, h6, h7⟩ := h
  obtain ⟨q, q1, q2⟩ := chr_q (mA M (mX M0 + 1) c)
  have k2 : nI (c + 1) - (1 : Int32) = nI c := (Int32.sub_eq_add_neg _ _).trans (pk_m1 c)
  have k3 : ∀ c, c < 16 → ¬ (nI 16 >>> ((0 : Int32) &&& 31)) < nI (c + 1) := by decide
  refine ⟨q, q1, ?_⟩
  unfold f_J4_charAt_5068e f_J4_charAt_5068e_0 f_J5_charAt_5068e f_J5_charAt_5068e_0
  rw [if_pos h1, e_gI 65 h1, Option.bind_some, e_gR 64 h1 h2, Option.bind_some, e_gI 67 h1, Option.bind_some, e_gL (by rw [h5]; decide) h6, Option.bind_some, h3, h4]
  unfold f_J9_min_7cf53 f_J9_min_7cf53_0
  rw [if_neg (k3 c hc), Option.bind_some, k2]
  dsimp only
  unfold f_J0_checkIndex_df160 f_J0_checkIndex_df160_0 f_J3_checkIndex_8e157 f_J3_checkIndex_8e157_0
  rw [if_neg (nI_nn (by omega)), if_pos (lt_t c (c + 1) (by omega) (by omega)), Option.bind_some, Option.bind_some]
  dsimp only
  rw [if_pos rfl, e_lA1 (Or.inl h5) (by omega) (by rw [h6]; decide), Option.bind_some, q2, chr_n q1, if_pos rfl, Option.bind_some]
  dsimp only
  rw [chr_n q1, if_pos rfl]
theorem t_at (ht : TX M) {x i : Nat} (hx : x = 20 ∨ x = 21) (hi : i < 7) : ∃ q, q ≤ 255 ∧ f_J0_charAt_5068e x (nI i) M = some (nI q, M) := by
  obtain ⟨t1, t2, t3, t4, t5⟩ := ht.2 x hx
  obtain ⟨q, q1, q2⟩ := chr_q (mA M (20 + x) i)
  refine ⟨q, q1, ?_⟩
  unfold f_J0_charAt_5068e f_J0_charAt_5068e_0 f_J0_isLatin1_aae02 f_J0_isLatin1_aae02_0
  rw [if_pos (Or.inr t1), if_neg (show ¬ (1 : Int32) = 0 by decide), e_hI 33 (Or.inr t1), Option.bind_some, t3, if_pos rfl, Option.bind_some]
  dsimp only
  rw [if_neg (show ¬ (1 : Int32) = 0 by decide), e_hR 32 (Or.inr t1) t2, Option.bind_some]
  unfold f_J1_charAt_3b067 f_J1_charAt_3b067_0
  rw [e_gL (by rw [t4]; decide) t5, Option.bind_some]
  unfold f_J0_checkIndex_df160 f_J0_checkIndex_df160_0 f_J3_checkIndex_8e157 f_J3_checkIndex_8e157_0
  rw [if_neg (nI_nn (by omega)), if_pos (lt_t i 7 (by omega) (by omega)), Option.bind_some, Option.bind_some]
  dsimp only
  rw [e_lA1 (Or.inr t4) (by omega) (by rw [t5]; decide), Option.bind_some, q2, chr_n q1, if_pos rfl, Option.bind_some]
  dsimp only
  rw [chr_n q1, if_pos rfl]
theorem t_len (ht : TX M) {x : Nat} (hx : x = 20 ∨ x = 21) : f_J0_length_8abf5 x M = some (7, M) := by
  obtain ⟨t1, t2, t3, t4, t5⟩ := ht.2 x hx
  unfold f_J0_length_8abf5 f_J0_length_8abf5_0
  rw [e_hR 32 (Or.inr t1) t2, Option.bind_some, e_gL (by rw [t4]; decide) t5, Option.bind_some, if_pos (Or.inr t1)]
  unfold f_J0_coder_7d493 f_J0_coder_7d493_0
  rw [if_neg (show ¬ (1 : Int32) = 0 by decide), e_hI 33 (Or.inr t1), Option.bind_some, t3, if_pos (by decide), Option.bind_some]
  show some (nI 7 >>> ((0 : Int32) &&& 31), M) = _
  rw [show nI 7 >>> ((0 : Int32) &&& 31) = 7 by decide]
theorem b_str (h : BS M0 M c) (hc : c < 16) : ∃ r M', f_J4_toString_0e30d (mX M0) M = some (r, M') ∧ KM 4 40 M0 M' := by
  obtain ⟨k, hx, h1, h2, h3, h4, h5, h6, h7⟩ := h
  have hX := k.1.1
  have n1 : mX M0 ≠ mX M := by omega
  have n2 : mX M0 + 1 ≠ mX M := by omega
  have k1 : mK (nO M 1 4) (mX M) = 1 := if_pos rfl
  have g1 : mK (nO M 1 4) (mX M0) = 2 := (if_neg n1).trans h1
  have g2 : mR (nO M 1 4) 64 (mX M0) = some (mX M0 + 1) := (if_neg n1).trans h2
  have g3 : mI (nO M 1 4) 65 (mX M0) = 0 := (if_neg n1).trans h3
  have g4 : mI (nO M 1 4) 67 (mX M0) = nI c := (if_neg n1).trans h4
  have g5 : mK (nO M 1 4) (mX M0 + 1) = 101 := (if_neg n2).trans h5
  have kA : KM 3 24 M0 (sI (nO M 1 4) 33 (mX M) 0) := (k.nO 1 4).sI hX _ _
  have g7 : mA (sI (nO M 1 4) 33 (mX M) 0) (mX M0 + 1) = mA M (mX M0 + 1) := rfl
  have g6 : mL (sI (nO M 1 4) 33 (mX M) 0) (mX M0 + 1) = 16 := h6
  have hx2 : mX (sI (nO M 1 4) 33 (mX M) 0) = mX M + 1 := rfl
  have h33 : f_J0_init_db425 (mX M) (mX M0) (nO M 1 4) = (f_J7_copyOfRange_39247 (mX M0 + 1) 0 (nI c) (sI (nO M 1 4) 33 (mX M) 0)).bind fun r11 => (pR 1 0 r11.2 (mX M) r11.1).bind fun M12 => some ((), M12) := by
    unfold f_J0_init_db425 f_J0_init_db425_0 f_J5_getValue_6d5f1 f_J5_getValue_6d5f1_0 f_J4_length_8abf5 f_J4_length_8abf5_0 f_J5_length_8abf5 f_J5_length_8abf5_0 f_J5_isLatin1_aae02 f_J5_isLatin1_aae02_0
    rw [if_pos g1, e_gR 64 g1 g2, Option.bind_some, Option.bind_some]
    dsimp only
    rw [if_pos g1, if_pos g1, e_gI 67 g1, Option.bind_some, Option.bind_some, Option.bind_some]
    dsimp only
    rw [if_pos g1, if_neg (show ¬ (1 : Int32) = 0 by decide), e_gI 65 g1, Option.bind_some, g3, if_pos rfl, Option.bind_some]
    dsimp only
    rw [if_neg (show ¬ (1 : Int32) = 0 by decide), e_pZ 33 k1 (Or.inl rfl), Option.bind_some, g4]
  have k4 : mK (sI (nO M 1 4) 33 (mX M) 0) (mX M0 + 1) = 101 := g5
  have k5 : mK (sI (nO M 1 4) 33 (mX M) 0) (mX M) = 1 := k1
  generalize sI (nO M 1 4) 33 (mX M) 0 = M3 at *
  have q1 : ∀ c, c < 16 → ¬ nI c = nI 16 := by decide
  have q2 : ∀ c, c < 16 → 0 ≤ nI c ∧ nI c - 0 = nI c ∧ nI c < nI 16 - 0 := by decide
  obtain ⟨q3, q4, q5⟩ := q2 c hc
  have l1 : mK (nA M3 1 c) (mX M0 + 1) = 101 := (if_neg (by omega)).trans k4
  have l2 : mL (nA M3 1 c) (mX M0 + 1) = 16 := (if_neg (by omega)).trans g6
  have l3 : mK (nA M3 1 c) (mX M3) = 101 := if_pos rfl
  have l4 : mL (nA M3 1 c) (mX M3) = c := if_pos rfl
  have l5 : mA (nA M3 1 c) (mX M0 + 1) = mA M3 (mX M0 + 1) := funext fun i => ur_ne (r := mX M3) (b := mX M0 + 1) (mA M3) i (fun _ => 0) (by omega)
  have l6 : mK (nA M3 1 c) (mX M) = 1 := (if_neg (by omega)).trans k5
  have hcl : (nI c).toNatClampNeg = c := nI_cl (by omega)
  have c1 : ∃ w, f_J7_copyOfRange_39247 (mX M0 + 1) 0 (nI c) M3 = some (mX M3, sAr (nA M3 1 c) (mX M3) w) := by
    refine ⟨va_cpy (mA (nA M3 1 c) (mX M0 + 1)) (mA (nA M3 1 c) (mX M3)) (0 : Int32).toNatClampNeg (0 : Int32).toNatClampNeg (nI c).toNatClampNeg, ?_⟩
    unfold f_J7_copyOfRange_39247 f_J7_copyOfRange_39247_0 f_J7_copyOfRange_39247_10 f_J7_copyOfRangeByte_39247 f_J7_copyOfRangeByte_39247_0 f_J7_checkLength_df160 f_J7_checkLength_df160_0
    rw [if_pos rfl, e_gL (by rw [k4]; decide) g6, Option.bind_some, if_neg (q1 c hc), if_pos q3, Option.bind_some, q4, e_aA (by omega), Option.bind_some]
    dsimp only
    rw [e_gL (by rw [l1]; decide) l2, Option.bind_some]
    unfold f_J9_min_7cf53 f_J9_min_7cf53_0
    rw [if_pos q5, Option.bind_some]
    dsimp only
    have ey : yI 1 (nA M3 1 c) (mX M0 + 1) 0 (mX M3) 0 (nI c) = some (sAr (nA M3 1 c) (mX M3) (va_cpy (mA (nA M3 1 c) (mX M0 + 1)) (mA (nA M3 1 c) (mX M3)) (0 : Int32).toNatClampNeg (0 : Int32).toNatClampNeg (nI c).toNatClampNeg)) := if_pos ⟨l1, l3, ⟨by decide, by decide, nI_nn (by omega), by rw [l2, hcl]; show 0 + c ≤ 16; omega, by rw [l4, hcl]; show 0 + c ≤ c; omega⟩, fun i _ => by rw [l5, g7]; exact h7 _⟩
    rw [ey]
    rfl
  obtain ⟨w, c1⟩ := c1
  refine ⟨mX M, sR (sAr (nA M3 1 c) (mX M3) w) 32 (mX M) (some (mX M3)), ?_, ((((kA.nA 1 c).sAr (by omega) w).sR hX _ _).w (by decide) (by omega))⟩
  unfold f_J4_toString_0e30d f_J4_toString_0e30d_0 f_J0_init_81219 f_J0_init_81219_0
  rw [h33, c1, Option.bind_some]
  dsimp only
  rw [e_pR 32 (show mK (sAr (nA M3 1 c) (mX M3) w) (mX M) = 1 from l6)]
  rfl
end SBS
