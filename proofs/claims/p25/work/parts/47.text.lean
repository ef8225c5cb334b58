/-! ===== PURE, TEXT: what the builder of text does ===== -/
/-- the digits, and the letters of the honours, on both sides -/
def TX (M : zM) : Prop := (mK M 6 = 201 ∧ mL M 6 = 100) ∧ ∀ x, x = 20 ∨ x = 21 → mK M x = 301 ∧ mR M 32 x = some (20 + x) ∧ mI M 33 x = 0 ∧ mK M (20 + x) = 201 ∧ mL M (20 + x) = 7
/-- a builder of text, of c letters -/
def SB (M : zM) (o c : Nat) : Prop := mK M o = 2 ∧ mR M 64 o = some (o + 1) ∧ mI M 65 o = 0 ∧ mI M 67 o = nI c ∧ mK M (o + 1) = 101 ∧ mL M (o + 1) = 16 ∧ ∀ i, fits .byte (.int (mA M (o + 1) i)) = true
/-- it was made since -/
def BS (M0 M : zM) (c : Nat) : Prop := KM 2 20 M0 M ∧ mX M0 + 1 < mX M ∧ SB M (mX M0) c
theorem chr_q (v : Int32) : ∃ q, q ≤ 255 ∧ (((v &&& (255 : Int32)).toUInt32 % 65536).toInt32) = nI q := by
  refine ⟨((v &&& (255 : Int32)).toUInt32 % 65536).toNat, ?_, (congrArg UInt32.toInt32 (UInt32.ofNat_toNat (x := (v &&& (255 : Int32)).toUInt32 % 65536)).symm)⟩
  have h1 : ((v &&& (255 : Int32)).toUInt32).toNat ≤ 255 := by
    show (v.toUInt32 &&& (255 : UInt32)).toNat ≤ 255
    rw [UInt32.toNat_and]
    exact Nat.and_le_right
  rw [UInt32.toNat_mod]
  exact Nat.le_trans (Nat.mod_le _ _) h1
theorem chr_n {q : Nat} (hq : q ≤ 255) : vp_nar .char (nI q) = nI q := by
  unfold vp_nar
  rw [(pk_charN (q := q) (by omega)).1]
theorem nar_fit (v : Int32) : fits .byte (.int (vp_nar .byte v)) = true := fits_byte_narrow v
section SBS
variable {M M0 : zM} {c : Nat}
theorem u2_kn {α : Type} (f : Nat → Nat → α) {k k' : Nat} (a b : Nat) (v : α) (h : k' ≠ k) : u2 f k a v k' b = f k' b := if_neg (fun z => h z.1)
theorem e_lA1 {b i : Nat} (hk : mK M b = 101 ∨ mK M b = 201) (hi : i < mL M b) (hL : mL M b < 2 ^ 31) : lA 1 M b (nI i) = some (mA M b i) := by
  have e : lA 1 M b (nI i) = some (mA M b (nI i).toNatClampNeg) := if_pos ⟨hk, nI_oob hi hL⟩
  rw [e, nI_cl (by omega)]
theorem e_tB {b i : Nat} {v : Int32} (hk : mK M b = 101) (hi : i < mL M b) (hL : mL M b < 2 ^ 31) : tB M b (nI i) v = some (sA M b i (vp_nar .byte v)) := by
  have e : tB M b (nI i) v = some (sA M b (nI i).toNatClampNeg (vp_nar .byte v)) := if_pos ⟨hk, nI_oob hi hL⟩
  rw [e, nI_cl (by omega)]
theorem e_hR {c k a v : Nat} (q : Nat) (hk : mK M a = c ∨ mK M a = 300 + c) (hv : mR M q a = some v) (hq : 32 * c + k = q := by rfl) : hR c k M a = some v := by
  subst hq
  exact (if_pos hk).trans hv
theorem b_init (M0 : zM) : ∃ M, f_J4_init_da8c8 (mX M0) (nO M0 2 4) = some ((), M) ∧ BS M0 M 0 := by
  have k0 : mK (nO M0 2 4) (mX M0) = 2 := if_pos rfl
  have k1 : mK (nA (nO M0 2 4) 1 16) (mX M0) = 2 := (if_neg (show ¬ mX M0 = mX M0 + 1 by omega)).trans k0
  have ea : aA 1 (nO M0 2 4) (16 : Int32) = some (mX M0 + 1, nA (nO M0 2 4) 1 16) := e_aA (M := nO M0 2 4) (c := 16) (by decide) 1
  refine ⟨sI (sR (nA (nO M0 2 4) 1 16) 64 (mX M0) (some (mX M0 + 1))) 65 (mX M0) 0, ?_, ((((KM.rf M0).nO 2 4).nA 1 16).sR (Nat.le_refl _) _ _).sI (Nat.le_refl _) _ _, Nat.lt_succ_self _, ?_⟩
  · unfold f_J4_init_da8c8 f_J4_init_da8c8_0 f_J5_init_d00df f_J5_init_d00df_0
    rw [if_neg (show ¬ (1 : Int32) = 0 by decide), ea, Option.bind_some]
    dsimp only
    rw [e_pR 64 k1, Option.bind_some, e_pZ 65 (show mK (sR (nA (nO M0 2 4) 1 16) 64 (mX M0) (some (mX M0 + 1))) (mX M0) = 2 from k1) (Or.inl rfl)]
    rfl
  · refine ⟨k1, if_pos ⟨rfl, rfl⟩, if_pos ⟨rfl, rfl⟩, ?_, if_pos rfl, if_pos rfl, fun i => ?_⟩
    · exact (u2_kn (k := 65) (k' := 67) (uc (mI M0) (mX M0) 0) (mX M0) (mX M0) 0 (by decide)).trans (show uc (mI M0) (mX M0) 0 67 (mX M0) = 0 from if_pos rfl)
    · have e : mA (sI (sR (nA (nO M0 2 4) 1 16) 64 (mX M0) (some (mX M0 + 1))) 65 (mX M0) 0) (mX M0 + 1) i = 0 := ur_at (mA (nO M0 2 4)) (mX M0 + 1) i (fun _ => 0)
      rw [e]
      rfl
theorem b_ens (h : BS M0 M c) (hc : c < 16) (v : Int32) (hv : v = nI (c + 1)) : f_J5_ensureCapacityInternal_d00df (mX M0) v M = some ((), M) := by
  obtain ⟨-, -, h1, h2, h3, h4, h5, h6, h7⟩ := h
  have key : ∀ c, c < 16 → nI (c + 1) - (nI 16 >>> ((0 : Int32) &&& 31)) ≤ 0 := by decide
  unfold f_J5_ensureCapacityInternal_d00df f_J5_ensureCapacityInternal_d00df_0
  rw [e_gR 64 h1 h2, Option.bind_some, e_gL (by rw [h5]; decide) h6, Option.bind_some, e_gI 65 h1, Option.bind_some, h3, hv, if_pos (key c hc)]
theorem b_lat (h : BS M0 M c) : f_J5_isLatin1_aae02 (mX M0) M = some (1, M) := by
  obtain ⟨-, -, h1, h2, h3, -⟩ := h
  unfold f_J5_isLatin1_aae02 f_J5_isLatin1_aae02_0
  rw [if_neg (show ¬ (1 : Int32) = 0 by decide), e_gI 65 h1, Option.bind_some, h3, if_pos rfl]
theorem b_len (h : BS M0 M c) : f_J4_length_8abf5 (mX M0) M = some (nI c, M) := by
  obtain ⟨-, -, h1, h2, h3, h4, -⟩ := h
  unfold f_J4_length_8abf5 f_J4_length_8abf5_0 f_J5_length_8abf5 f_J5_length_8abf5_0
  rw [if_pos h1, e_gI 67 h1, Option.bind_some, Option.bind_some, h4]
/-- one letter more -/
theorem BS.put (h : BS M0 M c) (v : Int32) : BS M0 (sA (sI M 67 (mX M0) (nI (c + 1))) (mX M0 + 1) c (vp_nar .byte v)) (c + 1) ∧ BS M0 (sI (sA M (mX M0 + 1) c (vp_nar .byte v)) 67 (mX M0) (nI (c + 1))) (c + 1) := by
  obtain ⟨k, hx, h1, h2, h3, h4, h5, h6, h7⟩ := h
  have f : ∀ i, fits .byte (.int (u2 (mA M) (mX M0 + 1) c (vp_nar .byte v) (mX M0 + 1) i)) = true := fun i => by
    by_cases z : i = c
    · rw [show u2 (mA M) (mX M0 + 1) c (vp_nar .byte v) (mX M0 + 1) i = vp_nar .byte v from if_pos ⟨rfl, z⟩]
      exact nar_fit v
    · rw [show u2 (mA M) (mX M0 + 1) c (vp_nar .byte v) (mX M0 + 1) i = mA M (mX M0 + 1) i from if_neg (fun q => z q.2)]
      exact h7 i
  exact ⟨⟨(k.sI (Nat.le_refl _) _ _).sA (by omega) _ _, hx, h1, h2, (u2_kn (k := 67) (k' := 65) (mI M) (mX M0) (mX M0) (nI (c + 1)) (by decide)).trans h3, u2_at _ _ _ _, h5, h6, f⟩,
    ⟨(k.sA (by omega) _ _).sI (Nat.le_refl _) _ _, hx, h1, h2, (u2_kn (k := 67) (k' := 65) (mI M) (mX M0) (mX M0) (nI (c + 1)) (by decide)).trans h3, u2_at _ _ _ _, h5, h6, f⟩⟩
theorem b_char (h : BS M0 M c) (hc : c < 16) {v : Int32} (hv : ¬ (255 : Int32) < v) : ∃ M', f_J4_append_cf468 (mX M0) v M = some (mX M0, M') ∧ BS M0 M' (c + 1) := by
  have hh := h
  obtain ⟨k, hx, h1, h2, h3, h4, h5, h6, h7⟩ := hh
  refine ⟨_, ?_, (h.put v.toInt8.toInt32).1⟩
  unfold f_J4_append_cf468 f_J4_append_cf468_0 f_J5_append_3fe6f f_J5_append_3fe6f_0
  rw [if_pos h1, e_gI 67 h1, Option.bind_some, h4, if_pos h1, b_ens h hc _ (nI_1 c), Option.bind_some]
  dsimp only
  rw [if_pos h1, b_lat h, Option.bind_some]
  dsimp only
  rw [if_neg (show ¬ (1 : Int32) = 0 by decide)]
  unfold f_J1_canEncode_fc78d f_J1_canEncode_fc78d_0
  rw [if_neg hv, Option.bind_some]
  dsimp only
  rw [if_neg (show ¬ (1 : Int32) = 0 by decide), e_gR 64 h1 h2, Option.bind_some, e_gI 67 h1, Option.bind_some, e_pI 67 h1, Option.bind_some, h4, nI_1, e_tB (M := sI M 67 (mX M0) (nI (c + 1))) h5 (show c < mL M (mX M0 + 1) by omega) (show mL M (mX M0 + 1) < 2 ^ 31 by rw [h6]; decide)]
  rfl
theorem dig_size : ∀ d, d < 10 → f_J6_stringSize_0f7a4 (nI d) M = some (1, M) := by
  intro d hd
  have k1 : ∀ d, d < 10 → ¬ nI d < 0 := by decide
  have k2 : ∀ d, d < 10 → ¬ - nI d ≤ -10 := by decide
  unfold f_J6_stringSize_0f7a4 f_J6_stringSize_0f7a4_0 f_J6_stringSize_0f7a4_11
  rw [if_neg (k1 d hd)]
  obtain ⟨n, en⟩ : ∃ n, zN = n + 1 := ⟨129, by decide⟩
  rw [en, f_J6_stringSize_0f7a4_16, if_neg (show ¬ (10 : Int32) ≤ 1 by decide), if_neg (k2 d hd)]
  rfl
theorem b_int (ht : TX M) (h : BS M0 M c) (hc : c < 16) {d : Nat} (hd : d < 10) : ∃ M', f_J4_append_bf812 (mX M0) (nI d) M = some (mX M0, M') ∧ BS M0 M' (c + 1) := by
  have hh := h
  obtain ⟨k, hx, h1, h2, h3, h4, h5, h6, h7⟩ := hh
  have k1 : ∀ d, d < 10 → 0 ≤ nI d ∧ (-100 : Int32) < - nI d ∧ (-9 : Int32) ≤ - nI d ∧ - - nI d = nI d := by decide
  obtain ⟨d1, d2, d3, d4⟩ := k1 d hd
  have k2 : nI (c + 1) + (-1 : Int32) = nI c := pk_m1 c
  refine ⟨_, ?_, (h.put (mA M 6 d)).2⟩
  unfold f_J4_append_bf812 f_J4_append_bf812_0 f_J5_append_c97b9 f_J5_append_c97b9_0
  rw [if_pos h1, e_gI 67 h1, Option.bind_some, h4, dig_size d hd, Option.bind_some]
  dsimp only
  rw [if_pos h1, b_ens h hc _ (nI_1 c), Option.bind_some]
  dsimp only
  rw [if_pos h1, b_lat h, Option.bind_some]
  dsimp only
  rw [if_neg (show ¬ (1 : Int32) = 0 by decide), e_gR 64 h1 h2, Option.bind_some, nI_1]
  unfold f_J6_getChars_ba4f3 f_J6_getChars_ba4f3_0 f_J6_getChars_ba4f3_12
  rw [if_pos d1, if_pos rfl]
  obtain ⟨n, en⟩ : ∃ n, zN = n + 1 := ⟨129, by decide⟩
  rw [en, f_J6_getChars_ba4f3_22, if_pos d2, d4, e_lA1 (Or.inr ht.1.1) (by rw [ht.1.2]; omega) (by rw [ht.1.2]; decide), Option.bind_some, k2, e_tB h5 (by omega) (by rw [h6]; decide), Option.bind_some, if_pos d3]
  unfold f_J6_getChars_ba4f3_104 f_J5_append_c97b9_48
  rw [if_pos rfl, Option.bind_some]
  dsimp only
  rw [e_pI 67 (show mK (sA M (mX M0 + 1) c (vp_nar .byte (mA M 6 d))) (mX M0) = 2 from h1)]
  rfl
theorem t_at (ht : TX M) {x i : Nat} (hx : x = 20 ∨ x = 21) (hi : i < 7) : ∃ q, q ≤ 255 ∧ f_J0_charAt_5068e x (nI i) M = some (nI q, M) := by
  obtain ⟨t1, t2, t3, t4, t5⟩ := ht.2 x hx
  obtain ⟨q, q1, q2⟩ := chr_q (mA M (20 + x) i)
  refine ⟨q, q1, ?_⟩
  unfold f_J0_charAt_5068e f_J0_charAt_5068e_0 f_J0_isLatin1_aae02 f_J0_isLatin1_aae02_0
  rw [if_pos (Or.inr t1), if_neg (show ¬ (1 : Int32) = 0 by decide), e_hI 33 (Or.inr t1), Option.bind_some, t3, if_pos rfl, Option.bind_some]
  dsimp only
  rw [if_neg (show ¬ (1 : Int32) = 0 by decide), e_hR 32 (Or.inr t1) t2, Option.bind_some]
  unfold f_J1_charAt_3b067 f_J1_charAt_3b067_0
  rw [e_gL (by rw [t4]; decide) t5, Option.bind_some]
  unfold f_J0_checkIndex_df160 f_J0_checkIndex_df160_0 f_J3_checkIndex_8e157 f_J3_checkIndex_8e157_0
  rw [if_neg (nI_nn (by omega)), if_pos (lt_t i 7 (by omega) (by omega)), Option.bind_some, Option.bind_some]
  dsimp only
  rw [e_lA1 (Or.inr t4) (by omega) (by rw [t5]; decide), Option.bind_some, q2, chr_n q1, if_pos rfl, Option.bind_some]
  dsimp only
  rw [chr_n q1, if_pos rfl]
theorem t_len (ht : TX M) {x : Nat} (hx : x = 20 ∨ x = 21) : f_J0_length_8abf5 x M = some (7, M) := by
  obtain ⟨t1, t2, t3, t4, t5⟩ := ht.2 x hx
  unfold f_J0_length_8abf5 f_J0_length_8abf5_0
  rw [e_hR 32 (Or.inr t1) t2, Option.bind_some, e_gL (by rw [t4]; decide) t5, Option.bind_some, if_pos (Or.inr t1)]
  unfold f_J0_coder_7d493 f_J0_coder_7d493_0
  rw [if_neg (show ¬ (1 : Int32) = 0 by decide), e_hI 33 (Or.inr t1), Option.bind_some, t3, if_pos (by decide), Option.bind_some]
  show some (nI 7 >>> ((0 : Int32) &&& 31), M) = _
  rw [show nI 7 >>> ((0 : Int32) &&& 31) = 7 by decide]
theorem b_str (h : BS M0 M c) (hc : c < 16) : ∃ r M', f_J4_toString_0e30d (mX M0) M = some (r, M') ∧ KM 4 40 M0 M' ∧ mK M' r = 1 ∧ f_J0_length_8abf5 r M' = some (nI c, M') := by
  obtain ⟨k, hx, h1, h2, h3, h4, h5, h6, h7⟩ := h
  have hX := k.1.1
  have n1 : mX M0 ≠ mX M := by omega
  have n2 : mX M0 + 1 ≠ mX M := by omega
  have k1 : mK (nO M 1 4) (mX M) = 1 := if_pos rfl
  have g1 : mK (nO M 1 4) (mX M0) = 2 := (if_neg n1).trans h1
  have g2 : mR (nO M 1 4) 64 (mX M0) = some (mX M0 + 1) := (if_neg n1).trans h2
  have g3 : mI (nO M 1 4) 65 (mX M0) = 0 := (if_neg n1).trans h3
  have g4 : mI (nO M 1 4) 67 (mX M0) = nI c := (if_neg n1).trans h4
  have g5 : mK (nO M 1 4) (mX M0 + 1) = 101 := (if_neg n2).trans h5
  have kA : KM 3 24 M0 (sI (nO M 1 4) 33 (mX M) 0) := (k.nO 1 4).sI hX _ _
  have g7 : mA (sI (nO M 1 4) 33 (mX M) 0) (mX M0 + 1) = mA M (mX M0 + 1) := rfl
  have g6 : mL (sI (nO M 1 4) 33 (mX M) 0) (mX M0 + 1) = 16 := h6
  have hx2 : mX (sI (nO M 1 4) 33 (mX M) 0) = mX M + 1 := rfl
  have h33 : f_J0_init_db425 (mX M) (mX M0) (nO M 1 4) = (f_J7_copyOfRange_39247 (mX M0 + 1) 0 (nI c) (sI (nO M 1 4) 33 (mX M) 0)).bind fun r11 => (pR 1 0 r11.2 (mX M) r11.1).bind fun M12 => some ((), M12) := by
    unfold f_J0_init_db425 f_J0_init_db425_0 f_J5_getValue_6d5f1 f_J5_getValue_6d5f1_0 f_J4_length_8abf5 f_J4_length_8abf5_0 f_J5_length_8abf5 f_J5_length_8abf5_0 f_J5_isLatin1_aae02 f_J5_isLatin1_aae02_0
    rw [if_pos g1, e_gR 64 g1 g2, Option.bind_some, Option.bind_some]
    dsimp only
    rw [if_pos g1, if_pos g1, e_gI 67 g1, Option.bind_some, Option.bind_some, Option.bind_some]
    dsimp only
    rw [if_pos g1, if_neg (show ¬ (1 : Int32) = 0 by decide), e_gI 65 g1, Option.bind_some, g3, if_pos rfl, Option.bind_some]
    dsimp only
    rw [if_neg (show ¬ (1 : Int32) = 0 by decide), e_pZ 33 k1 (Or.inl rfl), Option.bind_some, g4]
  have k4 : mK (sI (nO M 1 4) 33 (mX M) 0) (mX M0 + 1) = 101 := g5
  have k5 : mK (sI (nO M 1 4) 33 (mX M) 0) (mX M) = 1 := k1
  have k6 : mI (sI (nO M 1 4) 33 (mX M) 0) 33 (mX M) = 0 := u2_at (mI (nO M 1 4)) 33 (mX M) 0
  generalize sI (nO M 1 4) 33 (mX M) 0 = M3 at *
  have q1 : ∀ c, c < 16 → ¬ nI c = nI 16 := by decide
  have q2 : ∀ c, c < 16 → 0 ≤ nI c ∧ nI c - 0 = nI c ∧ nI c < nI 16 - 0 := by decide
  obtain ⟨q3, q4, q5⟩ := q2 c hc
  have l1 : mK (nA M3 1 c) (mX M0 + 1) = 101 := (if_neg (by omega)).trans k4
  have l2 : mL (nA M3 1 c) (mX M0 + 1) = 16 := (if_neg (by omega)).trans g6
  have l3 : mK (nA M3 1 c) (mX M3) = 101 := if_pos rfl
  have l4 : mL (nA M3 1 c) (mX M3) = c := if_pos rfl
  have l5 : mA (nA M3 1 c) (mX M0 + 1) = mA M3 (mX M0 + 1) := funext fun i => ur_ne (r := mX M3) (b := mX M0 + 1) (mA M3) i (fun _ => 0) (by omega)
  have l6 : mK (nA M3 1 c) (mX M) = 1 := (if_neg (by omega)).trans k5
  have hcl : (nI c).toNatClampNeg = c := nI_cl (by omega)
  have c1 : ∃ w, f_J7_copyOfRange_39247 (mX M0 + 1) 0 (nI c) M3 = some (mX M3, sAr (nA M3 1 c) (mX M3) w) := by
    refine ⟨va_cpy (mA (nA M3 1 c) (mX M0 + 1)) (mA (nA M3 1 c) (mX M3)) (0 : Int32).toNatClampNeg (0 : Int32).toNatClampNeg (nI c).toNatClampNeg, ?_⟩
    unfold f_J7_copyOfRange_39247 f_J7_copyOfRange_39247_0 f_J7_copyOfRange_39247_10 f_J7_copyOfRangeByte_39247 f_J7_copyOfRangeByte_39247_0 f_J7_checkLength_df160 f_J7_checkLength_df160_0
    rw [if_pos rfl, e_gL (by rw [k4]; decide) g6, Option.bind_some, if_neg (q1 c hc), if_pos q3, Option.bind_some, q4, e_aA (by omega), Option.bind_some]
    dsimp only
    rw [e_gL (by rw [l1]; decide) l2, Option.bind_some]
    unfold f_J9_min_7cf53 f_J9_min_7cf53_0
    rw [if_pos q5, Option.bind_some]
    dsimp only
    have ey : yI 1 (nA M3 1 c) (mX M0 + 1) 0 (mX M3) 0 (nI c) = some (sAr (nA M3 1 c) (mX M3) (va_cpy (mA (nA M3 1 c) (mX M0 + 1)) (mA (nA M3 1 c) (mX M3)) (0 : Int32).toNatClampNeg (0 : Int32).toNatClampNeg (nI c).toNatClampNeg)) := if_pos ⟨l1, l3, ⟨by decide, by decide, nI_nn (by omega), by rw [l2, hcl]; show 0 + c ≤ 16; omega, by rw [l4, hcl]; show 0 + c ≤ c; omega⟩, fun i _ => by rw [l5, g7]; exact h7 _⟩
    rw [ey]
    rfl
  obtain ⟨w, c1⟩ := c1
  refine ⟨mX M, sR (sAr (nA M3 1 c) (mX M3) w) 32 (mX M) (some (mX M3)), ?_, ((((kA.nA 1 c).sAr (by omega) w).sR hX _ _).w (by decide) (by omega)), l6, ?_⟩
  rotate_left
  · have lk : mK (sR (sAr (nA M3 1 c) (mX M3) w) 32 (mX M) (some (mX M3))) (mX M) = 1 := l6
    have lr : mR (sR (sAr (nA M3 1 c) (mX M3) w) 32 (mX M) (some (mX M3))) 32 (mX M) = some (mX M3) := u2_at (mR (sAr (nA M3 1 c) (mX M3) w)) 32 (mX M) (some (mX M3))
    have lt : mK (sR (sAr (nA M3 1 c) (mX M3) w) 32 (mX M) (some (mX M3))) (mX M3) = 101 := l3
    have ll : mL (sR (sAr (nA M3 1 c) (mX M3) w) 32 (mX M) (some (mX M3))) (mX M3) = c := l4
    have li : mI (sR (sAr (nA M3 1 c) (mX M3) w) 32 (mX M) (some (mX M3))) 33 (mX M) = 0 := k6
    generalize sR (sAr (nA M3 1 c) (mX M3) w) 32 (mX M) (some (mX M3)) = M9 at *
    have sh : ∀ c, c < 16 → nI c >>> ((0 : Int32) &&& 31) = nI c := by decide
    unfold f_J0_length_8abf5 f_J0_length_8abf5_0
    rw [e_hR 32 (Or.inl lk) lr, Option.bind_some, e_gL (by rw [lt]; decide) ll, Option.bind_some, if_pos (Or.inl lk)]
    unfold f_J0_coder_7d493 f_J0_coder_7d493_0
    rw [if_neg (show ¬ (1 : Int32) = 0 by decide), e_hI 33 (Or.inl lk), Option.bind_some, li, if_pos (by decide), Option.bind_some]
    show some (nI c >>> ((0 : Int32) &&& 31), M9) = _
    rw [sh c hc]
  unfold f_J4_toString_0e30d f_J4_toString_0e30d_0 f_J0_init_81219 f_J0_init_81219_0
  rw [h33, c1, Option.bind_some]
  dsimp only
  rw [e_pR 32 (show mK (sAr (nA M3 1 c) (mX M3) w) (mX M) = 1 from l6)]
  rfl
end SBS

/-! ===== THROWN, 2: what is asked with what is allowed ===== -/
section THR2
variable {M : zM}
theorem kx_nil {L : List String} : ∀ E, E ∈ ([] : List String) → E ∈ L := fun E h => absurd h List.not_mem_nil
theorem q_pl_ok {p : Nat} (hp : p < 4) (M : zM) : f_X3_requirePlayer (nI p) M = some (.inr (), M) := by
  unfold f_X3_requirePlayer f_X3_requirePlayer_0
  rw [if_neg (nI_nn (by omega)), if_pos (lt_t (y := 4) p 4 hp (by decide))]
theorem i10 {i : Nat} (hi : i < 10) (h0 : ¬ nI i = 0) (h1 : ¬ nI i = 1) (h2 : ¬ nI i = 2) (h3 : ¬ nI i = 3) (h4 : ¬ nI i = 4) (h5 : ¬ nI i = 5) (h6 : ¬ nI i = 6) (h7 : ¬ nI i = 7) (h8 : ¬ nI i = 8) (h9 : ¬ nI i = 9) : False := by
  have n0 : i ≠ 0 := fun e => h0 (by rw [e]; rfl)
  have n1 : i ≠ 1 := fun e => h1 (by rw [e]; rfl)
  have n2 : i ≠ 2 := fun e => h2 (by rw [e]; rfl)
  have n3 : i ≠ 3 := fun e => h3 (by rw [e]; rfl)
  have n4 : i ≠ 4 := fun e => h4 (by rw [e]; rfl)
  have n5 : i ≠ 5 := fun e => h5 (by rw [e]; rfl)
  have n6 : i ≠ 6 := fun e => h6 (by rw [e]; rfl)
  have n7 : i ≠ 7 := fun e => h7 (by rw [e]; rfl)
  have n8 : i ≠ 8 := fun e => h8 (by rw [e]; rfl)
  have n9 : i ≠ 9 := fun e => h9 (by rw [e]; rfl)
  omega
end THR2

/-! ===== PURE: the class's lead and hand ===== -/
/-- the class's own places, and those ahead of the law, lie as they lay -/
def LO (M M' : zM) : Prop := mX M ≤ mX M' ∧ ∀ b, b < 1026 → SR M M' b
section LOW
variable {M M' M0 : zM} {G : zG}
theorem LO.km {c s : Nat} (h : KM c s M M') (hX : 1026 ≤ mX M) : LO M M' := ⟨h.1.1, fun b hb => h.2 b (by omega)⟩
theorem TX.lo (h : TX M) (l : LO M M') : TX M' := by
  have kk := fun b hb => l.2 b hb
  refine ⟨⟨(kk 6 (by decide)).1.trans h.1.1, (kk 6 (by decide)).2.1.trans h.1.2⟩, fun x hx => ?_⟩
  obtain ⟨t1, t2, t3, t4, t5⟩ := h.2 x hx
  have y1 := kk x (by omega)
  have y2 := kk (20 + x) (by omega)
  exact ⟨y1.1.trans t1, (y1.2.2.2.2.1 32).trans t2, (y1.2.2.1 33).trans t3, y2.1.trans t4, y2.2.1.trans t5⟩
theorem SE.lo {a t s r : Nat} (h : SE M a t s r) (l : LO M M') (ha : a < 1026) (ht : t < 1026) (hs : s < 1026) (hr : r < 1026) : SE M' a t s r := by
  obtain ⟨h1, h2, h3, h4, ⟨h5, h6⟩, ⟨h7, h8⟩, h9, h10⟩ := h
  have ka := l.2 a ha
  have kt := l.2 t ht
  have ks := l.2 s hs
  have kr := l.2 r hr
  exact ⟨ka.1.trans h1, (ka.2.2.2.2.1 _).trans h2, (ka.2.2.2.2.1 _).trans h3, (ka.2.2.2.2.1 _).trans h4, ⟨kt.1.trans h5, kt.2.1.trans h6⟩, ⟨ks.1.trans h7, ks.2.1.trans h8⟩, kr.1.trans h9, kr.2.1.trans h10⟩
theorem CSH.lo (h : CSH M) (l : LO M M') : CSH M' := by
  obtain ⟨h1, h2, h3, h4, ⟨h5, h6, h7⟩, ⟨p1, p2, p3, p4, p5, p6, ⟨p7, p8⟩, p9, p10⟩, ⟨h8, h9, h10, h11⟩, h12, h13⟩ := h
  have ka := l.2 1000 (by decide)
  have kb := l.2 1001 (by decide)
  have kc := l.2 1002 (by decide)
  have kd := l.2 1003 (by decide)
  have ke := l.2 1008 (by decide)
  have kf := l.2 1009 (by decide)
  refine ⟨ka.1.trans h1, (ka.2.2.2.2.1 _).trans h2, (ka.2.2.2.2.1 _).trans h3, (ka.2.2.2.2.1 _).trans h4, ⟨kb.1.trans h5, kb.2.1.trans h6, fun p hp => ?_⟩, ⟨kc.1.trans p1, (kc.2.2.2.2.1 _).trans p2, (kc.2.2.2.2.1 _).trans p3, (kc.2.2.2.2.1 _).trans p4, (kc.2.2.2.2.1 _).trans p5, (kc.2.2.2.2.1 _).trans p6, ⟨kd.1.trans p7, kd.2.1.trans p8⟩, fun i i1 i2 => ?_, p10⟩, ⟨ke.1.trans h8, (ke.2.2.2.2.1 _).trans h9, kf.1.trans h10, kf.2.1.trans h11⟩, fun p hp => (h12 p hp).lo l (by omega) (by omega) (by omega) (by omega), fun b b1 b2 => ?_⟩
  · rw [kb.2.2.2.2.2.2]
    exact h7 p hp
  · have ki := l.2 (1003 + i) (by omega)
    exact ⟨ki.1.trans (p9 i i1 i2).1, ki.2.1.trans (p9 i i1 i2).2⟩
  · have ki := l.2 b (by omega)
    exact ⟨ki.1.trans (h13 b b1 b2).1, ki.2.1.trans (h13 b b1 b2).2⟩
theorem CR.lo (h : CSH M) (hw : WF G) (hc : CR (mI M) (mJ M) (mA M) G) (l : LO M M') : CR (mI M') (mJ M') (mA M') G := by
  obtain ⟨⟨s1, s2, s3, s4, s5, s6, s7, s8, s9, s10⟩, hp⟩ := hc
  have ka := (l.2 1000 (by decide)).2.2.1
  refine ⟨⟨(ka _).trans s1, (ka _).trans s2, (ka _).trans s3, (ka _).trans s4, (ka _).trans s5, (ka _).trans s6, by rw [ka]; exact s7, (ka _).trans s8, by rw [ka]; exact s9, (ka _).trans s10⟩, fun p hp4 => ?_⟩
  obtain ⟨d1, d2, d3, d4, d5, d6, d7⟩ := hp p hp4
  obtain ⟨v1, v2, v3, v4⟩ := hw.2.2.2.2.2.2.2.2.2.2 p hp4
  have hs := h.2.2.2.2.2.2.2.1 p hp4
  have k0 := l.2 (1010 + 4 * p) (by omega)
  have k1 := (l.2 (1011 + 4 * p) (by omega)).2.2.2.2.2.1
  have k2 := (l.2 (1012 + 4 * p) (by omega)).2.2.2.2.2.1
  have k3 := (l.2 (1013 + 4 * p) (by omega)).2.2.2.2.2.1
  have l1 := hs.2.2.2.2.1.2
  have l2 := hs.2.2.2.2.2.1.2
  have l3 := hs.2.2.2.2.2.2.2
  exact ⟨fun k hk => (k1 k (by omega)).trans (d1 k hk), (k0.2.2.1 _).trans d2, fun j hj => (k2 j (by omega)).trans (d3 j hj), (k0.2.2.1 _).trans d4, fun j hj => (k3 j (by omega)).trans (d5 j hj), (k0.2.2.2.1 _).trans d6, (k0.2.2.1 _).trans d7⟩
end LOW
section CLEAD
variable {I : Nat → Nat → Int32} {J : Nat → Nat → Int64} {A : Nat → Nat → Int32} {M : zM}
theorem q_lead (h : CSH M) (i : Int32) : (∃ v, f_X3_lead 1000 i (cs I J A M) = some (.inr v, cs I J A M)) ∨ ∃ v, f_X3_lead 1000 i (cs I J A M) = some (.inl v, cs I J A (nE M)) := by
  unfold f_X3_lead f_X3_lead_0
  rcases q_pl i (cs I J A M) with ⟨p, hp, rfl, e⟩ | e
  · rw [e]
    obtain ⟨z, e2⟩ := q_fourLeads (I := I) (J := J) (A := A) h hp
    refine Or.inl ⟨FP.ddiv (FP.i2d z) (4616189618054758400 : UInt64), ?_⟩
    show (if mK (cs I J A M) 1000 = 9 then (f_X3_fourLeads 1000 (nI p) (cs I J A M)).bind _ else none) = _
    rw [if_pos (show mK (cs I J A M) 1000 = 9 from h.1), e2, Option.bind_some]
    dsimp only
    rw [if_pos (z_div4 z)]
  · rw [e]
    exact Or.inr ⟨_, rfl⟩
end CLEAD
section CHAND
variable {M0 M : zM} {G : zG} {c : Nat}
theorem nI_sub1 (m : Nat) : nI (m + 1) - (1 : Int32) = nI m := (Int32.sub_eq_add_neg _ _).trans (pk_m1 m)
theorem w_28 (ht : TX M0) (hX : 1026 ≤ mX M0) {d : Nat} (hd : d < 10) {K : Nat → Nat → Int32 → Int32 → Int32 → Int32 → zM → Option (Unit × zM)} {a1 : Nat} {i2 i3 i4 : Int32} : ∀ (j n c : Nat) (M : zM), j < n → c + j < 16 → BS M0 M c → ∃ M', f_X3_writeSuit_28 K n (mX M0) a1 i2 i3 i4 (nI d) (nI j) M = K (mX M0) a1 i2 i3 i4 (nI (d + 1)) M' ∧ BS M0 M' (c + j) := by
  intro j
  induction j with
  | zero =>
    intro n c M hn hc h
    obtain ⟨n, rfl⟩ : ∃ m, n = m + 1 := ⟨n - 1, by omega⟩
    refine ⟨M, ?_, h⟩
    rw [f_X3_writeSuit_28, if_pos (show nI 0 ≤ 0 by decide), nI_1]
  | succ j ih =>
    intro n c M hn hc h
    obtain ⟨n, rfl⟩ : ∃ m, n = m + 1 := ⟨n - 1, by omega⟩
    obtain ⟨M1, e1, b1⟩ := b_int (ht.lo (LO.km h.1 hX)) h (by omega) hd
    obtain ⟨M2, e2, b2⟩ := ih n (c + 1) M1 (by omega) (by omega) b1
    refine ⟨M2, ?_, by rw [show c + (j + 1) = c + 1 + j by omega]; exact b2⟩
    rw [f_X3_writeSuit_28, if_neg (le_f (y := 0) (j + 1) 0 (by omega) (by omega)), if_pos h.2.2.1, e1, Option.bind_some, pk_m1]
    exact e2
theorem w_9 (hs : CSH M0) (hw : WF G) (hc0 : CR (mI M0) (mJ M0) (mA M0) G) (ht : TX M0) (hX : 1026 ≤ mX M0) {p : Nat} (hp : p < 4) {b : Nat} (hb : b ≤ 16) {i3 : Int32} (hi3 : ¬ (255 : Int32) < i3) (i4 : Int32) : ∀ (e n d c : Nat) (M : zM), d + e = 10 → 0 < d → e < n → c + sn (eH G p) (b + d - 1) e + 1 < 16 → BS M0 M c → ∃ M' c', f_X3_writeSuit_9 n (mX M0) (1010 + 4 * p) (nI b) i3 i4 (nI d) M = some ((), M') ∧ BS M0 M' c' ∧ c + sn (eH G p) (b + d - 1) e ≤ c' ∧ c' ≤ c + sn (eH G p) (b + d - 1) e + 1 := by
  intro e
  induction e with
  | zero =>
    intro n d c M hd hd0 hn hc h
    obtain ⟨n, rfl⟩ : ∃ m, n = m + 1 := ⟨n - 1, by omega⟩
    rw [f_X3_writeSuit_9, if_pos (lt_t (x := 9) 9 d (by omega) (by omega)), if_pos h.2.2.1, b_len h, Option.bind_some]
    split
    · exact ⟨M, c, rfl, h, by rw [sn]; omega⟩
    · obtain ⟨M1, e1, b1⟩ := b_char h (by omega) hi3
      rw [if_pos h.2.2.1, e1]
      exact ⟨M1, c + 1, rfl, b1, by rw [sn]; omega⟩
  | succ e ih =>
    intro n d c M hd hd0 hn hc h
    obtain ⟨n, rfl⟩ : ∃ m, n = m + 1 := ⟨n - 1, by omega⟩
    obtain ⟨k, hk⟩ : ∃ k, b + d = k + 1 := ⟨b + d - 1, by omega⟩
    have hkd : b + d - 1 = k := by omega
    rw [hkd] at hc ⊢
    rw [sn] at hc
    have lo := LO.km h.1 hX
    have hsM := hs.lo lo
    have hsp := hsM.2.2.2.2.2.2.2.1 p hp
    have hcM := (hc0.lo hs hw lo).2 p hp
    have ec : f_X1_count (1010 + 4 * p) (nI k) M = some (mA M (1011 + 4 * p) k, M) := q_count (I := mI M) (J := mJ M) (A := mA M) hsp (by omega)
    have ik : nI b + nI d - (1 : Int32) = nI k := by rw [nI_add, hk, nI_sub1]
    have hg4 := (hw.2.2.2.2.2.2.2.2.2.2 p hp).1 k (by omega)
    obtain ⟨M1, e1, b1⟩ := w_28 (K := f_X3_writeSuit_9 n) (a1 := 1010 + 4 * p) (i2 := nI b) (i3 := i3) (i4 := i4) ht hX (d := d) (by omega) (eH G p k) zN c M (by show _ < 130; omega) (by omega) h
    obtain ⟨M2, c2, e2, b2, h2⟩ := ih n (d + 1) (c + eH G p k) M1 (by omega) (by omega) (by omega) (by rw [show b + (d + 1) - 1 = k + 1 by omega]; omega) b1
    rw [show b + (d + 1) - 1 = k + 1 by omega] at h2
    refine ⟨M2, c2, ?_, b2, by rw [sn]; omega⟩
    rw [f_X3_writeSuit_9, if_neg (lt_f (x := 9) 9 d (by omega) (by decide)), if_pos hsp.1, ik, ec, Option.bind_some]
    dsimp only
    rw [hcM.1 k (by omega), e1, e2]
theorem w_suit (hs : CSH M0) (hw : WF G) (hc0 : CR (mI M0) (mJ M0) (mA M0) G) (ht : TX M0) (hX : 1026 ≤ mX M0) {p : Nat} (hp : p < 4) {b : Nat} (hb : b ≤ 16) {i3 : Int32} (hi3 : ¬ (255 : Int32) < i3) (h : BS M0 M c) (hc : c + sn (eH G p) b 9 + 1 < 16) : ∃ M' c', f_X3_writeSuit (mX M0) (1010 + 4 * p) (nI b) i3 M = some ((), M') ∧ BS M0 M' c' ∧ c + sn (eH G p) b 9 ≤ c' ∧ c' ≤ c + sn (eH G p) b 9 + 1 := by
  obtain ⟨M', c', e, h1, h2⟩ := w_9 hs hw hc0 ht hX hp hb hi3 (nI c) 9 zN 1 c M rfl (by decide) (by decide) hc h
  refine ⟨M', c', ?_, h1, h2⟩
  unfold f_X3_writeSuit f_X3_writeSuit_0
  rw [if_pos h.2.2.1, b_len h, Option.bind_some]
  exact e
theorem w_24 (ht : TX M0) (hX : 1026 ≤ mX M0) {i : Nat} (hi : i < 7) {K : Nat → Nat → Nat → Int32 → zM → Option (Unit × zM)} {a1 : Nat} : ∀ (j n c : Nat) (M : zM), j < n → c + j < 16 → BS M0 M c → ∃ M', f_X3_writeHonours_24 K n (mX M0) a1 20 (nI i) (nI j) M = K (mX M0) a1 20 (nI (i + 1)) M' ∧ BS M0 M' (c + j) := by
  intro j
  induction j with
  | zero =>
    intro n c M hn hc h
    obtain ⟨n, rfl⟩ : ∃ m, n = m + 1 := ⟨n - 1, by omega⟩
    refine ⟨M, ?_, h⟩
    rw [f_X3_writeHonours_24, if_pos (show nI 0 ≤ 0 by decide), nI_1]
  | succ j ih =>
    intro n c M hn hc h
    obtain ⟨n, rfl⟩ : ∃ m, n = m + 1 := ⟨n - 1, by omega⟩
    have htM := ht.lo (LO.km h.1 hX)
    obtain ⟨q, q1, q2⟩ := t_at htM (Or.inl rfl) hi
    obtain ⟨M1, e1, b1⟩ := b_char h (by omega) (lt_f (x := 255) 255 q q1 (by decide))
    obtain ⟨M2, e2, b2⟩ := ih n (c + 1) M1 (by omega) (by omega) b1
    refine ⟨M2, ?_, by rw [show c + (j + 1) = c + 1 + j by omega]; exact b2⟩
    rw [f_X3_writeHonours_24, if_neg (le_f (y := 0) (j + 1) 0 (by omega) (by omega)), if_pos (Or.inr (htM.2 20 (Or.inl rfl)).1), q2, Option.bind_some]
    dsimp only
    rw [if_pos h.2.2.1, e1, Option.bind_some, pk_m1]
    exact e2
theorem w_6 (hs : CSH M0) (hw : WF G) (hc0 : CR (mI M0) (mJ M0) (mA M0) G) (ht : TX M0) (hX : 1026 ≤ mX M0) {p : Nat} (hp : p < 4) : ∀ (e n i c : Nat) (M : zM), i + e = 7 → e < n → c + sn (eH G p) (18 + i) e < 16 → BS M0 M c → ∃ M' c', f_X3_writeHonours_6 n (mX M0) (1010 + 4 * p) 20 (nI i) M = some ((), M') ∧ BS M0 M' c' ∧ c + sn (eH G p) (18 + i) e ≤ c' ∧ c' ≤ c + sn (eH G p) (18 + i) e := by
  intro e
  induction e with
  | zero =>
    intro n i c M hd hn hc h
    obtain ⟨n, rfl⟩ : ∃ m, n = m + 1 := ⟨n - 1, by omega⟩
    have htM := ht.lo (LO.km h.1 hX)
    rw [f_X3_writeHonours_6, if_pos (Or.inr (htM.2 20 (Or.inl rfl)).1), t_len htM (Or.inl rfl), Option.bind_some]
    dsimp only
    rw [if_pos (le_t (x := 7) 7 i (by omega) (by omega))]
    exact ⟨M, c, rfl, h, by rw [sn]; omega⟩
  | succ e ih =>
    intro n i c M hd hn hc h
    obtain ⟨n, rfl⟩ : ∃ m, n = m + 1 := ⟨n - 1, by omega⟩
    have lo := LO.km h.1 hX
    have htM := ht.lo lo
    rw [sn] at hc
    have hsM := hs.lo lo
    have hsp := hsM.2.2.2.2.2.2.2.1 p hp
    have hcM := (hc0.lo hs hw lo).2 p hp
    have ec : f_X1_count (1010 + 4 * p) (nI (18 + i)) M = some (mA M (1011 + 4 * p) (18 + i), M) := q_count (I := mI M) (J := mJ M) (A := mA M) hsp (by omega)
    have ik : (18 : Int32) + nI i = nI (18 + i) := nI_add 18 i
    have hg4 := (hw.2.2.2.2.2.2.2.2.2.2 p hp).1 (18 + i) (by omega)
    obtain ⟨M1, e1, b1⟩ := w_24 (K := f_X3_writeHonours_6 n) (a1 := 1010 + 4 * p) ht hX (i := i) (by omega) (eH G p (18 + i)) zN c M (by show _ < 130; omega) (by omega) h
    obtain ⟨M2, c2, e2, b2, h2⟩ := ih n (i + 1) (c + eH G p (18 + i)) M1 (by omega) (by omega) (by rw [show 18 + (i + 1) = 18 + i + 1 by omega]; omega) b1
    rw [show 18 + (i + 1) = 18 + i + 1 by omega] at h2
    refine ⟨M2, c2, ?_, b2, by rw [sn]; omega⟩
    rw [f_X3_writeHonours_6, if_pos (Or.inr (htM.2 20 (Or.inl rfl)).1), t_len htM (Or.inl rfl), Option.bind_some]
    dsimp only
    rw [if_neg (le_f (x := 7) 7 i (by omega) (by decide)), if_pos hsp.1, ik, ec, Option.bind_some]
    dsimp only
    rw [hcM.1 (18 + i) (by omega), e1, e2]
theorem sn_add (g : Nat → Nat) (b : Nat) : ∀ (a i : Nat), sn g i (a + b) = sn g i a + sn g (i + a) b := by
  intro a
  induction a with
  | zero => intro i; rw [Nat.zero_add, sn, Nat.zero_add, Nat.add_zero]
  | succ a ih =>
    intro i
    rw [show a + 1 + b = (a + b) + 1 by omega, sn, sn, ih, show i + 1 + a = i + (a + 1) by omega, Nat.add_assoc]
theorem sn_979 (g : Nat → Nat) : sn g 0 25 = sn g 0 9 + sn g 9 9 + sn g 18 7 := by
  rw [show 25 = 18 + 7 from rfl, sn_add g 7 18 0, show 18 = 9 + 9 from rfl, sn_add g 9 9 0]
theorem q_hand (h : CSH M) (hw : WF G) (hz : WZ G) (hc : CR (mI M) (mJ M) (mA M) G) (ht : TX M) (hX : 1026 ≤ mX M) (i : Int32) : (∃ v M', f_X3_hand 1000 i M = some (.inr v, M') ∧ KM 4 40 M M') ∨ ∃ v, f_X3_hand 1000 i M = some (.inl v, nE M) := by
  unfold f_X3_hand f_X3_hand_0
  rcases q_pl i M with ⟨p, hp, rfl, e⟩ | e
  · rw [e]
    have hzp := hz p hp
    have h979 := sn_979 (eH G p)
    obtain ⟨M1, e1, b1⟩ := b_init M
    obtain ⟨M2, c2, e2, b2, l2⟩ := w_suit h hw hc ht hX hp (b := 0) (i3 := 100) (by decide) (by decide) b1 (by omega)
    obtain ⟨M3, c3, e3, b3, l3⟩ := w_suit h hw hc ht hX hp (b := 9) (i3 := 98) (by decide) (by decide) b2 (by omega)
    obtain ⟨M4, c4, e4, b4, l4⟩ := w_6 h hw hc ht hX hp 7 zN 0 c3 M3 rfl (by decide) (by show _ + sn _ 18 7 < _; omega) b3
    have l4' : c3 + sn (eH G p) 18 7 ≤ c4 ∧ c4 ≤ c3 + sn (eH G p) 18 7 := l4
    obtain ⟨r, M5, e5, k5, -, -⟩ := b_str b4 (by omega)
    refine Or.inl ⟨r, M5, ?_, k5⟩
    show (gR 9 0 M 1000).bind _ = _
    have sq : lQ 1 M 1001 (nI p) = some (1010 + 4 * p) := CSH.seat (I := mI M) (J := mJ M) (A := mA M) h hp
    have e4' : f_X3_writeHonours (mX M) (1010 + 4 * p) M3 = some ((), M4) := e4
    rw [e_gR 288 h.1 h.2.1, Option.bind_some, sq, Option.bind_some, e1, Option.bind_some]
    dsimp only
    rw [show f_X3_writeSuit (mX M) (1010 + 4 * p) 0 100 M1 = _ from e2, Option.bind_some]
    dsimp only
    rw [show f_X3_writeSuit (mX M) (1010 + 4 * p) 9 98 M2 = _ from e3, Option.bind_some]
    dsimp only
    rw [e4', Option.bind_some]
    dsimp only
    rw [if_pos b4.2.2.1, e5]
    rfl
  · rw [e]
    exact Or.inr ⟨_, rfl⟩
theorem x_hand (h : CSH M) (hw : WF G) (hz : WZ G) (hc : CR (mI M) (mJ M) (mA M) G) (ht : TX M) (hX : 1026 ≤ mX M) {p : Nat} (hp : p < 4) : ∃ v M' c, f_X3_hand 1000 (nI p) M = some (.inr v, M') ∧ KM 4 40 M M' ∧ mK M' v = 1 ∧ f_J0_length_8abf5 v M' = some (nI c, M') ∧ sn (eH G p) 0 25 ≤ c ∧ c < 16 := by
  unfold f_X3_hand f_X3_hand_0
  · rw [q_pl_ok hp]
    have hzp := hz p hp
    have h979 := sn_979 (eH G p)
    obtain ⟨M1, e1, b1⟩ := b_init M
    obtain ⟨M2, c2, e2, b2, l2⟩ := w_suit h hw hc ht hX hp (b := 0) (i3 := 100) (by decide) (by decide) b1 (by omega)
    obtain ⟨M3, c3, e3, b3, l3⟩ := w_suit h hw hc ht hX hp (b := 9) (i3 := 98) (by decide) (by decide) b2 (by omega)
    obtain ⟨M4, c4, e4, b4, l4⟩ := w_6 h hw hc ht hX hp 7 zN 0 c3 M3 rfl (by decide) (by show _ + sn _ 18 7 < _; omega) b3
    have l4' : c3 + sn (eH G p) 18 7 ≤ c4 ∧ c4 ≤ c3 + sn (eH G p) 18 7 := l4
    have c16 : c4 < 16 := by omega
    obtain ⟨r, M5, e5, k5, k6, k7⟩ := b_str b4 c16
    refine ⟨r, M5, c4, ?_, k5, k6, k7, by omega, c16⟩
    show (gR 9 0 M 1000).bind _ = _
    have sq : lQ 1 M 1001 (nI p) = some (1010 + 4 * p) := CSH.seat (I := mI M) (J := mJ M) (A := mA M) h hp
    have e4' : f_X3_writeHonours (mX M) (1010 + 4 * p) M3 = some ((), M4) := e4
    rw [e_gR 288 h.1 h.2.1, Option.bind_some, sq, Option.bind_some, e1, Option.bind_some]
    dsimp only
    rw [show f_X3_writeSuit (mX M) (1010 + 4 * p) 0 100 M1 = _ from e2, Option.bind_some]
    dsimp only
    rw [show f_X3_writeSuit (mX M) (1010 + 4 * p) 9 98 M2 = _ from e3, Option.bind_some]
    dsimp only
    rw [e4', Option.bind_some]
    dsimp only
    rw [if_pos b4.2.2.1, e5]
    rfl
end CHAND

/-! ===== BOTH: the calls that only ask ===== -/
theorem own1000 : own 1000 := ⟨by decide, by decide⟩
theorem hh1 {a : String} : ∀ (E : String) (M' : zM), E ∈ [a] → ∃ r : Int32, (if E = a then some ((1 : Int32), M') else none) = some (r, M') := fun E M' h => ⟨1, if_pos (List.mem_singleton.mp h)⟩
theorem hh2 {a b : String} : ∀ (E : String) (M' : zM), E ∈ [b, a] → ∃ r : Int32, (if E = a then some ((1 : Int32), M') else if E = b then some ((2 : Int32), M') else none) = some (r, M') := fun E M' h => by
  by_cases y : E = a
  · exact ⟨1, if_pos y⟩
  · rw [if_neg y]
    rcases List.mem_cons.mp h with z | z
    · exact ⟨2, if_pos z⟩
    · exact absurd (List.mem_singleton.mp z) y
section LCALLS
variable {n : Nat} {xs : Nat → Int32} {M M' : zM} {G G' Gc Gr : zG} {hp dl hp' dl' : Nat → Nat}
end LCALLS

/-! ===== BOTH: has, ofSet, river, with code and answer ===== -/
section ASKE
variable {n : Nat} {xs : Nat → Int32} {M M' : zM} {G G' Gc Gr : zG} {hp dl hp' dl' : Nat → Nat}
theorem q_pl_bad {i : Int32} (y : pBad i) (M : zM) : f_X3_requirePlayer i M = some (.inl "java/lang/IndexOutOfBoundsException", nE M) := by
  rcases q_pl i M with ⟨p, hp, rfl, -⟩ | e
  · rcases y with z | z
    · exact absurd z (nI_nn (by omega))
    · rw [nI_cl (by omega)] at z
      omega
  · exact e
end ASKE

/-! ===== BOTH: seen, with code and answer ===== -/
section ASKS
variable {n : Nat} {xs : Nat → Int32} {M M' : zM} {G G' Gc Gr : zG} {hp dl hp' dl' : Nat → Nat}
theorem q_lyx (h : CSH M) (hw : WF G) (hv : WV G) (hc : CR (mI M) (mJ M) (mA M) G) {p k : Nat} (hp4 : p < 4) (hk : k < 25) : f_X1_lying (1010 + 4 * p) (nI k) M = some (nI (snP G p k), M) := by
  have hsp := h.2.2.2.2.2.2.2.1 _ hp4
  obtain ⟨d1, d2, d3, d4, d5, d6, d7⟩ := hc.2 _ hp4
  obtain ⟨v1, v2, v3, v4⟩ := hw.2.2.2.2.2.2.2.2.2.2 _ hp4
  have e := q_lying (I := mI M) (J := mJ M) (A := mA M) hsp d2 v2 d4 (by omega) (nI k)
  have s1 : sm (fun j => tl (mA M (1012 + 4 * p) j / 100) (zmd (mA M (1012 + 4 * p) j) 100) (nI k)) 0 (eN G p) = nI (sn (fun j => tlN (eV G p j / 100) (eV G p j % 100) k) 0 (eN G p)) := sm_nI _ _ _ _ (fun j _ hj => by
    have hj' : j < eN G p := by omega
    have hb := hv p hp4 j hj'
    have x1 : nI (eV G p j) / 100 = nI (eV G p j / 100) := pk_div (a := eV G p j) (d := 100) (by omega) (by decide) (by decide)
    have x2 : zmd (nI (eV G p j)) 100 = nI (eV G p j % 100) := pk_rem (a := eV G p j) (d := 100) (by omega) (by decide) (by decide)
    show tl (mA M (1012 + 4 * p) j / 100) (zmd (mA M (1012 + 4 * p) j) 100) (nI k) = nI (tlN (eV G p j / 100) (eV G p j % 100) k)
    rw [d3 j hj', x1, x2]
    exact tl_nI (by omega) (by omega) (by omega))
  have s2 : sm (fun j => if mA M (1013 + 4 * p) j = nI k then 1 else 0) 0 (eM G p) = nI (sn (fun j => if eR G p j = k then 1 else 0) 0 (eM G p)) := sm_nI _ _ _ _ (fun j _ hj => by
    have hj' : j < eM G p := by omega
    have hb := v4 j hj'
    show (if mA M (1013 + 4 * p) j = nI k then (1 : Int32) else 0) = nI (if eR G p j = k then 1 else 0)
    rw [d5 j hj']
    by_cases y : eR G p j = k
    · rw [if_pos (congrArg nI y), if_pos y]
      rfl
    · rw [if_neg (eq_f (eR G p j) k y (by omega) (by omega)), if_neg y]
      rfl)
  rw [s1, s2, nI_add] at e
  exact e
theorem q_seen8x (h : CSH M) (hw : WF G) (hv : WV G) (hc : CR (mI M) (mJ M) (mA M) G) {k : Nat} (hk : k < 25) : ∀ (d n i v : Nat), i + d = 4 → d < n → f_X3_seen_8 n 1000 (nI k) (nI v) (nI i) M = some (.inr (nI (v + snA G k d i)), M) := by
  intro d
  induction d with
  | zero =>
    intro n i v hi hn
    obtain ⟨n, rfl⟩ : ∃ m, n = m + 1 := ⟨n - 1, by omega⟩
    rw [f_X3_seen_8, if_pos (le_t (x := 4) 4 i (by omega) (by omega))]
    rfl
  | succ d ih =>
    intro n i v hi hn
    obtain ⟨n, rfl⟩ : ∃ m, n = m + 1 := ⟨n - 1, by omega⟩
    have hp4 : i < 4 := by omega
    have hsp := h.2.2.2.2.2.2.2.1 _ hp4
    have sq : lQ 1 M 1001 (nI i) = some (1010 + 4 * i) := CSH.seat (I := mI M) (J := mJ M) (A := mA M) h hp4
    rw [f_X3_seen_8, if_neg (le_f (x := 4) 4 i (by omega) (by decide)), e_gR 288 h.1 h.2.1, Option.bind_some, sq, Option.bind_some, if_pos hsp.1, q_lyx h hw hv hc hp4 hk, Option.bind_some, nI_1]
    dsimp only
    rw [nI_add, ih n (i + 1) (v + snP G i k) (by omega) (by omega), snA, Nat.add_assoc]
end ASKS

