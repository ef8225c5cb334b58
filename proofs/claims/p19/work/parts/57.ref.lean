/-! ===== PURE, THE REFERENCE: the value by all tiles ===== -/
theorem KM.sAr {c s : Nat} {M0 M : zM} {a : Nat} (h : KM c s M0 M) (ha : mX M0 ≤ a) (g : Nat → Int32) : KM c s M0 (sAr M a g) :=
  ⟨h.1, fun b hb => by
    obtain ⟨h1, h2, h3, h4, h5, h6, h7⟩ := h.2 b hb
    exact ⟨h1, h2, h3, h4, h5, fun i hi => (if_neg (fun z => by omega)).trans (h6 i hi), h7⟩⟩
theorem e_aA {M : zM} {c : Nat} (hc : c ≤ 100000) (t : Nat) : aA t M (nI c) = some (mX M, nA M t c) := by
  have e : aA t M (nI c) = some (mX M, nA M t (nI c).toNatClampNeg) := if_pos ⟨nI_nn (by omega), by rw [nI_cl (by omega)]; exact hc⟩
  rw [e, nI_cl (by omega)]
/-- a row of 25 numbers -/
def AR (M : zM) (x : Nat) : Prop := mK M x = 100 ∧ mL M x = 25 ∧ x < mX M
theorem AR.km {M M' : zM} {x c s : Nat} (h : AR M x) (k : KM c s M M') : AR M' x := ⟨(k.2 x h.2.2).1.trans h.1, (k.2 x h.2.2).2.1.trans h.2.1, Nat.lt_of_lt_of_le h.2.2 k.1.1⟩
theorem r_isInE (x a b : Int32) (M : zM) : ∃ y, f_X7_isIn x a b M = some (y, M) := ⟨_, r_isIn x a b M⟩
section RTIL
variable {M M0 : zM} {P h l d N : Nat} {v : Nat → Nat}
theorem r_areAll_2 {x : Nat} (hx : AR M x) (a b : Int32) : ∀ (e n i : Nat), i + e = 25 → e < n → ∃ y, f_X7_areAll_2 n x a b (nI i) M = some (y, M) := by
  intro e
  induction e with
  | zero =>
    intro n i hi hn
    obtain ⟨n, rfl⟩ : ∃ m, n = m + 1 := ⟨n - 1, by omega⟩
    exact ⟨1, by rw [f_X7_areAll_2, if_pos (le_t (x := 25) 25 i (by omega) (by omega))]⟩
  | succ e ih =>
    intro n i hi hn
    obtain ⟨n, rfl⟩ : ∃ m, n = m + 1 := ⟨n - 1, by omega⟩
    obtain ⟨y, ey⟩ := r_isInE (nI i) a b M
    rw [f_X7_areAll_2, if_neg (le_f (x := 25) 25 i (by omega) (by decide)), e_lA hx.1 (by rw [hx.2.1]; omega) (by rw [hx.2.1]; decide), Option.bind_some, ey, Option.bind_some, nI_1]
    dsimp only
    have := ih n (i + 1) (by omega) (by omega)
    split
    · exact this
    · split
      · exact ⟨0, rfl⟩
      · exact this
theorem r_areAll {x : Nat} (hx : AR M x) (a b : Int32) : ∃ y, f_X7_areAll x a b M = some (y, M) := r_areAll_2 hx a b 25 zN 0 rfl (by decide)
theorem r_X5_of {o : Nat} (ho : mK M o = 11) (i : Int32) : ∃ y, f_X5_of o i M = some (y, M) := by
  unfold f_X5_of f_X5_of_0
  rw [e_gI 353 ho, Option.bind_some]
  split
  · obtain ⟨y, ey⟩ := r_isInE i (mI M 352 o) (mI M 352 o + 2) M
    rw [e_gI 352 ho, Option.bind_some, Option.bind_some, ey, Option.bind_some]
    dsimp only
    split
    · exact ⟨0, rfl⟩
    · exact ⟨1, rfl⟩
  · rw [e_gI 352 ho, Option.bind_some]
    split
    · rw [Option.bind_some]
      split
      · exact ⟨3, rfl⟩
      · exact ⟨4, rfl⟩
    · exact ⟨0, rfl⟩
theorem r_isEnd (i : Int32) (M : zM) : ∃ y, f_X7_isEnd i M = some (y, M) := by
  unfold f_X7_isEnd f_X7_isEnd_0
  repeat' split
  all_goals exact ⟨_, rfl⟩
theorem r_vt_250 (x y z : Int32) (M : zM) : ∃ u, f_X7_valueOfTiles_250 x y z M = some (u, M) := by
  unfold f_X7_valueOfTiles_250
  repeat' split
  all_goals exact ⟨_, rfl⟩
theorem r_vt_215 {x : Nat} (hx : AR M x) (a b c : Int32) : ∃ u, f_X7_valueOfTiles_215 a b x c M = some (u, M) := by
  unfold f_X7_valueOfTiles_215 f_X7_valueOfTiles_249 f_X7_valueOfTiles_245
  obtain ⟨y1, e1⟩ := r_areAll hx 0 8
  obtain ⟨y2, e2⟩ := r_areAll hx 9 17
  split
  · exact r_vt_250 _ _ _ _
  · rw [e1, Option.bind_some]
    dsimp only
    split
    · rw [e2, Option.bind_some]
      dsimp only
      split
      · exact r_vt_250 _ _ _ _
      · exact r_vt_250 _ _ _ _
    · exact r_vt_250 _ _ _ _
theorem r_vt_179 {c s x : Nat} (hk : KM c s M0 M) (hx : AR M x) (a b y : Int32) : ∃ u M', f_X7_valueOfTiles_179 x a b y M = some (u, M') ∧ KM (c + 1) (s + 25) M0 M' := by
  unfold f_X7_valueOfTiles_179
  have e25 : aA 0 M 25 = some (mX M, nA M 0 25) := e_aA (c := 25) (by decide) 0
  have k1 : mK (nA M 0 25) (mX M) = 100 := u1_at _ _ _
  have l1 : mL (nA M 0 25) (mX M) = 25 := u1_at _ _ _
  have k2 : mK (nA M 0 25) x = 100 := (if_neg (Nat.ne_of_lt hx.2.2)).trans hx.1
  have l2 : mL (nA M 0 25) x = 25 := (if_neg (Nat.ne_of_lt hx.2.2)).trans hx.2.1
  have ey : yI 0 (nA M 0 25) x 0 (mX M) 0 18 = some (sAr (nA M 0 25) (mX M) (va_cpy (mA (nA M 0 25) x) (mA (nA M 0 25) (mX M)) (0 : Int32).toNatClampNeg (0 : Int32).toNatClampNeg (18 : Int32).toNatClampNeg)) := if_pos ⟨k2, k1, ⟨by decide, by decide, by decide, by rw [l2]; decide, by rw [l1]; decide⟩, fun i hi => rfl⟩
  have hk2 : KM (c + 1) (s + 25) M0 (sAr (nA M 0 25) (mX M) (va_cpy (mA (nA M 0 25) x) (mA (nA M 0 25) (mX M)) (0 : Int32).toNatClampNeg (0 : Int32).toNatClampNeg (18 : Int32).toNatClampNeg)) := (hk.nA 0 25).sAr hk.1.1 _
  rw [e25, Option.bind_some]
  dsimp only
  rw [ey, Option.bind_some]
  generalize hM2 : sAr (nA M 0 25) (mX M) (va_cpy (mA (nA M 0 25) x) (mA (nA M 0 25) (mX M)) (0 : Int32).toNatClampNeg (0 : Int32).toNatClampNeg (18 : Int32).toNatClampNeg) = M2 at *
  have hx2 : AR M2 (mX M) := ⟨by rw [← hM2]; exact k1, by rw [← hM2]; exact l1, by rw [← hM2]; exact Nat.lt_succ_self _⟩
  obtain ⟨y1, e1⟩ := r_areAll hx2 18 24
  rw [e1, Option.bind_some]
  dsimp only
  split
  · obtain ⟨u, e2⟩ := r_vt_215 hx2 a (y + b) 1
    exact ⟨u, M2, e2, hk2⟩
  · obtain ⟨u, e2⟩ := r_vt_215 hx2 a (y + b) 0
    exact ⟨u, M2, e2, hk2⟩
theorem r_vt_161 {c s x lk : Nat} (hk : KM c s M0 M) (hx : AR M x) (k : mK M 1026 = 13) (hlk : mI M 421 1026 = nI lk) (hlk25 : lk < 25) (a b i4 y : Int32) : ∃ u M', f_X7_valueOfTiles_161 1026 x i4 a b y M = some (u, M') ∧ KM (c + 1) (s + 25) M0 M' := by
  unfold f_X7_valueOfTiles_161
  rw [e_gI 421 k, Option.bind_some, hlk, e_lA hx.1 (by rw [hx.2.1]; exact hlk25) (by rw [hx.2.1]; decide), Option.bind_some]
  split
  · exact r_vt_179 hk hx _ _ _
  · exact r_vt_179 hk hx _ _ _
/-- what the value by all tiles stands on -/
def VB (M : zM) (P h l d N : Nat) (v : Nat → Nat) (lk : Nat) : Prop := (mK M P = 12 ∧ mR M 386 P = some h ∧ mR M 387 P = some l ∧ P < mX M) ∧ AR M h ∧ LV M l d N v ∧ (∀ j, j < N → v j < 400) ∧ (mK M 1026 = 13 ∧ mI M 421 1026 = nI lk ∧ lk < 25 ∧ 1026 < mX M)
theorem VB.km {M' : zM} {lk c s : Nat} (h9 : VB M P h l d N v lk) (k : KM c s M M') : VB M' P h l d N v lk := by
  obtain ⟨⟨a1, a2, a3, a4⟩, b, c', d', ⟨e1, e2, e3, e4⟩⟩ := h9
  have kp := k.2 P a4
  have k6 := k.2 1026 e4
  exact ⟨⟨kp.1.trans a1, (kp.2.2.2.2.1 _).trans a2, (kp.2.2.2.2.1 _).trans a3, Nat.lt_of_lt_of_le a4 k.1.1⟩, b.km k, c'.km k, d', ⟨k6.1.trans e1, (k6.2.2.1 _).trans e2, e3, Nat.lt_of_lt_of_le e4 k.1.1⟩⟩
theorem r_vt_144 {c s x lk : Nat} (hk : KM c s M0 M) (hb : VB M P h l d N v lk) (hx : AR M x) (i2 i4 a b y : Int32) : ∃ u M', f_X7_valueOfTiles_144 1026 P i2 x i4 a b y M = some (u, M') ∧ KM (c + 2) (s + 29) M0 M' := by
  have wk : ∀ u : Int32, (∃ M', f_X7_valueOfTiles_144 1026 P i2 x i4 a b y M = some (u, M') ∧ KM (c + 1) (s + 25) M0 M') → ∃ M', f_X7_valueOfTiles_144 1026 P i2 x i4 a b y M = some (u, M') ∧ KM (c + 2) (s + 29) M0 M' := fun u ⟨M', e, k⟩ => ⟨M', e, k.w (by omega) (by omega)⟩
  unfold f_X7_valueOfTiles_144 f_X7_valueOfTiles_160 at *
  split
  · rename_i z
    obtain ⟨u, M', e, k⟩ := r_vt_161 hk hx hb.2.2.2.2.1 hb.2.2.2.2.2.1 hb.2.2.2.2.2.2.1 a 0 i4 (y + b)
    exact ⟨u, M', e, k.w (by omega) (by omega)⟩
  · obtain ⟨M1, e1, k1⟩ := r_open hb.1.1 hb.1.2.2.1 hb.2.2.1 hb.2.2.2.1
    have hb1 := hb.km k1
    have hx1 := hx.km k1
    have hk1 := hk.tr k1
    rw [if_pos hb.1.1, e1, Option.bind_some]
    dsimp only
    split
    · obtain ⟨u, M', e, k⟩ := r_vt_161 hk1 hx1 hb1.2.2.2.2.1 hb1.2.2.2.2.2.1 hb1.2.2.2.2.2.2.1 a 1 i4 (y + b)
      exact ⟨u, M', e, k.w (by omega) (by omega)⟩
    · obtain ⟨u, M', e, k⟩ := r_vt_161 hk1 hx1 hb1.2.2.2.2.1 hb1.2.2.2.2.2.1 hb1.2.2.2.2.2.2.1 a 0 i4 (y + b)
      exact ⟨u, M', e, k.w (by omega) (by omega)⟩
theorem r_vt_41 {x lk C S c s i6 : Nat} (hi6 : i6 < 25) (hxe : x = mX M0) (i2 : Int32) {K : Nat → Nat → Int32 → Nat → Int32 → Int32 → Int32 → zM → Option (Int32 × zM)} (hK : ∀ a b M', KM c s M0 M' → VB M' P h l d N v lk → AR M' x → ∃ u M'', K 1026 P i2 x a b (nI (i6 + 1)) M' = some (u, M'') ∧ KM C S M0 M'') : ∀ (e n cc : Nat) (i4 i5 : Int32) (it : Nat) (M : zM), cc + e = N → e < n → KM c s M0 M → VB M P h l d N v lk → AR M x → IT M it l cc → mX M0 ≤ it → it ≠ x → 1026 < it → P < it → h < it → l < it → (∀ j, j < N → ∀ o, mQ M d j = some o → o < it) → ∃ u M'', f_X7_valueOfTiles_41 K n 1026 P i2 x i4 i5 (nI i6) it M = some (u, M'') ∧ KM C S M0 M'' := by
  intro e
  induction e with
  | zero =>
    intro n cc i4 i5 it M hc hn hk hb hx hi hit hitx h1 h2 h3 h4 h5
    obtain ⟨n, rfl⟩ : ∃ m, n = m + 1 := ⟨n - 1, by omega⟩
    obtain ⟨⟨l1, l2, l3, l4, l5⟩, -⟩ := hb.2.2.1
    obtain ⟨y, ey⟩ := r_isEnd (nI i6) M
    rw [f_X7_valueOfTiles_41, if_pos hi.1, r_hasNext hi l1 l3 (by omega) (by omega), Option.bind_some, if_pos (show cc = N by omega)]
    dsimp only
    rw [if_pos rfl, e_lA hx.1 (by rw [hx.2.1]; exact hi6) (by rw [hx.2.1]; decide), Option.bind_some, nI_1]
    split
    · exact hK _ _ M hk hb hx
    · rw [ey, Option.bind_some]
      dsimp only
      unfold f_X7_valueOfTiles_105
      rw [nI_1]
      split
      · split
        · exact hK _ _ M hk hb hx
        · exact hK _ _ M hk hb hx
      · split
        · exact hK _ _ M hk hb hx
        · exact hK _ _ M hk hb hx
  | succ e ih =>
    intro n cc i4 i5 it M hc hn hk hb hx hi hit hitx h1 h2 h3 h4 h5
    obtain ⟨n, rfl⟩ : ∃ m, n = m + 1 := ⟨n - 1, by omega⟩
    obtain ⟨⟨l1, l2, l3, l4, l5⟩, l6, l7⟩ := hb.2.2.1
    obtain ⟨d1, d2, d3, d4⟩ := l6 (by omega)
    obtain ⟨o, o1, o2, o3, o4, o5⟩ := l7 cc (by omega)
    obtain ⟨e1, e2⟩ := r_next hi l1 l3 (by omega) l2 d1 d2 d3 (by omega) o1
    have o22 : mK (sI (sI M 128 it (nI (cc + 1))) 129 it (nI cc)) o = 11 := o2
    have x2 : AR (sI (sI M 128 it (nI (cc + 1))) 129 it (nI cc)) x := hx
    have hk2 : KM c s M0 (sI (sI M 128 it (nI (cc + 1))) 129 it (nI cc)) := (hk.sI hit _ _).sI hit _ _
    have ne : ∀ {q b : Nat}, b < it → mI (sI (sI M 128 it (nI (cc + 1))) 129 it (nI cc)) q b = mI M q b := fun hb9 => (if_neg (fun z => by have := z.2; omega)).trans (if_neg (fun z => by have := z.2; omega))
    have hb2 : VB (sI (sI M 128 it (nI (cc + 1))) 129 it (nI cc)) P h l d N v lk := by
      obtain ⟨b1, b2, ⟨⟨c1, c2, c3, c4, c5⟩, c6, c7⟩, b4, ⟨b5, b6, b7, b8⟩⟩ := hb
      refine ⟨b1, b2, ⟨⟨c1, c2, (ne h4).trans c3, c4, c5⟩, c6, fun j hj => ?_⟩, b4, ⟨b5, (ne h1).trans b6, b7, b8⟩⟩
      obtain ⟨o, q1, q2, q3, q4, q5⟩ := c7 j hj
      exact ⟨o, q1, q2, q3, (ne (h5 j hj o q1)).trans q4, (ne (h5 j hj o q1)).trans q5⟩
    have h52 : ∀ j, j < N → ∀ o, mQ (sI (sI M 128 it (nI (cc + 1))) 129 it (nI cc)) d j = some o → o < it := h5
    generalize sI (sI M 128 it (nI (cc + 1))) 129 it (nI cc) = M2 at *
    obtain ⟨y, ey⟩ := r_X5_of o22 (nI i6)
    rw [f_X7_valueOfTiles_41, if_pos hi.1, r_hasNext hi l1 l3 (by omega) (by omega), Option.bind_some, if_neg (show ¬ cc = N by omega)]
    dsimp only
    rw [if_neg (show ¬ (1 : Int32) = 0 by decide), if_pos hi.1, e1, Option.bind_some]
    dsimp only
    rw [if_pos (Or.inl o22), e_lA x2.1 (by rw [x2.2.1]; exact hi6) (by rw [x2.2.1]; decide), Option.bind_some, if_pos o22, ey, Option.bind_some]
    dsimp only
    rw [e_tA x2.1 (by rw [x2.2.1]; exact hi6) (by rw [x2.2.1]; decide), Option.bind_some]
    exact ih n (cc + 1) i4 i5 it (sA M2 x i6 (mA M2 x i6 + y)) (by omega) (by omega) (hk2.sA (by omega) _ _) hb2 x2 e2 hit hitx h1 h2 h3 h4 h52
end RTIL
