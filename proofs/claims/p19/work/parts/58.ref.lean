/-! ===== PURE, THE REFERENCE: the value ===== -/
section RVALU
variable {M M0 : zM} {P h l d N : Nat} {v : Nat → Nat}
theorem r_vt_14 {lk x : Nat} (hxe : x = mX M0) (hP0 : P < mX M0 ∧ h < mX M0 ∧ l < mX M0) (i2 : Int32) : ∀ (e n i : Nat) (i4 i5 : Int32) (M : zM), i + e = 25 → e < n → KM (1 + i) (25 + 4 * i) M0 M → VB M P h l d N v lk → AR M x → ∃ u M'', f_X7_valueOfTiles_14 n 1026 P i2 x i4 i5 (nI i) M = some (u, M'') ∧ KM 28 154 M0 M'' := by
  intro e
  induction e with
  | zero =>
    intro n i i4 i5 M hi hn hk hb hx
    obtain ⟨n, rfl⟩ : ∃ m, n = m + 1 := ⟨n - 1, by omega⟩
    obtain rfl : i = 25 := by omega
    rw [f_X7_valueOfTiles_14, if_pos (le_t (x := 25) 25 25 (by omega) (by omega)), e_gI 390 hb.1.1, Option.bind_some]
    split
    · obtain ⟨u, M', e, k⟩ := r_vt_144 hk hb hx i2 i4 i5 0 1
      exact ⟨u, M', e, k.w (by omega) (by omega)⟩
    · obtain ⟨u, M', e, k⟩ := r_vt_144 hk hb hx i2 i4 i5 1 1
      exact ⟨u, M', e, k.w (by omega) (by omega)⟩
  | succ e ih =>
    intro n i i4 i5 M hi hn hk hb hx
    obtain ⟨n, rfl⟩ : ∃ m, n = m + 1 := ⟨n - 1, by omega⟩
    have hi25 : i < 25 := by omega
    have hh := hb.2.1
    have hk1 : KM (1 + i) (25 + 4 * i) M0 (sA M x i (mA M h i)) := hk.sA (by omega) _ _
    have hb1 : VB (sA M x i (mA M h i)) P h l d N v lk := hb
    have hx1 : AR (sA M x i (mA M h i)) x := hx
    rw [f_X7_valueOfTiles_14, if_neg (le_f (x := 25) 25 i (by omega) (by decide)), e_gR 386 hb.1.1 hb.1.2.1, Option.bind_some, e_lA hh.1 (by rw [hh.2.1]; exact hi25) (by rw [hh.2.1]; decide), Option.bind_some, e_tA hx.1 (by rw [hx.2.1]; exact hi25) (by rw [hx.2.1]; decide), Option.bind_some]
    generalize sA M x i (mA M h i) = M1 at *
    obtain ⟨⟨l1, l2, l3, l4, l5⟩, l6, l7⟩ := hb1.2.2.1
    obtain ⟨M2, e2, i2', k2⟩ := r_iter l1 l4
    have hb2 := hb1.km k2
    have hx2 := hx1.km k2
    have hk2 : KM (1 + (i + 1)) (25 + 4 * (i + 1)) M0 M2 := (hk1.tr k2).w (by omega) (by omega)
    rw [e_gR 387 hb1.1.1 hb1.1.2.2.1, Option.bind_some, if_pos l1, e2, Option.bind_some]
    dsimp only
    refine r_vt_41 (x := x) (c := 1 + (i + 1)) (s := 25 + 4 * (i + 1)) (C := 28) (S := 154) hi25 hxe i2 (K := f_X7_valueOfTiles_14 n) (fun a b M' q1 q2 q3 => ih n (i + 1) a b M' (by omega) (by omega) q1 q2 q3) N zN 0 i4 i5 (mX M1) M2 (by omega) (by show N < 130; omega) hk2 hb2 hx2 i2' hk1.1.1 (fun z => Nat.lt_irrefl _ (z ▸ hx1.2.2)) hb1.2.2.2.2.2.2.2 hb1.1.2.2.2 hb1.2.1.2.2 l4 (fun j hj o ho => ?_)
    have hq : mQ M2 d = mQ M1 d := by
      have := (k2.2 d (l6 (by omega)).2.2.2).2.2.2.2.2.2
      exact this
    obtain ⟨o9, o1, o2, o3, -⟩ := l7 j hj
    rw [hq, o1] at ho
    cases ho
    exact o3
theorem VB.nA {lk : Nat} (hb : VB M P h l d N v lk) (t n : Nat) : VB (nA M t n) P h l d N v lk := hb.km (((KM.rf M).nA t n))
theorem r_valueOfTiles {lk : Nat} (hb : VB M P h l d N v lk) (i2 : Int32) : ∃ u M'', f_X7_valueOfTiles 1026 P i2 M = some (u, M'') ∧ KM 28 154 M M'' := by
  unfold f_X7_valueOfTiles f_X7_valueOfTiles_0
  have e25 : aA 0 M 25 = some (mX M, nA M 0 25) := e_aA (c := 25) (by decide) 0
  rw [e25, Option.bind_some]
  exact r_vt_14 (M0 := M) rfl ⟨hb.1.2.2.2, hb.2.1.2.2, hb.2.2.1.1.2.2.2.1⟩ i2 25 zN 0 1 0 (nA M 0 25) rfl (by decide) ((KM.rf M).nA 0 25) (hb.nA 0 25) ⟨u1_at _ _ _, u1_at _ _ _, Nat.lt_succ_self _⟩
theorem VB.row {I : Nat → Nat → Int32} {J : Nat → Nat → Int64} {A A' : Nat → Nat → Int32} {lk : Nat} (hb : VB (cs I J A M) P h l d N v lk) : VB (cs I J A' M) P h l d N v lk := hb
theorem r_value_80 {I : Nat → Nat → Int32} {J : Nat → Nat → Int64} {A : Nat → Nat → Int32} {lk : Nat} (hb : VB (cs I J A M) P h l d N v lk) {g : Nat → Nat} (hg : ∀ k, k < 25 → g k < 1000) (hs : sn g 0 25 < 64) (x y z u : Int32) : ∀ (e n i : Nat) (a : Int32) (w : Nat → Int32), i + e = 25 → e < n → (∀ k, k < 25 → w k = nI (g k)) → ∃ r w' M', f_X7_value_80 n 1026 x y P z u a (nI i) (cs I J (ur A h w) M) = some (r, M') ∧ (∀ k, k < 25 → w' k = w k) ∧ KM 28 154 (cs I J (ur A h w') M) M' := by
  have hh := hb.2.1
  have hh1 : mK M h = 100 := hh.1
  have hh2 : mL M h = 25 := hh.2.1
  have hP : mK M P = 12 := hb.1.1
  have hP2 : mR M 386 P = some h := hb.1.2.1
  have hP3 : mR M 387 P = some l := hb.1.2.2.1
  have k : mK M 1026 = 13 := hb.2.2.2.2.1
  have hl1 : mK M l = 5 := hb.2.2.1.1.1
  have hl3 : I 162 l = nI N := hb.2.2.1.1.2.2.1
  intro e
  induction e with
  | zero =>
    intro n i a w hi hn hw
    obtain ⟨n, rfl⟩ : ∃ m, n = m + 1 := ⟨n - 1, by omega⟩
    obtain ⟨r, M', q1, q2⟩ := r_valueOfTiles (M := cs I J (ur A h w) M) hb.row y
    rw [f_X7_value_80, if_pos (le_t (x := 25) 25 i (by omega) (by omega)), if_pos (show mK (cs I J (ur A h w) M) 1026 = 13 from k), q1, Option.bind_some]
    dsimp only
    rw [q_min, Option.bind_some]
    exact ⟨_, w, M', rfl, fun _ _ => rfl, q2⟩
  | succ e ih =>
    intro n i a w hi hn hw
    obtain ⟨n, rfl⟩ : ∃ m, n = m + 1 := ⟨n - 1, by omega⟩
    have hgi := hg i (by omega)
    rw [f_X7_value_80, if_neg (le_f (x := 25) 25 i (by omega) (by decide)), gR_cs 386 hP hP2, Option.bind_some, lA_cs hh1 (by omega) (by omega), Option.bind_some, ur_at, hw i (by omega)]
    by_cases z2 : g i < 2
    · rw [if_pos (lt_t (y := 2) (g i) 2 z2 (by decide)), nI_1]
      exact ih n (i + 1) a w (by omega) (by omega) hw
    · have em : nI (g i) - 2 = nI (g i - 2) := pk_sub (a := g i) (b := 2) (by omega)
      have eb : nI (g i - 2) + 2 = nI (g i) := (nI_add (g i - 2) 2).trans (congrArg nI (by omega))
      have hsn := sn_u1 g i (g i - 2) 25 0 (Nat.zero_le _) (by omega)
      obtain ⟨r1, w1, q1, q2⟩ := r_valueOfSets (I := I) (J := J) (A := A) (M := M) k hh1 hh2 64 zR (Nat.le_refl _) (u1 g i (g i - 2)) (u1 w i (nI (g i - 2))) (fun k hk9 => by
        by_cases q : k = i
        · rw [q, u1_at, u1_at]
        · rw [u1_ne _ _ q, u1_ne _ _ q, hw k hk9]) (fun k hk9 => by
        have := hg k hk9
        by_cases q : k = i
        · rw [q, u1_at]; omega
        · rw [u1_ne _ _ q]; exact this) (by omega) x (nI N) z u
      obtain ⟨r2, q3⟩ := q_max a r1 (cs I J (ur A h w1) M)
      have hw3 : ∀ k, k < 25 → u1 w1 i (nI (g i)) k = w k := fun k hk9 => by
        by_cases q : k = i
        · rw [q, u1_at, hw i (by omega)]
        · rw [u1_ne _ _ q, q2 k hk9, u1_ne _ _ q]
      obtain ⟨r, w', M', t1, t2, t3⟩ := ih n (i + 1) r2 (u1 w1 i (nI (g i))) (by omega) (by omega) (fun k hk9 => (hw3 k hk9).trans (hw k hk9))
      refine ⟨r, w', M', ?_, fun k hk9 => (t2 k hk9).trans (hw3 k hk9), t3⟩
      rw [if_neg (lt_f (y := 2) (g i) 2 (by omega) (by omega)), Option.bind_some, lA_cs hh1 (by omega) (by omega), Option.bind_some, ur_at, hw i (by omega), em, tA_cs hh1 (by omega) (by omega), Option.bind_some, u2_ur, gR_cs 386 hP hP2, Option.bind_some, gR_cs 387 hP hP3, Option.bind_some, if_pos (show mK (cs I J _ M) l = 5 from hl1), r_size hl1 hl3, Option.bind_some]
      dsimp only
      rw [if_pos (show mK (cs I J _ M) 1026 = 13 from k), q1, Option.bind_some]
      dsimp only
      rw [q3, Option.bind_some]
      dsimp only
      rw [gR_cs 386 hP hP2, Option.bind_some, lA_cs hh1 (by omega) (by omega), Option.bind_some, ur_at, q2 i (by omega), u1_at, eb, tA_cs hh1 (by omega) (by omega), Option.bind_some, u2_ur, nI_1, t1]
theorem r_value_22 {lk : Nat} (hb0 : VB M0 P h l d N v lk) {g : Nat → Nat} (hg : ∀ k, k < 25 → g k < 1000) (hs : sn g 0 25 < 64) (hw0 : ∀ k, k < 25 → mA M0 h k = nI (g k)) (x y : Int32) : ∀ (e n cc : Nat) (i4 i5 : Int32) (M : zM), cc + e = N → e < n → KM 1 4 M0 M → IT M (mX M0) l cc → ∃ r M', f_X7_value_22 n 1026 x y P i4 i5 (mX M0) M = some (r, M') ∧ KM 29 158 M0 M' := by
  intro e
  induction e with
  | zero =>
    intro n cc i4 i5 M hc hn hk hi
    obtain ⟨n, rfl⟩ : ∃ m, n = m + 1 := ⟨n - 1, by omega⟩
    have hb := hb0.km hk
    obtain ⟨⟨l1, l2, l3, l4, l5⟩, -⟩ := hb.2.2.1
    have hh := hb.2.1
    have hw : ∀ k, k < 25 → mA M h k = nI (g k) := fun k hk9 => ((hk.2 h hb0.2.1.2.2).2.2.2.2.2.1 k (by rw [hb0.2.1.2.1]; exact hk9)).trans (hw0 k hk9)
    obtain ⟨r, w', M', t1, t2, t3⟩ := r_value_80 (I := mI M) (J := mJ M) (A := mA M) (M := M) hb hg hs x y i4 i5 25 zN 0 (-1) (mA M h) rfl (by decide) hw
    rw [ur_self] at t1
    have kk : KM 0 0 (cs (mI M) (mJ M) (ur (mA M) h (mA M h)) M) (cs (mI M) (mJ M) (ur (mA M) h w') M) := KM_ur (fun k hk9 => t2 k (by rw [hh.2.1] at hk9; exact hk9))
    rw [ur_self] at kk
    refine ⟨r, M', ?_, (hk.tr (kk.tr t3)).w (by decide) (by decide)⟩
    rw [f_X7_value_22, if_pos hi.1, r_hasNext hi l1 l3 (by omega) (by omega), Option.bind_some, if_pos (show cc = N by omega)]
    dsimp only
    rw [if_pos rfl]
    exact t1
  | succ e ih =>
    intro n cc i4 i5 M hc hn hk hi
    obtain ⟨n, rfl⟩ : ∃ m, n = m + 1 := ⟨n - 1, by omega⟩
    have hb := hb0.km hk
    obtain ⟨⟨l1, l2, l3, l4, l5⟩, l6, l7⟩ := hb.2.2.1
    obtain ⟨d1, d2, d3, d4⟩ := l6 (by omega)
    obtain ⟨o, o1, o2, o3, o4, o5⟩ := l7 cc (by omega)
    obtain ⟨e1, e2⟩ := r_next hi l1 l3 (by omega) l2 d1 d2 d3 (by omega) o1
    have o22 : mK (sI (sI M 128 (mX M0) (nI (cc + 1))) 129 (mX M0) (nI cc)) o = 11 := o2
    have k13 : mK (sI (sI M 128 (mX M0) (nI (cc + 1))) 129 (mX M0) (nI cc)) 1026 = 13 := hb.2.2.2.2.1
    have hk2 : KM 1 4 M0 (sI (sI M 128 (mX M0) (nI (cc + 1))) 129 (mX M0) (nI cc)) := (hk.sI (Nat.le_refl _) _ _).sI (Nat.le_refl _) _ _
    generalize sI (sI M 128 (mX M0) (nI (cc + 1))) 129 (mX M0) (nI cc) = M2 at *
    rw [f_X7_value_22, if_pos hi.1, r_hasNext hi l1 l3 (by omega) (by omega), Option.bind_some, if_neg (show ¬ cc = N by omega)]
    dsimp only
    rw [if_neg (show ¬ (1 : Int32) = 0 by decide), if_pos hi.1, e1, Option.bind_some]
    dsimp only
    rw [if_pos (Or.inl o22), e_gI 353 o22, Option.bind_some]
    split
    · exact ih n (cc + 1) _ _ M2 (by omega) (by omega) hk2 e2
    · obtain ⟨y3, e3⟩ := r_valueOfThree k13 (mI M2 352 o) x
      rw [e_gI 352 o22, Option.bind_some, e3, Option.bind_some]
      exact ih n (cc + 1) _ _ M2 (by omega) (by omega) hk2 e2
/-- the value comes to an answer, and leaves all as it was -/
theorem r_value {p lk : Nat} (hb : VB M P h l d N v lk) (h417 : mR M 417 1026 = some 1027) (hq : lQ 2 M 1027 (nI p) = some P) {g : Nat → Nat} (hg : ∀ k, k < 25 → g k < 1000) (hs : sn g 0 25 < 64) (hw : ∀ k, k < 25 → mA M h k = nI (g k)) (y : Int32) : ∃ r M', f_X7_value 1026 (nI p) y M = some (r, M') ∧ KM 29 158 M M' := by
  obtain ⟨⟨l1, l2, l3, l4, l5⟩, -⟩ := hb.2.2.1
  obtain ⟨M1, e1, i1, k1⟩ := r_iter l1 l4
  obtain ⟨r, M', t1, t2⟩ := r_value_22 hb hg hs hw (nI p) y N zN 0 0 0 M1 (by omega) (by show N < 130; omega) k1 i1
  refine ⟨r, M', ?_, t2⟩
  unfold f_X7_value f_X7_value_0
  rw [e_gR 417 hb.2.2.2.2.1 h417, Option.bind_some, hq, Option.bind_some, e_gR 387 hb.1.1 hb.1.2.2.1, Option.bind_some, if_pos l1, e1, Option.bind_some]
  exact t1
end RVALU
