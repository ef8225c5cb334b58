/-! ===== THE LAW: its loop ===== -/
theorem GI.e7 {k rr : Nat} {G : zG} {e : zPt} (g : GI k rr G e) : eS G 7 = rr := g.2.2.2.2.2.1.1
theorem pk_16 {a : Nat} (ha : a < 2 ^ 31) : zmd (nI a) (16 : Int32) = nI (a % 16) := pk_rem (a := a) (d := 16) ha (by decide) (by decide)
theorem one_st {a v : Nat} (ha : a < 10) (hv : v = 1 ∨ v = 3 ∨ v = 7 ∨ v = 9) : 10 * a + v ≠ 0 ∧ 10 * a + v < 100 ∧ (10 * a + v) % 2 ≠ 0 ∧ (10 * a + v) % 5 ≠ 0 := by
  rcases hv with rfl | rfl | rfl | rfl <;> omega
section LOOPL
variable {n : Nat} {xs : Nat → Int32}
/-- what is drawn brings one nearer by one at most -/
theorem w_260 {M : zM} {a b : Nat} (ha : a < 8) (hb : b < 8) (h1 : a ≤ b) (h2 : b ≤ a + 1) {K : Nat → Nat → Int32 → Int32 → zM → Option (Unit × zM)} {i2 i3 : Int32} (kk : ND (f_L_law_304 K 0 1000 i2 i3 M)) : ND (f_L_law_260 K 0 1000 i2 i3 (6 - nI a) (6 - nI b) M) := by
  unfold f_L_law_260
  rw [if_neg (by rw [c8_lt a ha b hb]; omega), if_pos ((c8_le a ha b hb).mpr h2)]
  exact kk
theorem w_law (hn : n ≤ 260) : ∀ (d m i r c k : Nat) (M : zM) (G : zG) (e : zPt), i + d = 130 → d < m → QK n xs c M G e → GI k r G e → k ≤ 3 * i → c ≤ 40 * i → (i = 0 ∨ eS G 7 ≠ 0) → ND (f_L_law_12 m 0 1000 (nI r) (nI i) M) := by
  intro d
  induction d with
  | zero =>
    intro m i r c k M G e hi hm h g hk hc h7
    obtain ⟨m, rfl⟩ : ∃ x, m = x + 1 := ⟨m - 1, by omega⟩
    have h7' : eS G 7 ≠ 0 := h7.resolve_left (by omega)
    rw [f_L_law_12, if_pos (le_t (x := 130) 130 i (by omega) (by omega))]
    refine h.digest g fun M1 m1 => ?_
    refine P_cell m1 hn (j := 0) (by decide) rfl fun v => ?_
    dsimp only
    refine P_below v (m := 4) (by decide) (by decide) rfl fun p hp => ?_
    dsimp only
    refine (w_isReady m1 g hp rfl).b fun w M2 G2 e2 m2 q => ?_
    dsimp only
    obtain ⟨q1, q2, q3⟩ := q
    subst q2 q3
    rw [if_neg (show ¬ w = 0 by rw [q1]; decide)]
    obtain ⟨b, b1, b2⟩ := outs_b g h7' hp
    refine m2.outs g hp rfl fun M3 m3 => ?_
    rw [b1, if_neg (nI_nn (by omega))]
    refine m3.outs g hp rfl fun M4 m4 => ?_
    rw [b1, if_pos (le_t (y := 90) b 90 b2 (by decide))]
    refine m4.digest g fun M5 m5 => ?_
    rw [if_pos ((lg_cmp_0 _ _).mpr rfl)]
    exact ⟨M5, rfl, (m5.w (c' := 5300) (by omega)).2.2.2.2.2.2.2⟩
  | succ d ih =>
    intro m i r c k M G e hi hm h g hk hc h7
    obtain ⟨m, rfl⟩ : ∃ x, m = x + 1 := ⟨m - 1, by omega⟩
    have next : ∀ (c' k' r1 : Nat) (M1 : zM) (G1 : zG) (e1 : zPt), QK n xs c' M1 G1 e1 → GI k' r1 G1 e1 → k' ≤ 3 * (i + 1) → c' + 4 ≤ 40 * (i + 1) → eS G1 7 ≠ 0 → ND (f_L_law_304 (f_L_law_12 m) 0 1000 (nI r1) (nI i) M1) := fun c' k' r1 M1 G1 e1 h1 g1 hk1 hc1 h71 => by
      refine w_304 h1 g1 h71 fun M2 m2 => ?_
      rw [nI_1]
      exact ih m (i + 1) r1 (c' + 4) k' M2 G1 e1 (by omega) (by omega) m2 g1 hk1 hc1 (Or.inr h71)
    have c1 : zmd (nI i) (16 : Int32) = nI (i % 16) := pk_16 (by omega)
    have c2 : zmd ((7 : Int32) * nI i + (3 : Int32)) (16 : Int32) = nI ((7 * i + 3) % 16) := by
      rw [show (7 : Int32) * nI i = nI (7 * i) from pk_mul 7 i, show nI (7 * i) + (3 : Int32) = nI (7 * i + 3) from nI_add (7 * i) 3]
      exact pk_16 (by omega)
    have e0 : mny G e 0 = nI (eS G 4) := rfl
    have p4 := g.1.1.1.2.2.2.2.1
    have ht := g.1.1.1.2.2.2.2.2.1
    have wr := g.1.1.2.2.2.2.2.2.2.2.2
    have hk6 : k + 2 ≤ 600 := by omega
    rw [f_L_law_12, if_neg (le_f (x := 130) 130 i (by omega) (by decide))]
    refine P_cell h hn (Nat.mod_lt i (by decide)) c1 fun x => ?_
    dsimp only
    refine P_cell h hn (Nat.mod_lt (7 * i + 3) (by decide)) c2 fun y => ?_
    dsimp only
    refine h.many g 0 (by decide) rfl fun M1 m1 => ?_
    rw [e0]
    by_cases y0 : eS G 4 = 0
    · have h71 : eS G 7 ≠ 0 := wr (by omega)
      have e1 : mny G e 1 = nI (eS G 5) := if_neg (by omega)
      have g5 := g.draw (by omega) y0
      have w36 := g.1.1.1.2.2.1
      have el : lft G = 60 - eS G 2 - eS G 3 := if_neg h71
      have hN := (g.f.2.2.2.2.2.2.2.2.2.2 _ ht).2.1
      have e2 : mny G e 2 = nI (lft G) := rfl
      have o6 : opl G e (eS G 5) 6 = 6 - nI (nrv (eN G (eS G 5)) (eH G (eS G 5))) := rfl
      have l8 := Nat.lt_succ_of_le (nrv_7 (g := eH G (eS G 5)) hN)
      rw [if_pos (show nI (eS G 4) = 0 by rw [y0]; rfl)]
      refine m1.many g 2 (by decide) rfl fun M2 m2 => ?_
      refine m2.many g 1 (by decide) rfl fun M3 m3 => ?_
      refine m3.pl g ht 6 (by decide) e1 rfl fun M4 m4 => ?_
      refine m4.draw g y0 fun M5 m5 => ?_
      refine m5.pl g5 ht 6 (by decide) e1 rfl fun M6 m6 => ?_
      by_cases can : gCan G = true
      · have ek := gK_lt G (40 + eS G 2)
        have cn := (of_decide_eq_true can : eS G 7 ≠ 0 ∧ 24 < 60 - eS G 2 - eS G 3)
        have eG : gDraw G = gRec (wS (wS G 2 (eS G 2 + 1)) 4 1) (gK G (40 + eS G 2)) := if_pos can
        have h75 : eS (gDraw G) 7 ≠ 0 := by rw [eG]; exact h71
        have s2 : eS (gDraw G) 2 = eS G 2 + 1 := by rw [eG]; rfl
        have s3 : eS (gDraw G) 3 = eS G 3 := by rw [eG]; rfl
        have eH5 : eH (gDraw G) (eS G 5) = u1 (eH G (eS G 5)) (gK G (40 + eS G 2)) (eH G (eS G 5) (gK G (40 + eS G 2)) + 1) := by rw [eG]; exact u2_self _ _ _ _
        have eN5 : eN (gDraw G) = eN G := by rw [eG]; rfl
        have f6 : opl (gDraw G) (eDraw G e) (eS G 5) 6 = 6 - nI (nrv (eN G (eS G 5)) (u1 (eH G (eS G 5)) (gK G (40 + eS G 2)) (eH G (eS G 5) (gK G (40 + eS G 2)) + 1))) := by
          show frv (eN (gDraw G) (eS G 5)) (eH (gDraw G) (eS G 5)) = _
          rw [eN5, eH5]
          rfl
        have m26 : mny (gDraw G) (eDraw G e) 2 = mny G e 2 - (1 : Int32) := by
          have el5 : lft (gDraw G) = 60 - (eS G 2 + 1) - eS G 3 := (if_neg h75).trans (by rw [s2, s3])
          show nI (lft (gDraw G)) = nI (lft G) - nI 1
          rw [pk_sub (by omega)]
          exact congrArg nI (by omega)
        rw [if_pos can, if_pos (le_t (x := 0) 0 (gK G (40 + eS G 2)) (Nat.zero_le _) (by omega))]
        unfold f_L_law_216
        rw [if_neg (show ¬ mny G e 2 = 24 from eq_f (y := 24) (lft G) 24 (by omega) (by omega) (by decide))]
        unfold f_L_law_228
        rw [if_pos rfl, if_neg (nI_nn (by omega))]
        refine m6.many g5 2 (by decide) rfl fun M7 m7 => ?_
        rw [if_pos m26]
        refine m7.has ht ek e1 rfl fun M8 m8 => ?_
        have b4 := (g5.f.2.2.2.2.2.2.2.2.2.2 _ ht).1 _ ek
        have b5 : eH (gDraw G) (eS G 5) (gK G (40 + eS G 2)) = eH G (eS G 5) (gK G (40 + eS G 2)) + 1 := by rw [eH5, u1_at]
        rw [if_neg (lt_f (y := 1) (eH (gDraw G) (eS G 5) (gK G (40 + eS G 2))) 1 (by omega) (by omega)), f6, o6]
        refine w_260 l8 (Nat.lt_succ_of_le (nrv_7 hN)) nrv_more (nrv_one ek) ?_
        exact next c (k + 1) r M8 _ _ m8 g5 (by omega) (by omega) h75
      · have nc : ¬ (eS G 7 ≠ 0 ∧ 24 < 60 - eS G 2 - eS G 3) := fun z => can (decide_eq_true z)
        have l24 : lft G = 24 := by
          have : ¬ 24 < 60 - eS G 2 - eS G 3 := fun z => nc ⟨h71, z⟩
          omega
        have eG : gDraw G = wS G 4 3 := if_neg can
        have h75 : eS (gDraw G) 7 ≠ 0 := by rw [eG]; exact h71
        have f6 : opl (gDraw G) (eDraw G e) (eS G 5) 6 = 6 - nI (nrv (eN G (eS G 5)) (eH G (eS G 5))) := by
          show frv (eN (gDraw G) (eS G 5)) (eH (gDraw G) (eS G 5)) = _
          rw [eG]
          rfl
        rw [if_neg can, if_neg (show ¬ (0 : Int32) ≤ -1 by decide)]
        unfold f_L_law_216
        rw [if_pos (show mny G e 2 = 24 by rw [e2, l24]; rfl)]
        unfold f_L_law_228
        rw [if_pos rfl, if_pos (show (-1 : Int32) < 0 by decide), f6, o6]
        refine w_260 l8 l8 (Nat.le_refl _) (Nat.le_succ _) ?_
        exact next c (k + 1) r M6 _ _ m6 g5 (by omega) (by omega) h75
    · rw [if_neg (eq_f (y := 0) (eS G 4) 0 y0 (by omega) (by decide))]
      by_cases y1 : eS G 4 = 1
      · have h71 : eS G 7 ≠ 0 := wr (by omega)
        rw [if_pos (show nI (eS G 4) = 1 by rw [y1]; rfl)]
        refine (w_isTurn m1 g hk6 y1 _ _).b fun v M2 G2 e2 m2 q => ?_
        dsimp only
        obtain ⟨q1, g2⟩ := q
        rw [if_neg (show ¬ v = 0 by rw [q1]; decide)]
        exact next (c + 27) (k + 2) r M2 G2 e2 m2 g2 (by omega) (by omega) (by rw [g2.e7, ← g.e7]; exact h71)
      · rw [if_neg (eq_f (y := 1) (eS G 4) 1 y1 (by omega) (by decide))]
        by_cases y2 : eS G 4 = 2
        · have h71 : eS G 7 ≠ 0 := wr (by omega)
          rw [if_pos (show nI (eS G 4) = 2 by rw [y2]; rfl)]
          refine (w_isOffered m1 g (by omega) y2 _ _).b fun v M2 G2 e2 m2 q => ?_
          dsimp only
          obtain ⟨q1, g2⟩ := q
          rw [if_neg (show ¬ v = 0 by rw [q1]; decide)]
          exact next (c + 5) (k + 1) r M2 G2 e2 m2 g2 (by omega) (by omega) (by rw [g2.e7, ← g.e7]; exact h71)
        · have y3 : eS G 4 = 3 := by omega
          rw [if_neg (eq_f (y := 2) (eS G 4) 2 y2 (by omega) (by decide)), if_pos (show nI (eS G 4) = 3 by rw [y3]; rfl)]
          have ea : aA 0 M1 (4 : Int32) = some (mX M1, nA M1 0 4) := by
            have e : aA 0 M1 (nI 4) = some (mX M1, nA M1 0 (nI 4).toNatClampNeg) := if_pos ⟨nI_nn (by decide), by rw [nI_cl (by decide)]; decide⟩
            rw [nI_cl (by decide)] at e
            exact e
          rw [ea, Option.bind_some]
          dsimp only
          refine w_ones m1 g fun M2 m2 a1 a2 v0 v1 v2 v3 => ?_
          refine P_below _ (m := 10) (by decide) (by decide) rfl fun a ha => ?_
          dsimp only
          refine P_below _ (m := 4) (by decide) (by decide) rfl fun b hb => ?_
          dsimp only
          have ld : ∃ v, (v = 1 ∨ v = 3 ∨ v = 7 ∨ v = 9) ∧ lA 0 M2 (mX M1) (nI b) = some (nI v) := by
            have e9 : lA 0 M2 (mX M1) (nI b) = some (mA M2 (mX M1) b) := by
              unfold lA
              rw [if_pos ⟨Or.inl a1, nI_oob (by rw [a2]; exact hb) (by rw [a2]; decide)⟩, nI_cl (by omega)]
            rcases (show b = 0 ∨ b = 1 ∨ b = 2 ∨ b = 3 by omega) with rfl | rfl | rfl | rfl
            · exact ⟨1, Or.inl rfl, e9.trans (congrArg some v0)⟩
            · exact ⟨3, Or.inr (Or.inl rfl), e9.trans (congrArg some v1)⟩
            · exact ⟨7, Or.inr (Or.inr (Or.inl rfl)), e9.trans (congrArg some v2)⟩
            · exact ⟨9, Or.inr (Or.inr (Or.inr rfl)), e9.trans (congrArg some v3)⟩
          obtain ⟨v, hv, ev⟩ := ld
          obtain ⟨n1, n2, n3, n4⟩ := one_st ha hv
          rw [ev, Option.bind_some]
          refine P_below _ (m := 100) (by decide) (by decide) rfl fun sh hsh => ?_
          dsimp only
          refine m2.lay g y3 n1 n2 n3 n4 hsh (show (10 : Int32) * nI a + nI v = nI (10 * a + v) from by rw [show (10 : Int32) * nI a = nI (10 * a) from pk_mul 10 a, nI_add]) rfl fun M3 m3 => ?_
          have g3 := g.lay (by omega) n2 n3 n4 hsh
          have h73 : eS (gLay G (10 * a + v) sh) 7 ≠ 0 := by rw [g3.e7]; exact Nat.succ_ne_zero r
          have er := g.e7
          have d6 : eS G 6 % 4 = r % 4 := by
            rcases g.D with ⟨z1, z2⟩ | ⟨z1, z2⟩ <;> omega
          have rb : r < 2 ^ 31 := by
            have := g.r
            omega
          rw [if_pos (show nI (eS G 6 % 4) = zmd (nI r) (4 : Int32) from by rw [d6]; exact (pk_rem (a := r) (d := 4) rb (by decide) (by decide)).symm)]
          refine m3.many g3 7 (by decide) rfl fun M4 m4 => ?_
          rw [if_pos (show mny (gLay G (10 * a + v) sh) (eLay e (gK (gBeg G (10 * a + v) sh) 95)) 7 = nI r + (1 : Int32) from by
            show nI (eS (gLay G (10 * a + v) sh) 7) = _
            rw [g3.e7, nI_1]), nI_1]
          exact next (c + 1) (k + 1) (r + 1) M4 _ _ m4 g3 (by omega) (by omega) h73
end LOOPL
