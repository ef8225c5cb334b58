/-! ===== PURE, THE REFERENCE: win, claim, as they are called ===== -/
section RTOP
variable {I : Nat → Nat → Int32} {J : Nat → Nat → Int64} {A : Nat → Nat → Int32} {M : zM} {G : zG} {hp dl : Nat → Nat}
theorem r_win_bad (h : RS M hp dl) {i : Int32} (y : i < 0 ∨ 4 ≤ i.toNatClampNeg) : f_X7_win 1026 i (cs I J A M) = some (0, cs (th 1 I) J A M) := by
  have e := r_start (I := I) (J := J) (A := A) h true 1 (by decide) (by decide)
  have e' : f_X7_start 1026 1 1 (cs I J A M) = some (1, cs (th 1 I) J A M) := e
  unfold f_X7_win f_X7_win_0
  rw [r_noPl_bad y, Option.bind_some]
  dsimp only
  rw [if_pos (show mK (cs I J A M) 1026 = 13 from h.1.1), e', Option.bind_some]
  dsimp only
  rw [if_neg (show ¬ (1 : Int32) = 0 by decide)]
theorem r_win (h : RS M hp dl) (hn : RN I J A M G hp dl) (hw : WF G) (hv : WV G) (hz : WZ G) (hz1 : WZ1 G) (h8 : W8 G) (hR : WR G) (hL : WL G) (hT : WT G) {p : Nat} (hp4 : p < 4) : (wOk G p = true ∧ ∃ v I' J' A' M', f_X7_win 1026 (nI p) (cs I J A M) = some (v, cs I' J' A' M') ∧ RS M' hp dl ∧ RN I' J' A' M' (gWin G p) hp dl ∧ I' 416 1026 = 0 ∧ (mX M' ≤ mX M + 29 ∧ mS M' ≤ mS M + 158)) ∨ (wOk G p = false ∧ ∃ A', f_X7_win 1026 (nI p) (cs I J A M) = some (0, cs (th 2 I) J A' M) ∧ RN (th 2 I) J A' M G hp dl) := by
  have k := h.1.1
  have hw4 : eS G 4 < 4 := hw.2.2.2.2.1
  have ht : eS G 5 < 4 := hw.2.2.2.2.2.1
  have hs := h.2.1 p hp4
  have hh := h.2.2.1 p hp4
  have hn1 := hn.th 0
  have e := r_start (I := I) (J := J) (A := A) h false 1 (by decide) (by decide)
  have e' : f_X7_start 1026 0 1 (cs I J A M) = some (0, cs (th 0 I) J A M) := e
  obtain ⟨A1, e1, f1⟩ := r_mayWin h hn1 hw hz1 h8 hp4
  obtain ⟨w1, w2, w3, w4⟩ := hw.2.2.2.2.2.2.2.2.2.2 p hp4
  unfold f_X7_win f_X7_win_0
  rw [r_noPl_ok hp4, Option.bind_some]
  dsimp only
  rw [if_pos (show mK (cs I J A M) 1026 = 13 from k), e', Option.bind_some]
  dsimp only
  rw [if_pos rfl, if_pos (show mK (cs (th 0 I) J A M) 1026 = 13 from k), e1, Option.bind_some]
  dsimp only
  by_cases y : wOk G p = true
  · refine Or.inl ⟨y, ?_⟩
    have er := r_refuse (I := I) (J := J) (A := A1) h false 2 (by decide) (by decide)
    have er' : f_X7_refuse 1026 0 2 (cs (th 0 I) J A1 M) = some (0, cs (th 0 I) J A1 M) := er
    rw [y, if_neg (show ¬ b32 true = 0 by decide)]
    unfold f_X7_win_26
    rw [if_pos (show mK (cs (th 0 I) J A1 M) 1026 = 13 from k), er', Option.bind_some]
    dsimp only
    rw [if_pos rfl, gR_cs 417 k h.1.2.1, Option.bind_some, h.pl hp4, Option.bind_some, gI_cs 422 k, Option.bind_some, f1.1.1]
    unfold wOk at y
    by_cases y1 : eS G 4 = 1
    · obtain ⟨-, -, -, lk, hlk25, hlk⟩ := f1.1.2.2.2.2.2.1 (hR (by omega))
      have hsz := hz p hp4
      rw [if_pos (show nI (eS G 4) = 1 by rw [y1]; rfl)]
      obtain ⟨v, I', J', A', M', q1, q2, q3, q4, q5, q6⟩ := r_win_77 h f1.2 hp4 w2 (fun j hj => hv p hp4 j hj) hlk hlk25 (fun k hk => by have := w1 k hk; omega) (by omega) 1
      refine ⟨v, u2 I' 422 1026 3, J', A', M', ?_, q2, ?_, (q4 416 (fk_no (by decide))).trans rfl, q6⟩
      · unfold f_X7_win_55
        rw [if_neg (show ¬ (1 : Int32) = 0 by decide)]
        exact q1
      · unfold gWin
        rw [if_pos y1]
        exact ⟨RNs.fin f1.1 q4 q5 rfl, q3⟩
    · rw [if_neg y1] at y
      have y2 : eS G 4 = 2 ∧ p ≠ eS G 5 := by
        unfold oByDis at y
        exact of_decide_eq_true ((Bool.and_eq_true _ _).mp y).1
      obtain ⟨-, -, -, lk, hlk25, hlk⟩ := f1.1.2.2.2.2.2.1 (hR (by omega))
      have hL1 := hL y2.1
      have hT1 := hT y2.1 p hp4
      have hm60 : eM G (eS G 5) ≤ 60 := (hw.2.2.2.2.2.2.2.2.2.2 _ ht).2.2.1
      have hl25 : lst G < 25 := (hw.2.2.2.2.2.2.2.2.2.2 _ ht).2.2.2 _ (by omega)
      have hoff : th 0 I 430 1026 = nI (lst G) := f1.1.2.2.2.2.2.2.2 y2.1
      have hsz := hz p hp4
      rw [if_neg (eq_f (y := 1) (eS G 4) 1 y1 (by omega) (by decide))]
      obtain ⟨v, q1, q2, q3⟩ := r_leave h f1.2 f1.1.2.1 ht (by omega) hm60
      generalize hM1 : sQ M (dl (1031 + 4 * eS G 5)) (eM G (eS G 5) - 1) none = M1 at *
      generalize hI1 : u2 (u2 (th 0 I) 160 (1031 + 4 * eS G 5) v) 162 (1031 + 4 * eS G 5) (nI (eM G (eS G 5) - 1)) = I1 at *
      have i1 : ∀ k, I1 k 1026 = th 0 I k 1026 := fun k => by
        rw [← hI1]
        exact (if_neg (fun z => by have := z.2; omega)).trans (if_neg (fun z => by have := z.2; omega))
      have hX1 : mX M1 = mX M := by rw [← hM1]; rfl
      have hS1' : mS M1 = mS M := by rw [← hM1]; rfl
      have hs2 := q2.2.1 _ hp4
      have hh2 := q2.2.2.1 _ hp4
      have hk2 := q2.1.1
      have hrow := (q3.1 _ hp4).1 _ hl25
      have q4 : RNQ I1 J (u2 A1 (hp p) (lst G) (nI (eH G p (lst G) + 1))) M1 (gTk G p) hp dl := q3.c1 q2 hp4 hl25
      have hsu := sn_u1 (eH G p) (lst G) (eH G p (lst G) + 1) 25 0 (Nat.zero_le _) (by omega)
      have hgt : eH (gTk G p) p = u1 (eH G p) (lst G) (eH G p (lst G) + 1) := by
        funext j
        show u2 (eH G) p (lst G) (eH G p (lst G) + 1) p j = _
        unfold u2 u1
        by_cases z : j = lst G
        · rw [if_pos ⟨rfl, z⟩, if_pos z]
        · rw [if_neg (fun q => z q.2), if_neg z]
      obtain ⟨v2, I', J', A', M', t1, t2, t3, t4, t5, t6⟩ := r_win_77 (G := gTk G p) q2 q4 hp4 w2 (fun j hj => hv p hp4 j hj) ((i1 421).trans hlk) hlk25 (fun k hk => by
        rw [hgt]
        by_cases z : k = lst G
        · rw [z, u1_at]; omega
        · rw [u1_ne _ _ z]; have := w1 k hk; omega) (by rw [hgt]; omega) 0
      refine ⟨v2, u2 I' 422 1026 3, J', A', M', ?_, t2, ?_, ((t4 416 (fk_no (by decide))).trans (i1 416)).trans rfl, by omega, by omega⟩
      · have ex : lA 0 (cs I1 J A1 M1) (hp p) (nI (lst G)) = some (A1 (hp p) (lst G)) := lA_cs hh2.1 (by rw [hh2.2.1]; exact hl25) (by rw [hh2.2.1]; decide)
        unfold f_X7_win_55
        rw [if_pos rfl, if_pos (show mK (cs (th 0 I) J A1 M) 1026 = 13 from k), q1, Option.bind_some]
        dsimp only
        rw [gR_cs 386 hs2.1 hs2.2.1, Option.bind_some, gI_cs 430 hk2, Option.bind_some, (i1 430).trans hoff, ex, Option.bind_some, hrow, show nI (eH (gM1 G) p (lst G)) + 1 = nI (eH G p (lst G) + 1) from nI_1 _, tA_cs hh2.1 (by rw [hh2.2.1]; exact hl25) (by rw [hh2.2.1]; decide), Option.bind_some]
        exact t1
      · unfold gWin
        rw [if_neg y1]
        refine ⟨RNs.fin f1.1 (fun k hk => (t4 k hk).trans (i1 k)) (fun t ht => (t5 t ht).trans (if_neg (fun z => hh.2.2.2.1 z.1.symm))) rfl, t3⟩
  · have y' : wOk G p = false := by cases hx : wOk G p; rfl; exact absurd hx y
    refine Or.inr ⟨y', A1, ?_, f1⟩
    have er := r_refuse (I := I) (J := J) (A := A1) h true 2 (by decide) (by decide)
    have er' : f_X7_refuse 1026 1 2 (cs (th 0 I) J A1 M) = some (1, cs (th 2 I) J A1 M) := er
    rw [y', if_pos (show b32 false = 0 from rfl)]
    unfold f_X7_win_26
    rw [if_pos (show mK (cs (th 0 I) J A1 M) 1026 = 13 from k), er', Option.bind_some]
    dsimp only
    rw [if_neg (show ¬ (1 : Int32) = 0 by decide)]
theorem r_claim_bad (h : RS M hp dl) {i1 : Int32} (i2 i3 : Int32) (y : i1 < 0 ∨ 4 ≤ i1.toNatClampNeg) : f_X7_claim 1026 i1 i2 i3 (cs I J A M) = some (0, cs (th 1 I) J A M) := by
  have e := r_start (I := I) (J := J) (A := A) h true 1 (by decide) (by decide)
  have e' : f_X7_start 1026 1 1 (cs I J A M) = some (1, cs (th 1 I) J A M) := e
  unfold f_X7_claim f_X7_claim_0
  rw [r_noPl_bad y, Option.bind_some]
  dsimp only
  rw [if_pos (show mK (cs I J A M) 1026 = 13 from h.1.1), e', Option.bind_some]
  dsimp only
  rw [if_neg (show ¬ (1 : Int32) = 0 by decide)]
theorem r_claim_bad2 (h : RS M hp dl) {p : Nat} (hp4 : p < 4) {i2 : Int32} (i3 : Int32) (y : i2 < 0 ∨ 3 ≤ i2.toNatClampNeg) : f_X7_claim 1026 (nI p) i2 i3 (cs I J A M) = some (0, cs (th 2 I) J A M) := by
  have e := r_start (I := I) (J := J) (A := A) h false 1 (by decide) (by decide)
  have e' : f_X7_start 1026 0 1 (cs I J A M) = some (0, cs (th 0 I) J A M) := e
  have er := r_refuse (I := I) (J := J) (A := A) h true 2 (by decide) (by decide)
  have er' : f_X7_refuse 1026 1 2 (cs (th 0 I) J A M) = some (1, cs (th 2 I) J A M) := er
  have ei : f_X7_isIn i2 0 2 (cs (th 0 I) J A M) = some (0, cs (th 0 I) J A M) := by
    rw [r_isIn]
    rcases nI_all i2 with z | ⟨n, z1, rfl⟩
    · rw [if_pos z]
    · have h3 : 3 ≤ n := by
        rcases y with y | y
        · exact absurd y (nI_nn z1)
        · rw [nI_cl z1] at y; exact y
      rw [if_neg (nI_nn z1), if_pos (lt_t (x := 2) 2 n (by omega) z1)]
  unfold f_X7_claim f_X7_claim_0
  rw [r_noPl_ok hp4, Option.bind_some]
  dsimp only
  rw [if_pos (show mK (cs I J A M) 1026 = 13 from h.1.1), e', Option.bind_some]
  dsimp only
  rw [if_pos rfl, ei, Option.bind_some]
  dsimp only
  rw [if_pos rfl]
  unfold f_X7_claim_27
  rw [if_pos (show mK (cs (th 0 I) J A M) 1026 = 13 from h.1.1), er', Option.bind_some]
  dsimp only
  rw [if_neg (show ¬ (1 : Int32) = 0 by decide)]
theorem r_claim (h : RS M hp dl) (hn : RN I J A M G hp dl) (hw : WF G) (hd : WD G) (hL : WL G) (hT : WT G) {p w : Nat} (hp4 : p < 4) (hw2 : w ≤ 2) (i3 : Int32) (hN : oMay G p w i3 = true → eN G p < 3) : (oMay G p w i3 = true ∧ ∃ I' J' A' M' dl', f_X7_claim 1026 (nI p) (nI w) i3 (cs I J A M) = some (nI (eN G p + 1), cs I' J' A' M') ∧ RS M' hp dl' ∧ RN I' J' A' M' (gClm G p w i3) hp dl' ∧ I' 416 1026 = 0 ∧ (mX M' ≤ mX M + 2 ∧ mS M' ≤ mS M + 102)) ∨ (oMay G p w i3 = false ∧ f_X7_claim 1026 (nI p) (nI w) i3 (cs I J A M) = some (0, cs (th 3 I) J A M)) := by
  have k := h.1.1
  have hn1 := hn.th 0
  have ht : eS G 5 < 4 := hw.2.2.2.2.2.1
  have e := r_start (I := I) (J := J) (A := A) h false 1 (by decide) (by decide)
  have e' : f_X7_start 1026 0 1 (cs I J A M) = some (0, cs (th 0 I) J A M) := e
  have er := r_refuse (I := I) (J := J) (A := A) h false 2 (by decide) (by decide)
  have er' : f_X7_refuse 1026 0 2 (cs (th 0 I) J A M) = some (0, cs (th 0 I) J A M) := er
  have ei : f_X7_isIn (nI w) 0 2 (cs (th 0 I) J A M) = some (1, cs (th 0 I) J A M) := by
    rw [r_isIn, if_neg (nI_nn (by omega)), if_neg (lt_f (x := 2) 2 w hw2 (by decide))]
  have em := r_mayClaim (I := th 0 I) (J := J) (A := A) h hn1 hw hd hL hp4 hw2 i3
  have start : f_X7_claim 1026 (nI p) (nI w) i3 (cs I J A M) = (if b32 (oMay G p w i3) = 0 then f_X7_claim_50 1026 (nI p) (nI w) i3 1 1026 (cs (th 0 I) J A M) else f_X7_claim_50 1026 (nI p) (nI w) i3 0 1026 (cs (th 0 I) J A M)) := by
    unfold f_X7_claim f_X7_claim_0
    rw [r_noPl_ok hp4, Option.bind_some]
    dsimp only
    rw [if_pos (show mK (cs I J A M) 1026 = 13 from k), e', Option.bind_some]
    dsimp only
    rw [if_pos rfl, ei, Option.bind_some]
    dsimp only
    rw [if_neg (show ¬ (1 : Int32) = 0 by decide)]
    unfold f_X7_claim_27
    rw [if_pos (show mK (cs (th 0 I) J A M) 1026 = 13 from k), er', Option.bind_some]
    dsimp only
    rw [if_pos rfl, if_pos (show mK (cs (th 0 I) J A M) 1026 = 13 from k), em, Option.bind_some]
  rw [start]
  by_cases y : oMay G p w i3 = true
  · have hm := oMay_w y
    have hl25 : lst G < 25 := (hw.2.2.2.2.2.2.2.2.2.2 _ ht).2.2.2 _ (by have := hL hm.1; omega)
    obtain ⟨l, l1, l2, l3, l4, l5⟩ := may_le y hw2 hl25
    rw [y, if_neg (show ¬ b32 true = 0 by decide)]
    exact Or.inl ⟨rfl, r_claim_50 h hn hw hL hT hp4 hw2 y l1 l2 l3 l5 (hN y)⟩
  · have y' : oMay G p w i3 = false := by cases hx : oMay G p w i3; rfl; exact absurd hx y
    have er3 := r_refuse (I := I) (J := J) (A := A) h true 3 (by decide) (by decide)
    have er3' : f_X7_refuse 1026 1 3 (cs (th 0 I) J A M) = some (1, cs (th 3 I) J A M) := er3
    rw [y', if_pos (show b32 false = 0 from rfl)]
    unfold f_X7_claim_50
    rw [if_pos (show mK (cs (th 0 I) J A M) 1026 = 13 from k), er3', Option.bind_some]
    dsimp only
    rw [if_neg (show ¬ (1 : Int32) = 0 by decide)]
    exact Or.inr ⟨rfl, rfl⟩
end RTOP
