/-! ===== PURE, THE REFERENCE: sets that are laid, fours ===== -/
section RFOUR
variable {I : Nat → Nat → Int32} {J : Nat → Nat → Int64} {A : Nat → Nat → Int32} {M : zM} {G : zG} {hp dl : Nat → Nat}
theorem r_mayFour (h : RS M hp dl) (hn : RN I J A M G hp dl) (hw : WF G) (hd : WD G) : f_X7_mayFour 1026 (cs I J A M) = some (b32 (gF4 G), cs I J A M) := by
  have k := h.1.1
  have hw3 := hw.2.2.2.1
  unfold f_X7_mayFour f_X7_mayFour_0
  rw [gI_cs 426 k, Option.bind_some, hn.1.2.2.2.2.1]
  by_cases y : eS G 3 < 4
  · rw [if_neg (le_f (x := 4) 4 (eS G 3) y (by decide)), if_pos (show mK (cs I J A M) 1026 = 13 from k), r_canDraw h hn hw hd, Option.bind_some]
    dsimp only
    have e : gF4 G = gCan G := by
      unfold gF4 gCan
      by_cases z : eS G 7 ≠ 0 ∧ 24 < 60 - eS G 2 - eS G 3
      · rw [decide_eq_true z, decide_eq_true ⟨y, z⟩]
      · rw [decide_eq_false z, decide_eq_false (fun w => z w.2)]
    rw [e]
    cases gCan G
    · rfl
    · rfl
  · rw [if_pos (le_t (x := 4) 4 (eS G 3) (by omega) (by omega))]
    have e : gF4 G = false := decide_eq_false (fun w => y w.1)
    rw [e]
    rfl
theorem r_drawLast (h : RS M hp dl) (hn : RN I J A M G hp dl) (hw : WF G) (h1 : eS G 4 = 1) (h4 : gF4 G = true) : ∃ I' A', f_X7_drawLast 1026 (cs I J A M) = some (nI (gK G (99 - eS G 3)), cs I' J A' M) ∧ RN I' J A' M (gDF G) hp dl ∧ I' 416 1026 = I 416 1026 := by
  have k := h.1.1
  have hcan := of_decide_eq_true h4
  have ht : eS G 5 < 4 := hw.2.2.2.2.2.1
  obtain ⟨a, b, c, d⟩ := hn.1.2.2.2.2.2.1 hcan.2.1
  have hkt := gK_lt G (99 - eS G 3)
  have e99 : 99 - eS G 3 < 100 := by omega
  have em : nI (99 - eS G 3) - 1 = nI (99 - (eS G 3 + 1)) := (pk_sub (a := 99 - eS G 3) (b := 1) (by omega)).trans (congrArg nI (by omega))
  unfold f_X7_drawLast f_X7_drawLast_0
  rw [gI_cs 426 k, Option.bind_some, hn.1.2.2.2.2.1, nI_1, pI_cs 426 k, Option.bind_some, gR_cs 418 k h.1.2.2.1, Option.bind_some, gI_cs 420 k, Option.bind_some, show u2 I 426 1026 (nI (eS G 3 + 1)) 420 1026 = nI (99 - eS G 3) from b, em, pI_cs 420 k, Option.bind_some, lA_cs h.1.2.2.2.2.2.2.1 (by rw [h.1.2.2.2.2.2.2.2]; exact e99) (by rw [h.1.2.2.2.2.2.2.2]; decide), Option.bind_some, c _ e99, if_pos (show mK (cs _ J A M) 1026 = 13 from k)]
  have et := r_take (I := u2 (u2 I 426 1026 (nI (eS G 3 + 1))) 420 1026 (nI (99 - (eS G 3 + 1)))) (J := J) (A := A) h ht hn.1.2.1 hkt
  rw [et, Option.bind_some]
  have hrow := (hn.2.1 _ ht).1 _ hkt
  refine ⟨u2 (u2 (u2 (u2 I 426 1026 (nI (eS G 3 + 1))) 420 1026 (nI (99 - (eS G 3 + 1)))) 429 1026 (nI (gK G (99 - eS G 3)))) 422 1026 1, u2 A (hp (eS G 5)) (gK G (99 - eS G 3)) (nI (eH G (eS G 5) (gK G (99 - eS G 3)) + 1)), ?_, ?_, rfl⟩
  · rw [hrow, nI_1]
  · obtain ⟨⟨t1, t2, t3, t4, t5, t6, t7, t8⟩, tq, tv⟩ := hn.hand h ht hkt (v := eH G (eS G 5) (gK G (99 - eS G 3)) + 1)
    refine ⟨⟨?_, t2, t3, t4, rfl, fun z => ?_, fun _ => ?_, fun z => ?_⟩, tq, tv⟩
    · show (1 : Int32) = nI (eS G 4)
      rw [h1]; rfl
    · obtain ⟨a', b', c', d'⟩ := t6 z
      exact ⟨a', rfl, c', d'⟩
    · exact nI_1 _
    · have z' : eS G 4 = 2 := z
      omega
/-- a set is laid: a new object, one more in the list -/
theorem r_lay1 (h : RS M hp dl) {A0 : Nat → Nat → Int32} (hn : RNQ I J A0 M G hp dl) {p f l : Nat} (hp4 : p < 4) (hl : l < 25) (hf : f < 4) (hw : eN G p ≤ 3) : ∃ N1 I' J' M' d', f_X5_init (mX M) (nI l) (nI f) (nO (cs I J A M) 11 2) = some ((), N1) ∧ mK N1 (1030 + 4 * p) = 5 ∧ f_Jx4a65c_add_9ea2d (1030 + 4 * p) (mX M) N1 = some (1, cs I' J' A M') ∧ RS M' hp (u1 dl (1030 + 4 * p) d') ∧ (∀ A'' : Nat → Nat → Int32, (∀ k, k < 25 → A'' (hp p) k = nI (eH G p k - tlN f l k)) → (∀ b, b < mX M → b ≠ hp p → A'' b = A0 b) → RNQ I' J' A'' M' (gSet G p f l) hp (u1 dl (1030 + 4 * p) d')) ∧ (∀ k, I' k 1026 = I k 1026) ∧ (mX M ≤ mX M' ∧ mX M' ≤ mX M + 2 ∧ mS M' ≤ mS M + 102) := by
  have hX := h.2.2.2.2.2.2.2
  have hl9 : isL (1030 + 4 * p) := ⟨p, hp4, Or.inl rfl⟩
  have hS := h.st (ST.nO M 11 2)
  have k11 : mK (nO M 11 2) (mX M) = 11 := u1_at _ _ _
  obtain ⟨l1, l2, l3⟩ := hS.list hl9
  have hN1 : RNQ (u2 (u2 (uc I (mX M) 0) 352 (mX M) (nI l)) 353 (mX M) (nI f)) (uc J (mX M) 0) A0 (nO M 11 2) G hp dl := hn.st h (ST.nO M 11 2) (fun k b hb => ((if_neg (fun z => Nat.ne_of_lt hb z.2)).trans (if_neg (fun z => Nat.ne_of_lt hb z.2))).trans (if_neg (Nat.ne_of_lt hb))) (fun k b hb => if_neg (Nat.ne_of_lt hb)) (fun _ _ _ _ => rfl)
  have hni : f_X5_init (mX M) (nI l) (nI f) (nO (cs I J A M) 11 2) = some ((), cs (u2 (u2 (uc I (mX M) 0) 352 (mX M) (nI l)) 353 (mX M) (nI f)) (uc J (mX M) 0) A (nO M 11 2)) := by
    unfold f_X5_init f_X5_init_0
    show (pI 11 0 (cs (uc I (mX M) 0) (uc J (mX M) 0) A (nO M 11 2)) (mX M) (nI l)).bind _ = _
    rw [pI_cs 352 k11, Option.bind_some, pI_cs 353 k11, Option.bind_some]
  generalize hI1 : u2 (u2 (uc I (mX M) 0) 352 (mX M) (nI l)) 353 (mX M) (nI f) = I1 at *
  have e352 : I1 352 (mX M) = nI l := by rw [← hI1]; exact u2_at (uc I (mX M) 0) 352 (mX M) (nI l)
  have e353 : I1 353 (mX M) = nI f := by rw [← hI1]; exact u2_at _ 353 (mX M) (nI f)
  have e416 : ∀ k, I1 k 1026 = I k 1026 := fun k => by
    rw [← hI1]
    exact ((if_neg (fun z => absurd z.2 (show ¬ 1026 = mX M by omega))).trans (if_neg (fun z => absurd z.2 (show ¬ 1026 = mX M by omega)))).trans (if_neg (show ¬ 1026 = mX M by omega))
  obtain ⟨n1, n2, n3, n4, n5⟩ := hN1.1 p hp4
  have w2 := hw
  obtain ⟨v, d', M', e, a⟩ := r_add (I := I1) (J := uc J (mX M) 0) (A := A) l1 l2 n2.1 l3 (by omega) (hS.addc hl9 n2.2.1 n2.2.2.1) (fun j hj o ho => by
    obtain ⟨o2, q1, q2, q3, -⟩ := n2.2.2.2 j hj
    rw [q1] at ho
    cases ho
    exact ⟨Or.inl q2, q3⟩) (x := mX M) (Or.inl k11) (Nat.lt_succ_self _)
  have hS2 := hS.ad hl9 a
  refine ⟨_, u2 (u2 I1 160 (1030 + 4 * p) v) 162 (1030 + 4 * p) (nI (eN G p + 1)), uc J (mX M) 0, M', d', hni, l1, e, hS2, fun A'' hA hA2 => ?_, fun k => ((if_neg (fun z => by have := z.2; omega)).trans (if_neg (fun z => by have := z.2; omega))).trans (e416 k), ?_⟩
  · obtain ⟨tq, tv⟩ := hN1
    refine ⟨fun c hc => ?_, fun i hi => ((if_neg (fun z => by have := z.2; omega)).trans (if_neg (fun z => by have := z.2; omega))).trans (tv i hi)⟩
    · obtain ⟨c1, c2, c3, c4, c5⟩ := tq c hc
      refine ⟨fun k hk => ?_, ?_, ?_, c4, c5⟩
      · show A'' (hp c) k = nI (if c = p ∧ k < 25 then eH G c k - tlN f l k else eH G c k)
        by_cases y : c = p
        · subst y
          rw [if_pos ⟨rfl, hk⟩]
          exact hA k hk
        · rw [if_neg (fun z => y z.1), hA2 _ (h.2.2.1 c hc).2.2.2.2 (fun z => y (h.2.2.2.1 c p hc hp4 z))]
          exact c1 k hk
      · by_cases y : c = p
        · subst y
          rw [u1_at]
          have e1 : eN (gSet G c f l) c = eN G c + 1 := u1_at _ _ _
          have e2 : eV (gSet G c f l) c (eN G c) = 100 * f + l := if_pos ⟨rfl, rfl⟩
          rw [e1]
          refine RNv.add (I := I1) c2 a (u2_at _ _ _ _) (fun o _ _ => ⟨rfl, rfl⟩) (fun j hj => if_neg (fun z => by have := z.2; omega)) (hS.ad4 a) ⟨?_, ?_, ?_, ?_⟩
          · rw [(a.2.2.2.2.2.2 (mX M) (Nat.lt_succ_self _)).1]; exact k11
          · exact Nat.lt_of_lt_of_le (Nat.lt_succ_self _) a.1.1
          · rw [e2]
            refine Eq.trans ?_ (e352.trans (congrArg nI (by omega)))
            rfl
          · rw [e2]
            refine Eq.trans ?_ (e353.trans (congrArg nI (by omega)))
            rfl
        · have ne : 1030 + 4 * c ≠ 1030 + 4 * p := by omega
          have e1 : eN (gSet G p f l) c = eN G c := u1_ne _ _ y
          have e2 : eV (gSet G p f l) c = eV G c := funext fun j => if_neg (fun z => y z.1)
          rw [u1_ne _ _ ne, e1, e2]
          exact RNv.ad (I := I1) c2 a (hS.ad_ne hl9 ⟨c, hc, Or.inl rfl⟩ ne a) (hS.d_lt ⟨c, hc, Or.inl rfl⟩) ((if_neg (fun z => ne z.2)).trans rfl) (fun o _ _ => ⟨rfl, rfl⟩)
      · have ne : 1031 + 4 * c ≠ 1030 + 4 * p := by omega
        rw [u1_ne _ _ ne]
        exact RNr.ad (I := I1) c3 a (hS.ad_ne hl9 ⟨c, hc, Or.inr rfl⟩ ne a) (hS.d_lt ⟨c, hc, Or.inr rfl⟩) ((if_neg (fun z => ne z.2)).trans rfl)
  · have q1 : mX M + 1 ≤ mX M' := a.1.1
    have q2 : mX M' ≤ mX M + 1 + 1 := a.1.2.1
    have q3 : mS M' ≤ mS M + 2 + 100 := a.1.2.2
    omega
/-- whether a four goes -/
def fOk (G : zG) (c : Nat) : Prop := eS G 4 = 1 ∧ eC G (eS G 5) = false ∧ 4 ≤ eH G (eS G 5) c ∧ gF4 G = true
theorem r_four_bad (h : RS M hp dl) {i : Int32} (y : oBad i) : f_X7_four 1026 i (cs I J A M) = some (0, cs (th 1 I) J A M) := by
  have e := r_start (I := I) (J := J) (A := A) h true 1 (by decide) (by decide)
  have e' : f_X7_start 1026 1 1 (cs I J A M) = some (1, cs (th 1 I) J A M) := e
  unfold f_X7_four f_X7_four_0
  rw [r_kind_bad y, Option.bind_some]
  dsimp only
  rw [if_pos rfl]
  unfold f_X7_four_13
  rw [if_pos (show mK (cs I J A M) 1026 = 13 from h.1.1), e', Option.bind_some]
  dsimp only
  rw [if_neg (show ¬ (1 : Int32) = 0 by decide)]
theorem tlN3 (l k : Nat) : tlN 3 l k = if k = l then 4 else 0 := by
  unfold tlN
  rw [if_neg (by decide)]
  split <;> rfl
theorem r_four_76 (h : RS M hp dl) (hn : RN I J A M G hp dl) (hw : WF G) (hz : WZ G) {c : Nat} (hc : c < 25) (hO : fOk G c) : ∃ I' J' A' M' dl', f_X7_four_76 1026 (nI c) 0 1026 (cs (th 0 I) J A M) = some (nI (gK G (99 - eS G 3)), cs I' J' A' M') ∧ RS M' hp dl' ∧ RN I' J' A' M' (gDF (gSet G (eS G 5) 3 c)) hp dl' ∧ I' 416 1026 = 0 ∧ (mX M' ≤ mX M + 2 ∧ mS M' ≤ mS M + 102) := by
  have k := h.1.1
  have hn1 := hn.th 0
  have ht : eS G 5 < 4 := hw.2.2.2.2.2.1
  have hs1 := h.2.1 _ ht
  have hh := h.2.2.1 _ ht
  obtain ⟨p1, -⟩ := hn1.2.1 _ ht
  have hle := (hw.2.2.2.2.2.2.2.2.2.2 _ ht).1 c hc
  have e := r_refuse (I := I) (J := J) (A := A) h false 2 (by decide) (by decide)
  have e' : f_X7_refuse 1026 0 2 (cs (th 0 I) J A M) = some (0, cs (th 0 I) J A M) := e
  have em : nI (eH G (eS G 5) c) - 4 = nI (eH G (eS G 5) c - 4) := pk_sub (a := eH G (eS G 5) c) (b := 4) hO.2.2.1
  obtain ⟨N1, I', J', M', d', q1, q2, q3, q4, q5, q6, q7⟩ := r_lay1 (A := u2 A (hp (eS G 5)) c (nI (eH G (eS G 5) c - 4))) (p := eS G 5) (f := 3) (l := c) h hn1.2 ht hc (by decide) (hw.2.2.2.2.2.2.2.2.2.2 _ ht).2.1
  have q1' : f_X5_init (mX (cs (th 0 I) J (u2 A (hp (eS G 5)) c (nI (eH G (eS G 5) c - 4))) M)) (nI c) 3 (nO (cs (th 0 I) J (u2 A (hp (eS G 5)) c (nI (eH G (eS G 5) c - 4))) M) 11 2) = some ((), N1) := q1
  have q3' : f_Jx4a65c_add_9ea2d (1030 + 4 * eS G 5) (mX (cs (th 0 I) J (u2 A (hp (eS G 5)) c (nI (eH G (eS G 5) c - 4))) M)) N1 = some (1, cs I' J' (u2 A (hp (eS G 5)) c (nI (eH G (eS G 5) c - 4))) M') := q3
  have hNQ := q5 (u2 A (hp (eS G 5)) c (nI (eH G (eS G 5) c - 4))) (fun j hj => by
    rw [tlN3]
    by_cases y : j = c
    · rw [y, u2_at, if_pos rfl]
    · rw [if_neg y, Nat.sub_zero, ← p1 j hj]
      exact if_neg (fun z => y z.2)) (fun b hb hne => funext fun j => if_neg (fun z => hne z.1))
  have hN : RN I' J' (u2 A (hp (eS G 5)) c (nI (eH G (eS G 5) c - 4))) M' (gSet G (eS G 5) 3 c) hp (u1 dl (1030 + 4 * eS G 5) d') := ⟨RNs.tr (G := gSet G (eS G 5) 3 c) (I := th 0 I) (A := A) hn1.1 q6 (fun t _ => if_neg (fun z => hh.2.2.2.1 z.1.symm)), hNQ⟩
  have hN2 : eN G (eS G 5) ≤ 3 := (hw.2.2.2.2.2.2.2.2.2.2 _ ht).2.1
  unfold f_X7_four_76
  rw [if_pos (show mK (cs (th 0 I) J A M) 1026 = 13 from k), e', Option.bind_some]
  dsimp only
  rw [if_pos rfl, if_pos (show mK (cs (th 0 I) J A M) 1026 = 13 from k), r_its h ht hn1.1.2.1, Option.bind_some]
  dsimp only
  rw [gR_cs 386 hs1.1 hs1.2.1, Option.bind_some, lA_cs hh.1 (by rw [hh.2.1]; exact hc) (by rw [hh.2.1]; decide), Option.bind_some, p1 c hc, em, tA_cs hh.1 (by rw [hh.2.1]; exact hc) (by rw [hh.2.1]; decide), Option.bind_some, if_pos (show mK (cs (th 0 I) J _ M) 1026 = 13 from k), r_its h ht hn1.1.2.1, Option.bind_some]
  dsimp only
  rw [gR_cs 387 hs1.1 hs1.2.2.1, Option.bind_some, q1', Option.bind_some]
  dsimp only
  rw [if_pos q2, q3', Option.bind_some]
  dsimp only
  have hge := sn_ge (eH G (eS G 5)) c 25 0 (Nat.zero_le _) (by omega)
  have hz5 := hz _ ht
  have hc4 := hO.2.2.1
  have hWs : WF (gSet G (eS G 5) 3 c) := hw.set (by omega)
  obtain ⟨I2, A2, r1, r2, r3⟩ := r_drawLast (I := I') (J := J') (A := u2 A (hp (eS G 5)) c (nI (eH G (eS G 5) c - 4))) (G := gSet G (eS G 5) 3 c) q4 hN hWs hO.1 hO.2.2.2
  have r1' : f_X7_drawLast 1026 (cs I' J' (u2 A (hp (eS G 5)) c (nI (eH G (eS G 5) c - 4))) M') = some (nI (gK G (99 - eS G 3)), cs I2 J' A2 M') := r1
  rw [if_pos (show mK (cs I' J' _ M') 1026 = 13 from q4.1.1), r1', Option.bind_some]
  exact ⟨I2, J', A2, M', _, rfl, q4, r2, r3.trans (q6 416), by omega, by omega⟩
theorem r_four (h : RS M hp dl) (hn : RN I J A M G hp dl) (hw : WF G) (hz : WZ G) (hd : WD G) {c : Nat} (hc : c < 25) : (fOk G c ∧ ∃ I' J' A' M' dl', f_X7_four 1026 (nI c) (cs I J A M) = some (nI (gK G (99 - eS G 3)), cs I' J' A' M') ∧ RS M' hp dl' ∧ RN I' J' A' M' (gDF (gSet G (eS G 5) 3 c)) hp dl' ∧ I' 416 1026 = 0 ∧ (mX M' ≤ mX M + 2 ∧ mS M' ≤ mS M + 102)) ∨ (¬ fOk G c ∧ f_X7_four 1026 (nI c) (cs I J A M) = some (0, cs (th 2 I) J A M)) := by
  have k := h.1.1
  have hn1 := hn.th 0
  have ht : eS G 5 < 4 := hw.2.2.2.2.2.1
  have hw4 : eS G 4 < 4 := hw.2.2.2.2.1
  have hs1 := h.2.1 _ ht
  have hh := h.2.2.1 _ ht
  obtain ⟨p1, p2, p3, p4, p5⟩ := hn1.2.1 _ ht
  have hle := (hw.2.2.2.2.2.2.2.2.2.2 _ ht).1 c hc
  have e := r_start (I := I) (J := J) (A := A) h false 1 (by decide) (by decide)
  have e' : f_X7_start 1026 0 1 (cs I J A M) = some (0, cs (th 0 I) J A M) := e
  have er := r_refuse (I := I) (J := J) (A := A) h true 2 (by decide) (by decide)
  have er' : f_X7_refuse 1026 1 2 (cs (th 0 I) J A M) = some (1, cs (th 2 I) J A M) := er
  have h64 : f_X7_four_64 1026 (nI c) (cs (th 0 I) J A M) = some (0, cs (th 2 I) J A M) := by
    unfold f_X7_four_64 f_X7_four_65
    rw [if_pos rfl]
    unfold f_X7_four_76
    rw [if_pos (show mK (cs (th 0 I) J A M) 1026 = 13 from k), er', Option.bind_some]
    dsimp only
    rw [if_neg (show ¬ (1 : Int32) = 0 by decide)]
  have start : f_X7_four 1026 (nI c) (cs I J A M) = f_X7_four_13 1026 (nI c) 0 1026 (cs I J A M) := by
    unfold f_X7_four f_X7_four_0
    rw [r_kind_ok hc, Option.bind_some]
    dsimp only
    rw [if_neg (show ¬ (1 : Int32) = 0 by decide)]
  rw [start]
  unfold f_X7_four_13
  rw [if_pos (show mK (cs I J A M) 1026 = 13 from k), e', Option.bind_some]
  dsimp only
  rw [if_pos rfl, gI_cs 422 k, Option.bind_some, show th 0 I 422 1026 = nI (eS G 4) from hn.1.1]
  by_cases y1 : eS G 4 = 1
  · rw [y1, if_pos (show nI 1 = 1 from rfl), if_pos (show mK (cs (th 0 I) J A M) 1026 = 13 from k), r_its h ht hn1.1.2.1, Option.bind_some]
    dsimp only
    rw [gI_cs 390 hs1.1, Option.bind_some, p5]
    by_cases y3 : eC G (eS G 5) = true
    · rw [y3, if_neg (show ¬ b32 true = 0 by decide), h64]
      exact Or.inr ⟨fun z => absurd (z.2.1.symm.trans y3) (by decide), rfl⟩
    · have y3' : eC G (eS G 5) = false := by cases hx : eC G (eS G 5); rfl; exact absurd hx y3
      rw [y3', if_pos (show b32 false = 0 from rfl), if_pos (show mK (cs (th 0 I) J A M) 1026 = 13 from k), r_its h ht hn1.1.2.1, Option.bind_some]
      dsimp only
      rw [gR_cs 386 hs1.1 hs1.2.1, Option.bind_some, lA_cs hh.1 (by rw [hh.2.1]; exact hc) (by rw [hh.2.1]; decide), Option.bind_some, p1 c hc]
      by_cases y2 : eH G (eS G 5) c = 4
      · rw [if_pos (show nI (eH G (eS G 5) c) = 4 by rw [y2]; rfl), if_pos (show mK (cs (th 0 I) J A M) 1026 = 13 from k), r_mayFour h hn1 hw hd, Option.bind_some]
        dsimp only
        by_cases y4 : gF4 G = true
        · rw [y4, if_neg (show ¬ b32 true = 0 by decide)]
          unfold f_X7_four_65
          rw [if_neg (show ¬ (1 : Int32) = 0 by decide)]
          exact Or.inl ⟨⟨y1, y3', by omega, y4⟩, r_four_76 h hn hw hz hc ⟨y1, y3', by omega, y4⟩⟩
        · have y4' : gF4 G = false := by cases hx : gF4 G; rfl; exact absurd hx y4
          rw [y4', if_pos (show b32 false = 0 from rfl), h64]
          exact Or.inr ⟨fun z => y4 z.2.2.2, rfl⟩
      · rw [if_neg (eq_f (y := 4) _ 4 y2 (by omega) (by decide)), h64]
        exact Or.inr ⟨fun z => y2 (by have := z.2.2.1; omega), rfl⟩
  · rw [if_neg (eq_f (y := 1) (eS G 4) 1 y1 (by omega) (by decide)), h64]
    exact Or.inr ⟨fun z => y1 z.1, rfl⟩
end RFOUR
