/-! ===== PURE, THE REFERENCE: what a longer list leaves; a tile goes into the river ===== -/
theorem u2_at {α : Type} (f : Nat → Nat → α) (k a : Nat) (v : α) : u2 f k a v k a = v := if_pos ⟨rfl, rfl⟩
theorem isL_lt {l : Nat} (h : isL l) : 1030 ≤ l ∧ l ≤ 1043 := by
  obtain ⟨p, hp, q⟩ := h
  omega
section ADD
variable {I I' : Nat → Nat → Int32} {J : Nat → Nat → Int64} {A : Nat → Nat → Int32} {M M' : zM} {G : zG} {hp dl : Nat → Nat} {l l' d d' d2 n n2 x : Nat} {v v' : Nat → Nat}
theorem AD.ne (a : AD M M' l d d' n x) {b : Nat} (hb : b < mX M) (hk : mK M b ≠ 110) : b ≠ d' := fun e => by
  rcases a.2.2.2.2.2.1 with ⟨q1, q2⟩ | q
  · exact hk (by rw [e, q1]; exact q2)
  · omega
theorem RS.list (h : RS M hp dl) (hl : isL l) : mK M l = 5 ∧ mR M 161 l = some (dl l) ∧ l < mX M := by
  obtain ⟨p, hp4, q⟩ := hl
  have k := h.2.1 p hp4
  have kx := h.2.2.2.2.2.2.2
  rcases q with rfl | rfl
  · exact ⟨k.2.2.2.2.1, (h.2.2.2.2.1 _ ⟨p, hp4, Or.inl rfl⟩).1, by omega⟩
  · exact ⟨k.2.2.2.2.2, (h.2.2.2.2.1 _ ⟨p, hp4, Or.inr rfl⟩).1, by omega⟩
theorem RS.ad (h : RS M hp dl) (hl : isL l) (a : AD M M' l (dl l) d' n x) : RS M' hp (u1 dl l d') := by
  have hl9 := isL_lt hl
  have a' := a
  obtain ⟨⟨x1, x2, x3⟩, ar, ⟨ad1, ad2, ad3, ad4⟩, aq, ao, acase, ab⟩ := a
  have hs := h
  obtain ⟨⟨m1, m2, m3, m4, m5, m6, m7, m8⟩, hpl, hh, hinj, hd, hdj, ⟨⟨j1, j2⟩, ⟨j3, j4, j5⟩, j6⟩, hX⟩ := h
  have kk : ∀ b, b < 1046 → mK M' b = mK M b ∧ mL M' b = mL M b ∧ (∀ k, (k ≠ 161 ∨ b ≠ l) → mR M' k b = mR M k b) ∧ (b ≠ d' → mQ M' b = mQ M b) := fun b hb => ab b (by omega)
  refine ⟨⟨(kk _ (by decide)).1.trans m1, ((kk _ (by decide)).2.2.1 417 (Or.inl (by decide))).trans m2, ((kk _ (by decide)).2.2.1 418 (Or.inl (by decide))).trans m3, (kk _ (by decide)).1.trans m4, (kk _ (by decide)).2.1.trans m5, fun p hp4 => ?_, (kk _ (by decide)).1.trans m7, (kk _ (by decide)).2.1.trans m8⟩, fun p hp4 => ?_, fun p hp4 => ?_, hinj, fun b hb => ?_, fun b c hb hc e => ?_, ⟨⟨(kk _ (by decide)).1.trans j1, (kk _ (by decide)).2.1.trans j2⟩, ⟨(kk _ (by decide)).1.trans j3, (kk _ (by decide)).2.1.trans j4, fun i hi => ?_⟩, fun i hi => (kk _ (by omega)).1.trans (j6 i hi)⟩, by omega⟩
  · rw [(kk 1027 (by decide)).2.2.2 (a'.ne (by omega) (by rw [m4]; decide))]
    exact m6 p hp4
  · obtain ⟨a1, a2, a3, a4, a5, a6⟩ := hpl p hp4
    exact ⟨(kk _ (by omega)).1.trans a1, ((kk _ (by omega)).2.2.1 386 (Or.inl (by decide))).trans a2, ((kk _ (by omega)).2.2.1 387 (Or.inl (by decide))).trans a3, ((kk _ (by omega)).2.2.1 388 (Or.inl (by decide))).trans a4, (kk _ (by omega)).1.trans a5, (kk _ (by omega)).1.trans a6⟩
  · obtain ⟨a1, a2, a3, a4, a5⟩ := hh p hp4
    exact ⟨(ab _ a5).1.trans a1, (ab _ a5).2.1.trans a2, a3, a4, by omega⟩
  · by_cases y : b = l
    · subst y
      rw [u1_at]
      refine ⟨ar, Or.inr ⟨?_, ad4, ad1, ad3, by omega⟩⟩
      rcases acase with ⟨q1, q2⟩ | q
      · rcases (hd b hl).2 with z | z
        · rw [z, j1] at q2; omega
        · omega
      · omega
    · rw [u1_ne _ _ y]
      obtain ⟨e1, e2⟩ := hd b hb
      refine ⟨((ab b (by have := isL_lt hb; omega)).2.2.1 161 (Or.inr y)).trans e1, e2.imp id fun ⟨z1, z2, z3, z4, z5⟩ => ⟨z1, by omega, (ab _ z2).1.trans z3, by rw [(ab _ z2).2.1]; exact z4, by rw [(ab _ z2).2.1]; exact z5⟩⟩
  · have key : ∀ c, isL c → c ≠ l → dl c = d' → dl c = 4 := fun c hc hne e => by
      rcases acase with ⟨q1, q2⟩ | q
      · rcases hdj c l hc hl (e.trans q1) with z | z
        · exact z
        · exact absurd z hne
      · rcases (hd c hc).2 with z | z
        · exact z
        · omega
    have d4 : d' ≠ 4 := fun e => by
      rcases acase with ⟨q1, q2⟩ | q
      · rw [← q1, e, j1] at q2; omega
      · omega
    by_cases y : b = l
    · by_cases z : c = l
      · exact Or.inr (y.trans z.symm)
      · rw [y, u1_at, u1_ne _ _ z] at e
        have := key c hc z e.symm
        exact absurd (e.trans this) d4
    · rw [u1_ne _ _ y] at e ⊢
      by_cases z : c = l
      · rw [z, u1_at] at e
        exact Or.inl (key b hb y e)
      · rw [u1_ne _ _ z] at e
        exact hdj b c hb hc e
  · rw [(kk 5 (by decide)).2.2.2 (a'.ne (by omega) (by rw [j3]; decide))]
    exact j5 i hi
theorem RNv.ad (h : RNv I M l' d2 n2 v) (a : AD M M' l d d' n x) (hne : d2 ≠ d') (hd2 : d2 < mX M) (hI : I' 162 l' = I 162 l') (hI2 : ∀ o, mK M o = 11 → o < mX M → I' 352 o = I 352 o ∧ I' 353 o = I 353 o) : RNv I' M' l' d2 n2 v := by
  obtain ⟨h1, h2, h3, h4⟩ := h
  have e := a.2.2.2.2.2.2 d2 hd2
  refine ⟨hI.trans h1, h2, fun z => by rw [e.2.1]; exact h3 z, fun j hj => ?_⟩
  obtain ⟨o, o1, o2, o3, o4, o5⟩ := h4 j hj
  obtain ⟨i1, i2⟩ := hI2 o o2 o3
  exact ⟨o, by rw [e.2.2.2 hne]; exact o1, (a.2.2.2.2.2.2 o o3).1.trans o2, Nat.lt_of_lt_of_le o3 a.1.1, i1.trans o4, i2.trans o5⟩
theorem RNr.ad (h : RNr I M l' d2 n2 v) (a : AD M M' l d d' n x) (hne : d2 ≠ d') (hd2 : d2 < mX M) (hI : I' 162 l' = I 162 l') : RNr I' M' l' d2 n2 v := by
  obtain ⟨h1, h2, h3, h4⟩ := h
  have e := a.2.2.2.2.2.2 d2 hd2
  exact ⟨hI.trans h1, h2, fun z => by rw [e.2.1]; exact h3 z, fun j hj => by rw [e.2.2.2 hne]; exact h4 j hj⟩
theorem RNr.add {k : Nat} (h : RNr I M l d n v) (a : AD M M' l d d' n (228 + k)) (hI : I' 162 l = nI (n + 1)) (hv : v' n = k) (hv2 : ∀ j, j < n → v' j = v j) (h4 : d' ≠ 4) : RNr I' M' l d' (n + 1) v' := by
  refine ⟨hI, fun e => absurd e h4, fun _ => a.2.2.1.2.1, fun j hj => ?_⟩
  by_cases y : j = n
  · rw [y, a.2.2.2.1, hv]
  · rw [a.2.2.2.2.1 j (by omega), h.2.2.2 j (by omega), hv2 j (by omega)]
theorem RNv.add (h : RNv I M l d n v) (a : AD M M' l d d' n x) (hI : I' 162 l = nI (n + 1)) (hI2 : ∀ o, mK M o = 11 → o < mX M → I' 352 o = I 352 o ∧ I' 353 o = I 353 o) (hv2 : ∀ j, j < n → v' j = v j) (h4 : d' ≠ 4) (hx : mK M' x = 11 ∧ x < mX M' ∧ I' 352 x = nI (v' n % 100) ∧ I' 353 x = nI (v' n / 100)) : RNv I' M' l d' (n + 1) v' := by
  refine ⟨hI, fun e => absurd e h4, fun _ => a.2.2.1.2.1, fun j hj => ?_⟩
  by_cases y : j = n
  · subst y
    exact ⟨x, a.2.2.2.1, hx⟩
  · obtain ⟨o, o1, o2, o3, o4, o5⟩ := h.2.2.2 j (by omega)
    obtain ⟨i1, i2⟩ := hI2 o o2 o3
    exact ⟨o, (a.2.2.2.2.1 j (by omega)).trans o1, (a.2.2.2.2.2.2 o o3).1.trans o2, Nat.lt_of_lt_of_le o3 a.1.1, by rw [i1, hv2 j (by omega)]; exact o4, by rw [i2, hv2 j (by omega)]; exact o5⟩
/-- where a list stands, one more can be put -/
theorem RS.addc (h : RS M hp dl) (hl : isL l) (h1 : dl l = 4 → n = 0) (h2 : dl l ≠ 4 → n ≤ mL M (dl l)) : (dl l = 4 ∧ n = 0 ∧ mK M 4 = 210 ∧ mL M 4 = 0) ∨ (mK M (dl l) = 110 ∧ n ≤ mL M (dl l) ∧ mL M (dl l) ≤ 1000 ∧ 0 < mL M (dl l) ∧ dl l < mX M) := by
  rcases (h.2.2.2.2.1 l hl).2 with z | ⟨z1, z2, z3, z4, z5⟩
  · exact Or.inl ⟨z, h1 z, h.2.2.2.2.2.2.1.1⟩
  · exact Or.inr ⟨z3, h2 (by omega), z4, z5, z2⟩
theorem RS.d_lt (h : RS M hp dl) (hl : isL l) : dl l < mX M := by
  rcases (h.2.2.2.2.1 l hl).2 with z | z
  · have := h.2.2.2.2.2.2.2; omega
  · exact z.2.1
theorem RS.ad_ne (h : RS M hp dl) (hl : isL l) (hl' : isL l') (hne : l' ≠ l) (a : AD M M' l (dl l) d' n x) : dl l' ≠ d' := fun e => by
  have k4 := h.2.2.2.2.2.2.1.1.1
  rcases a.2.2.2.2.2.1 with ⟨q1, q2⟩ | q
  · rcases h.2.2.2.2.2.1 l' l hl' hl (e.trans q1) with z | z
    · rw [← q1, ← e, z, k4] at q2; omega
    · exact hne z
  · have := h.d_lt hl'; omega
theorem RS.ad4 (h : RS M hp dl) (a : AD M M' l (dl l) d' n x) : d' ≠ 4 := fun e => by
  have k4 := h.2.2.2.2.2.2.1.1.1
  have := h.2.2.2.2.2.2.2
  rcases a.2.2.2.2.2.1 with ⟨q1, q2⟩ | q
  · rw [← q1, e, k4] at q2; omega
  · omega
theorem r_valueOf (h : RS M hp dl) {k : Nat} (hk : k < 25) : f_J6_valueOf_2dffe (nI k) (cs I J A M) = some (228 + k, cs I J A M) := by
  unfold f_J6_valueOf_2dffe f_J6_valueOf_2dffe_0
  have e1 : ¬ nI k < -128 := fun q => nI_nn (n := k) (by omega) (Int32.lt_trans q (by decide))
  have e2 : nI k + 128 = nI (k + 128) := nI_add k 128
  obtain ⟨j1, j2, j3⟩ := h.2.2.2.2.2.2.1.2.1
  have e3 : lQ 3 (cs I J A M) 5 (nI (k + 128)) = some (228 + k) := by
    have e : lQ 3 (cs I J A M) 5 (nI (k + 128)) = mQ M 5 (nI (k + 128)).toNatClampNeg := if_pos ⟨Or.inr j1, nI_oob (by show k + 128 < mL M 5; omega) (by show mL M 5 < _; omega)⟩
    rw [e, nI_cl (by omega), j3 (k + 128) (by omega)]
    exact congrArg some (by omega)
  rw [if_neg e1, if_neg (lt_f (x := 127) 127 k (by omega) (by decide)), e2, e3, Option.bind_some]
theorem lst_riv (G : zG) (k : Nat) : lst (gRiv G k) = k := by
  show u2 (eR G) (eS G 5) (eM G (eS G 5)) k (eS G 5) (u1 (eM G) (eS G 5) (eM G (eS G 5) + 1) (eS G 5) - 1) = k
  rw [u1_at]
  exact if_pos ⟨rfl, Nat.add_sub_cancel _ _⟩
theorem r_away (h : RS M hp dl) (hn : RN I J A M G hp dl) (hw : WF G) {k : Nat} (hk : k < 25) (hH : eH G (eS G 5) k ≠ 0) : ∃ I' J' A' M' dl', f_X7_away 1026 (nI k) (cs I J A M) = some (nI (eM G (eS G 5) + 1), cs I' J' A' M') ∧ RS M' hp dl' ∧ RN I' J' A' M' (gRiv G k) hp dl' ∧ I' 416 1026 = I 416 1026 ∧ I' 384 = I 384 ∧ (mX M' ≤ mX M + 1 ∧ mS M' ≤ mS M + 100) := by
  have ht : eS G 5 < 4 := hw.2.2.2.2.2.1
  obtain ⟨w1, w2, w3, w4⟩ := hw.2.2.2.2.2.2.2.2.2.2 _ ht
  have hn' := hn
  obtain ⟨⟨s1, s2, s3, s4, s5, s6, s7, s8⟩, q, vv⟩ := hn
  obtain ⟨n1, n2, n3, n4, n5⟩ := q _ ht
  have hs1 := h.2.1 _ ht
  have hh := h.2.2.1 _ ht
  have hl : isL (1031 + 4 * eS G 5) := ⟨_, ht, Or.inr rfl⟩
  obtain ⟨l1, l2, l3⟩ := h.list hl
  have em : nI (eH G (eS G 5) k) - 1 = nI (eH G (eS G 5) k - 1) := pk_sub (a := eH G (eS G 5) k) (b := 1) (Nat.pos_of_ne_zero hH)
  have hrow := hn'.hand h ht hk (v := eH G (eS G 5) k - 1)
  obtain ⟨v, d', M', e, a⟩ := r_add (I := I) (J := J) (A := u2 A (hp (eS G 5)) k (nI (eH G (eS G 5) k - 1))) (M := M) l1 l2 n3.1 l3 (by omega) (h.addc hl n3.2.1 n3.2.2.1) (fun j hj o ho => by
    rw [n3.2.2.2 j hj] at ho
    cases ho
    have := w4 j hj
    have hz := h.2.2.2.2.2.2.1.2.2 (128 + eR G (eS G 5) j) (by omega)
    have e9 : 228 + eR G (eS G 5) j = 100 + (128 + eR G (eS G 5) j) := by omega
    rw [e9]
    exact ⟨Or.inr hz, by have := h.2.2.2.2.2.2.2; omega⟩) (x := 228 + k) (Or.inr (by
    have hz := h.2.2.2.2.2.2.1.2.2 (128 + k) (by omega)
    have e9 : 228 + k = 100 + (128 + k) := by omega
    rw [e9]; exact hz)) (by have := h.2.2.2.2.2.2.2; omega)
  have hS := h.ad hl a
  have k12 : mK M' (1028 + 4 * eS G 5) = 12 := (hS.2.1 _ ht).1
  have k13 : mK M' 1026 = 13 := hS.1.1
  have hz : u2 (u2 (u2 (u2 I 160 (1031 + 4 * eS G 5) v) 162 (1031 + 4 * eS G 5) (nI (eM G (eS G 5) + 1))) 430 1026 (nI k)) 422 1026 2 162 (1031 + 4 * eS G 5) = nI (eM G (eS G 5) + 1) := u2_at (u2 I 160 (1031 + 4 * eS G 5) v) 162 _ _
  have k5 : ∀ I J A, mK (cs I J A M') (1031 + 4 * eS G 5) = 5 := fun _ _ _ => (hS.2.1 _ ht).2.2.2.2.2
  refine ⟨u2 (u2 (u2 (u2 I 160 (1031 + 4 * eS G 5) v) 162 (1031 + 4 * eS G 5) (nI (eM G (eS G 5) + 1))) 430 1026 (nI k)) 422 1026 2, u2 J 389 (1028 + 4 * eS G 5) (J 389 (1028 + 4 * eS G 5) ||| ((1 : Int64) <<< ((nI k).toInt64 &&& 63))), u2 A (hp (eS G 5)) k (nI (eH G (eS G 5) k - 1)), M', u1 dl (1031 + 4 * eS G 5) d', ?_, hS, ?_, rfl, funext fun b => rfl, by have := a.1; omega⟩
  · unfold f_X7_away f_X7_away_0
    rw [if_pos (show mK (cs I J A M) 1026 = 13 from h.1.1), r_its h ht s2, Option.bind_some]
    show (gR 12 2 (cs I J A M) (1028 + 4 * eS G 5)).bind _ = _
    rw [gR_cs 386 hs1.1 hs1.2.1, Option.bind_some, lA_cs hh.1 (by rw [hh.2.1]; exact hk) (by rw [hh.2.1]; decide), Option.bind_some, n1 k hk, em, tA_cs hh.1 (by rw [hh.2.1]; exact hk) (by rw [hh.2.1]; decide), Option.bind_some]
    show (gR 12 4 (cs I J _ M) (1028 + 4 * eS G 5)).bind _ = _
    rw [gR_cs 388 hs1.1 hs1.2.2.2.1, Option.bind_some, r_valueOf h hk, Option.bind_some, if_pos (show mK (cs I J _ M) (1031 + 4 * eS G 5) = 5 from l1), e, Option.bind_some]
    show (gJ 12 5 (cs _ J _ M') (1028 + 4 * eS G 5)).bind _ = _
    rw [gJ_cs 389 k12, Option.bind_some, pJ_cs 389 k12, Option.bind_some, pI_cs 430 k13, Option.bind_some, pI_cs 422 k13, Option.bind_some]
    show (gR 12 4 (cs _ _ _ M') (1028 + 4 * eS G 5)).bind _ = _
    rw [gR_cs 388 k12 (hS.2.1 _ ht).2.2.2.1, Option.bind_some, if_pos (k5 _ _ _), r_size (n := eM G (eS G 5) + 1) (hS.2.1 _ ht).2.2.2.2.2 hz, Option.bind_some]
  · obtain ⟨⟨t1, t2, t3, t4, t5, t6, t7, t8⟩, tq, tv⟩ := hrow
    refine ⟨(show RNs (u2 (u2 (u2 (u2 I 160 (1031 + 4 * eS G 5) v) 162 (1031 + 4 * eS G 5) (nI (eM G (eS G 5) + 1))) 430 1026 (nI k)) 422 1026 2) (u2 A (hp (eS G 5)) k (nI (eH G (eS G 5) k - 1))) (gRiv G k) from ⟨rfl, t2, t3, t4, t5, t6, fun z => absurd z (show ¬ (2 : Nat) = 1 by decide), fun _ => by rw [lst_riv]; rfl⟩), fun c hc => ?_, tv⟩
    obtain ⟨c1, c2, c3, c4, c5⟩ := tq c hc
    refine ⟨c1, ?_, ?_, ?_, c5⟩
    · have ne : (1030 + 4 * c) ≠ 1031 + 4 * eS G 5 := by omega
      rw [u1_ne _ _ ne]
      refine RNv.ad (I := I) c2 a (h.ad_ne hl ⟨c, hc, Or.inl rfl⟩ ne a) (h.d_lt ⟨c, hc, Or.inl rfl⟩) ?_ (fun o _ _ => ⟨rfl, rfl⟩)
      show u2 (u2 I 160 _ v) 162 _ _ 162 _ = _
      exact (if_neg (fun z => ne z.2)).trans rfl
    · by_cases y : c = eS G 5
      · subst y
        rw [u1_at]
        have em2 : eM (gRiv G k) (eS G 5) = eM G (eS G 5) + 1 := u1_at _ _ _
        rw [em2]
        refine RNr.add (I := I) c3 a ?_ (if_pos ⟨rfl, rfl⟩) (fun j hj => if_neg (fun z => by have := z.2; omega)) (h.ad4 a)
        exact u2_at (u2 I 160 _ v) 162 _ _
      · have ne : (1031 + 4 * c) ≠ 1031 + 4 * eS G 5 := by omega
        have em2 : eM (gRiv G k) c = eM G c := u1_ne _ _ y
        have er2 : eR (gRiv G k) c = eR G c := funext fun j => if_neg (fun z => y z.1)
        rw [u1_ne _ _ ne, em2, er2]
        refine RNr.ad (I := I) c3 a (h.ad_ne hl ⟨c, hc, Or.inr rfl⟩ ne a) (h.d_lt ⟨c, hc, Or.inr rfl⟩) ?_
        show u2 (u2 I 160 _ v) 162 _ _ 162 _ = _
        exact (if_neg (fun z => ne z.2)).trans rfl
    · show u2 J 389 (1028 + 4 * eS G 5) _ 389 (1028 + 4 * c) = u1 (eD G) (eS G 5) _ c
      by_cases y : c = eS G 5
      · subst y
        rw [u1_at]
        refine (if_pos ⟨rfl, rfl⟩).trans ?_
        rw [n4]
      · rw [u1_ne _ _ y]
        exact (if_neg (fun z => y (by have := z.2; omega))).trans c4
end ADD
