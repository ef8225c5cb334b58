/-! ===== PURE, THE REFERENCE: what is asked, 3: many, lead, worth, best, outs ===== -/
section RASK3
variable {M M0 : zM} {G : zG} {hp dl : Nat → Nat}
theorem r_leftE (k : mK M 1026 = 13) : ∃ v, f_X7_left 1026 M = some (v, M) := by
  unfold f_X7_left f_X7_left_0
  rw [e_gI 424 k, Option.bind_some]
  split
  · exact ⟨0, rfl⟩
  · rw [e_gI 420 k, Option.bind_some, e_gI 419 k, Option.bind_some]
    exact ⟨_, rfl⟩
/-- a row of ten is being filled -/
def AM (M M' : zM) : Prop := KM 1 10 M M' ∧ mK M' (mX M) = 100 ∧ mL M' (mX M) = 10 ∧ mK M' 1026 = 13
theorem AM.t {M' : zM} (h : AM M M') {i : Nat} (hi : i < 10) (v : Int32) : tA M' (mX M) (nI i) v = some (sA M' (mX M) i v) ∧ AM M (sA M' (mX M) i v) :=
  ⟨e_tA h.2.1 (by rw [h.2.2.1]; exact hi) (by rw [h.2.2.1]; decide), h.1.sA (Nat.le_refl _) _ _, h.2⟩
theorem r_many_62 {M' : zM} (h : AM M M') {j i : Nat} (hj : j < 10) (hi : i < 10) (v : Int32) : ∃ u M'', f_X7_manyNow_62 1026 (nI j) v (nI i) (mX M) (mX M) M' = some (u, M'') ∧ KM 1 10 M M'' := by
  unfold f_X7_manyNow_62
  obtain ⟨e1, h1⟩ := h.t hi v
  rw [e1, Option.bind_some, e_gI 426 h1.2.2.2, Option.bind_some]
  generalize sA M' (mX M) i v = M1 at *
  obtain ⟨e2, h2⟩ := h1.t (i := 5) (by decide) (mI M1 426 1026)
  rw [show tA M1 (mX M) 5 (mI M1 426 1026) = _ from e2, Option.bind_some, e_gI 427 h2.2.2.2, Option.bind_some]
  generalize sA M1 (mX M) 5 (mI M1 426 1026) = M2 at *
  obtain ⟨e3, h3⟩ := h2.t (i := 6) (by decide) (mI M2 427 1026)
  rw [show tA M2 (mX M) 6 (mI M2 427 1026) = _ from e3, Option.bind_some, e_gI 425 h3.2.2.2, Option.bind_some]
  generalize sA M2 (mX M) 6 (mI M2 427 1026) = M3 at *
  obtain ⟨e4, h4⟩ := h3.t (i := 7) (by decide) (mI M3 425 1026)
  rw [show tA M3 (mX M) 7 (mI M3 425 1026) = _ from e4, Option.bind_some, e_gI 424 h4.2.2.2, Option.bind_some]
  generalize sA M3 (mX M) 7 (mI M3 425 1026) = M4 at *
  obtain ⟨e5, h5⟩ := h4.t (i := 8) (by decide) (mI M4 424 1026)
  rw [show tA M4 (mX M) 8 (mI M4 424 1026) = _ from e5, Option.bind_some, e_gI 428 h5.2.2.2, Option.bind_some]
  generalize sA M4 (mX M) 8 (mI M4 424 1026) = M5 at *
  obtain ⟨e6, h6⟩ := h5.t (i := 9) (by decide) (mI M5 428 1026)
  rw [show tA M5 (mX M) 9 (mI M5 428 1026) = _ from e6, Option.bind_some, e_lA h6.2.1 (by rw [h6.2.2.1]; exact hj) (by rw [h6.2.2.1]; decide), Option.bind_some]
  exact ⟨_, _, rfl, h6.1⟩
theorem r_many_29 {M' : zM} (h : AM M M') {j : Nat} (hj : j < 10) (v : Int32) : ∃ u M'', f_X7_manyNow_29 1026 (nI j) v 1 (mX M) (mX M) M' = some (u, M'') ∧ KM 1 10 M M'' := by
  unfold f_X7_manyNow_29
  obtain ⟨e1, h1⟩ := h.t (i := 1) (by decide) v
  rw [show tA M' (mX M) 1 v = _ from e1, Option.bind_some]
  generalize sA M' (mX M) 1 v = M1 at *
  obtain ⟨w, ew⟩ := r_leftE h1.2.2.2
  obtain ⟨e2, h2⟩ := h1.t (i := 2) (by decide) w
  rw [if_pos h1.2.2.2, ew, Option.bind_some]
  dsimp only
  rw [show tA M1 (mX M) 2 w = _ from e2, Option.bind_some, e_gI 421 h2.2.2.2, Option.bind_some]
  generalize sA M1 (mX M) 2 w = M2 at *
  obtain ⟨e3, h3⟩ := h2.t (i := 3) (by decide) (mI M2 421 1026)
  rw [show tA M2 (mX M) 3 (mI M2 421 1026) = _ from e3, Option.bind_some, e_gI 422 h3.2.2.2, Option.bind_some]
  generalize sA M2 (mX M) 3 (mI M2 421 1026) = M3 at *
  split
  · rw [e_gI 430 h3.2.2.2, Option.bind_some]
    exact r_many_62 (i := 4) h3 hj (by decide) _
  · exact r_many_62 (i := 4) h3 hj (by decide) _
theorem r_manyNow (h : RS M hp dl) (hn : RN (mI M) (mJ M) (mA M) M G hp dl) {j : Nat} (hj : j < 10) : RX 1 10 M G hp dl (f_X7_manyNow 1026 (nI j) M) := by
  have hX := h.2.2.2.2.2.2.2
  have h0 : AM M (nA M 0 10) := ⟨((KM.rf M).nA 0 10).w (by decide) (by decide), u1_at _ _ _, u1_at _ _ _, (if_neg (show ¬ 1026 = mX M by omega)).trans h.1.1⟩
  have key : ∃ u M'', f_X7_manyNow 1026 (nI j) M = some (u, M'') ∧ KM 1 10 M M'' := by
    unfold f_X7_manyNow f_X7_manyNow_0
    have ea : aA 0 M 10 = some (mX M, nA M 0 10) := e_aA (c := 10) (by decide) 0
    rw [ea, Option.bind_some]
    dsimp only
    generalize nA M 0 10 = M1 at *
    rw [e_gI 422 h0.2.2.2, Option.bind_some]
    obtain ⟨e1, h1⟩ := h0.t (i := 0) (by decide) (mI M1 422 1026)
    rw [show tA M1 (mX M) 0 (mI M1 422 1026) = _ from e1, Option.bind_some]
    generalize sA M1 (mX M) 0 (mI M1 422 1026) = M2 at *
    rw [e_gI 422 h1.2.2.2, Option.bind_some]
    split
    · exact r_many_29 h1 hj _
    · rw [e_gI 423 h1.2.2.2, Option.bind_some]
      exact r_many_29 h1 hj _
  obtain ⟨u, M'', e, k⟩ := key
  exact ⟨u, M'', e, RB.km h hn k⟩
theorem r_many (h : RS M hp dl) (hn : RN (mI M) (mJ M) (mA M) M G hp dl) (x : Int32) : RX 1 10 M G hp dl (f_X7_many 1026 x M) := by
  unfold f_X7_many f_X7_many_0
  have hb := RB.th h hn 0
  rw [r_isIn]
  have bad : RX 1 10 M G hp dl (f_X7_many_16 1026 x 1 1026 M) := by
    unfold f_X7_many_16
    rw [if_pos h.1.1, m11 h, Option.bind_some]
    dsimp only
    rw [if_neg (show ¬ (1 : Int32) = 0 by decide)]
    exact ⟨_, _, rfl, (RB.th h hn 1).w (by decide) (by decide)⟩
  rcases nI_all x with z | ⟨j, z1, rfl⟩
  · rw [if_pos z, Option.bind_some]
    exact bad
  · by_cases y : j < 10
    · rw [if_neg (nI_nn z1), if_neg (lt_f (x := 9) 9 j (by omega) (by decide)), Option.bind_some]
      dsimp only
      rw [if_neg (show ¬ (1 : Int32) = 0 by decide)]
      unfold f_X7_many_16
      obtain ⟨v, M1, e1, b1⟩ := r_manyNow (M := cs (th 0 (mI M)) (mJ M) (mA M) M) hb.1 hb.2.1 y
      rw [if_pos h.1.1, m10 h, Option.bind_some]
      dsimp only
      rw [if_pos rfl, if_pos (show mK (cs (th 0 (mI M)) (mJ M) (mA M) M) 1026 = 13 from h.1.1), e1, Option.bind_some]
      exact ⟨_, _, rfl, (hb.tr b1).w (by decide) (by decide)⟩
    · rw [if_neg (nI_nn z1), if_pos (lt_t (x := 9) 9 j (by omega) z1), Option.bind_some]
      exact bad
theorem r_lead_14 (h : RS M hp dl) {p : Nat} (hp4 : p < 4) : ∀ (d n i : Nat) (a : Int32), i + d = 4 → d < n → ∃ x y, f_X7_leadNow_14 n 1026 (nI p) a 1027 (nI 4) (nI i) M = some (FP.dsub (FP.i2d x) (FP.ddiv (FP.i2d y) (4616189618054758400 : UInt64)), M) := by
  intro d
  induction d with
  | zero =>
    intro n i a hi hn
    obtain ⟨n, rfl⟩ : ∃ m, n = m + 1 := ⟨n - 1, by omega⟩
    obtain ⟨q1, q2⟩ := r_players h hp4
    rw [f_X7_leadNow_14, if_pos (le_t 4 i (by omega) (by omega)), q1, Option.bind_some, q2, Option.bind_some, e_gI 384 (h.2.1 p hp4).1, Option.bind_some, if_pos (z_div4 _), if_pos (z_sub4 _ _)]
    exact ⟨_, _, rfl⟩
  | succ d ih =>
    intro n i a hi hn
    obtain ⟨n, rfl⟩ : ∃ m, n = m + 1 := ⟨n - 1, by omega⟩
    have hi4 : i < 4 := by omega
    obtain ⟨q1, q2⟩ := r_players h hi4
    rw [f_X7_leadNow_14, if_neg (le_f 4 i (by omega) (by decide)), q2, Option.bind_some, e_gI 384 (h.2.1 i hi4).1, Option.bind_some, nI_1]
    exact ih n (i + 1) _ (by omega) (by omega)
theorem r_leadNow (h : RS M hp dl) {p : Nat} (hp4 : p < 4) : ∃ x y, f_X7_leadNow 1026 (nI p) M = some (FP.dsub (FP.i2d x) (FP.ddiv (FP.i2d y) (4616189618054758400 : UInt64)), M) := by
  unfold f_X7_leadNow f_X7_leadNow_0
  rw [e_gR 417 h.1.1 h.1.2.1, Option.bind_some, e_gL (by rw [h.1.2.2.2.1]; decide) h.1.2.2.2.2.1, Option.bind_some]
  exact r_lead_14 h hp4 4 zN 0 0 rfl (by decide)
theorem r_lead (h : RS M hp dl) (hn : RN (mI M) (mJ M) (mA M) M G hp dl) (i1 : Int32) : RX 0 0 M G hp dl (f_X7_lead 1026 i1 M) := by
  unfold f_X7_lead f_X7_lead_0
  by_cases y : pBad i1
  · rw [r_noPl_bad y, Option.bind_some]
    dsimp only
    rw [if_pos h.1.1, m11 h, Option.bind_some]
    dsimp only
    rw [if_neg (show ¬ (1 : Int32) = 0 by decide)]
    exact ⟨_, _, rfl, RB.th h hn 1⟩
  · obtain ⟨p, hp4, rfl⟩ := pBad_no y
    obtain ⟨a, b, e⟩ := r_leadNow (M := cs (th 0 (mI M)) (mJ M) (mA M) M) h hp4
    rw [r_noPl_ok hp4, Option.bind_some]
    dsimp only
    rw [if_pos h.1.1, m10 h, Option.bind_some]
    dsimp only
    rw [if_pos rfl, if_pos (show mK (cs (th 0 (mI M)) (mJ M) (mA M) M) 1026 = 13 from h.1.1), e, Option.bind_some]
    exact ⟨_, _, rfl, RB.th h hn 0⟩
theorem wH_back (G : zG) (p k v : Nat) : wH (wH G p k v) p k (eH G p k) = G := by
  have e : u2 (u2 (eH G) p k v) p k (eH G p k) = eH G := by
    funext i j
    unfold u2
    by_cases z : i = p ∧ j = k
    · rw [if_pos z, z.1, z.2]
    · rw [if_neg z, if_neg z]
  show (eS G, u2 (u2 (eH G) p k v) p k (eH G p k), G.2.2) = G
  rw [e]
  rfl
theorem r_worth_25 (h : RS M hp dl) (hn : RN (mI M) (mJ M) (mA M) M G hp dl) (hq : WQ G) {p k : Nat} (hp4 : p < 4) (hk : k < 25) : RX 29 158 M G hp dl (f_X7_worth_25 1026 (nI p) (nI k) 0 1026 (cs (th 0 (mI M)) (mJ M) (mA M) M)) := by
  have k13 := h.1.1
  have hs := h.2.1 p hp4
  have hh := h.2.2.1 p hp4
  have hw1 := (hq.1.2.2.2.2.2.2.2.2.2.2 p hp4).1
  have hN3 := (hq.1.2.2.2.2.2.2.2.2.2.2 p hp4).2.1
  have hz := hq.2.2.2.2 p hp4
  obtain ⟨A', e1, f1⟩ := r_waitsG (I := th 0 (mI M)) (J := mJ M) (A := mA M) h (hn.th 0) hq.1 hp4
  unfold f_X7_worth_25
  rw [if_pos (show mK (cs (th 0 (mI M)) (mJ M) (mA M) M) 1026 = 13 from k13), f20 h, Option.bind_some]
  dsimp only
  rw [if_pos rfl, gR_cs 417 k13 h.1.2.1, Option.bind_some, h.pl hp4, Option.bind_some, if_pos (show mK (cs (th 0 (mI M)) (mJ M) (mA M) M) (1028 + 4 * p) = 12 from hs.1), e1, Option.bind_some]
  dsimp only
  by_cases y : (gW G p >>> ((nI k).toInt64 &&& 63)) &&& 1 = 0
  · rw [if_pos ((lg_cmp_0 _ _).mpr y)]
    exact ⟨_, _, rfl, h, f1, by show mX M ≤ mX M + 29; omega, by show mS M ≤ mS M + 158; omega⟩
  · have h7 : eS G 7 ≠ 0 := fun z => by
      have e0 := hq.2.2.2.1 z p hp4
      refine y ?_
      have eg : gW G p = 0 := by
        unfold gW wts
        exact if_neg (by omega)
      rw [eg]
      simp
    obtain ⟨-, -, -, lk, hlk25, hlk⟩ := f1.1.2.2.2.2.2.1 h7
    have hrow := (f1.2.1 p hp4).1 k hk
    have hk4 := hw1 k hk
    have f2 := f1.hand h hp4 hk (v := eH G p k + 1)
    have hgt : eH (wH G p k (eH G p k + 1)) p = u1 (eH G p) k (eH G p k + 1) := by
      funext j
      show u2 (eH G) p k (eH G p k + 1) p j = _
      unfold u2 u1
      by_cases z : j = k
      · rw [if_pos ⟨rfl, z⟩, if_pos z]
      · rw [if_neg (fun q => z q.2), if_neg z]
    have hsu := sn_u1 (eH G p) k (eH G p k + 1) 25 0 (Nat.zero_le _) (by omega)
    obtain ⟨r, M2, t1, t2⟩ := r_value (M := cs (th 0 (mI M)) (mJ M) (u2 A' (hp p) k (nI (eH G p k + 1))) M) (h.vb (G := wH G p k (eH G p k + 1)) f2.2 hp4 hN3 (fun j hj => hq.2.1 p hp4 j hj) hlk hlk25) h.1.2.1 (h.pl hp4) (g := u1 (eH G p) k (eH G p k + 1)) (fun j hj => by
      by_cases z : j = k
      · rw [z, u1_at]; omega
      · rw [u1_ne _ _ z]; have := hw1 j hj; omega) (by omega) (fun j hj => by
      have := (f2.2.1 p hp4).1 j hj
      rw [hgt] at this
      exact this) 0
    have hS2 := RS.st (M := cs (th 0 (mI M)) (mJ M) (u2 A' (hp p) k (nI (eH G p k + 1))) M) h (ST.km t2)
    have hN2 : RN (mI M2) (mJ M2) (mA M2) M2 (wH G p k (eH G p k + 1)) hp dl := RN.km (M := cs (th 0 (mI M)) (mJ M) (u2 A' (hp p) k (nI (eH G p k + 1))) M) f2 h t2
    have hs2 := hS2.2.1 p hp4
    have hh2 := hS2.2.2.1 p hp4
    have hrow2 : mA M2 (hp p) k = nI (eH G p k + 1) := ((hN2.2.1 p hp4).1 k hk).trans (congrArg nI (by rw [hgt, u1_at]))
    have hN3' := hN2.hand hS2 hp4 hk (v := eH G p k)
    rw [wH_back] at hN3'
    rw [if_neg (fun q => y ((lg_cmp_0 _ _).mp q)), gR_cs 386 hs.1 hs.2.1, Option.bind_some, lA_cs hh.1 (by rw [hh.2.1]; exact hk) (by rw [hh.2.1]; decide), Option.bind_some, hrow, nI_1, tA_cs hh.1 (by rw [hh.2.1]; exact hk) (by rw [hh.2.1]; decide), Option.bind_some, if_pos (show mK (cs (th 0 (mI M)) (mJ M) _ M) 1026 = 13 from k13), t1, Option.bind_some]
    dsimp only
    rw [e_gR 386 hs2.1 hs2.2.1, Option.bind_some, e_lA hh2.1 (by rw [hh2.2.1]; exact hk) (by rw [hh2.2.1]; decide), Option.bind_some, hrow2, show nI (eH G p k + 1) - 1 = nI (eH G p k) from nI_pred _, e_tA hh2.1 (by rw [hh2.2.1]; exact hk) (by rw [hh2.2.1]; decide), Option.bind_some]
    exact ⟨r, _, rfl, hS2, hN3', t2.1.2.1, t2.1.2.2⟩
theorem r_worth (h : RS M hp dl) (hn : RN (mI M) (mJ M) (mA M) M G hp dl) (hq : WQ G) (i1 i2 : Int32) : RX 29 158 M G hp dl (f_X7_worth 1026 i1 i2 M) := by
  unfold f_X7_worth f_X7_worth_0
  by_cases y : pBad i1
  · rw [r_noPl_bad y, Option.bind_some]
    dsimp only
    rw [if_pos h.1.1, m11 h, Option.bind_some]
    dsimp only
    rw [if_neg (show ¬ (1 : Int32) = 0 by decide)]
    exact ⟨_, _, rfl, (RB.th h hn 1).w (by decide) (by decide)⟩
  · obtain ⟨p, hp4, rfl⟩ := pBad_no y
    rw [r_noPl_ok hp4, Option.bind_some]
    dsimp only
    rw [if_pos h.1.1, m10 h, Option.bind_some]
    dsimp only
    rw [if_pos rfl]
    by_cases y2 : oBad i2
    · rw [r_kind_bad y2, Option.bind_some]
      dsimp only
      rw [if_pos rfl]
      unfold f_X7_worth_25
      rw [if_pos (show mK (cs (th 0 (mI M)) (mJ M) (mA M) M) 1026 = 13 from h.1.1), f21 h, Option.bind_some]
      dsimp only
      rw [if_neg (show ¬ (1 : Int32) = 0 by decide)]
      exact ⟨_, _, rfl, (RB.th h hn 2).w (by decide) (by decide)⟩
    · obtain ⟨k, hk, rfl⟩ := oBad_no y2
      rw [r_kind_ok hk, Option.bind_some]
      dsimp only
      rw [if_neg (show ¬ (1 : Int32) = 0 by decide)]
      exact r_worth_25 h hn hq hp4 hk
theorem r_best_25 (hq : WQ G) (ht : eS G 5 < 4) : ∀ (d n i : Nat) (b v : Int32) (M : zM), i + d = 25 → d < n → RB 0 0 M0 M G hp dl → (b = -1 ∨ ∃ c, c < 25 ∧ b = nI c) → RX 0 0 M0 G hp dl (f_X7_bestNow_25 n 1026 b v (hp (eS G 5)) (nI i) M) := by
  intro d
  induction d with
  | zero =>
    intro n i b v M hi hn hb hbb
    obtain ⟨n, rfl⟩ : ∃ m, n = m + 1 := ⟨n - 1, by omega⟩
    rw [f_X7_bestNow_25, if_pos (le_t (x := 25) 25 i (by omega) (by omega))]
    exact ⟨_, M, rfl, hb⟩
  | succ d ih =>
    intro n i b v M hi hn hb hbb
    obtain ⟨n, rfl⟩ : ∃ m, n = m + 1 := ⟨n - 1, by omega⟩
    obtain ⟨h, hN, hX⟩ := hb
    have hb' : RB 0 0 M0 M G hp dl := ⟨h, hN, hX⟩
    have hi25 : i < 25 := by omega
    have hh := h.2.2.1 _ ht
    have hle := (hq.1.2.2.2.2.2.2.2.2.2.2 _ ht).1 i hi25
    rw [f_X7_bestNow_25, if_neg (le_f (x := 25) 25 i (by omega) (by decide)), e_lA hh.1 (by rw [hh.2.1]; exact hi25) (by rw [hh.2.1]; decide), Option.bind_some, (hN.2.1 _ ht).1 i hi25, nI_1]
    by_cases y : eH G (eS G 5) i = 0
    · rw [y, if_pos (show nI 0 = 0 from rfl)]
      exact ih n (i + 1) b v M (by omega) (by omega) hb' hbb
    · have eits : f_X7_its 1026 M = some (1028 + 4 * eS G 5, M) := r_its (I := mI M) (J := mJ M) (A := mA M) h ht hN.1.2.1
      obtain ⟨w, M1, e1, b1⟩ := r_farWith h hN hq ht hi25 (-1) (Or.inr ⟨rfl, y⟩)
      have b2 : RB 0 0 M0 M1 G hp dl := hb'.tr b1
      have hh1 := b1.1.2.2.1 _ ht
      have k84 : RX 0 0 M0 G hp dl (f_X7_bestNow_84 (f_X7_bestNow_25 n) 1026 (hp (eS G 5)) (nI i) w M1) := by
        unfold f_X7_bestNow_84
        rw [nI_1]
        exact ih n (i + 1) (nI i) w M1 (by omega) (by omega) b2 (Or.inr ⟨i, hi25, rfl⟩)
      rw [if_neg (eq_f (y := 0) _ 0 y (by omega) (by decide)), if_pos h.1.1, eits, Option.bind_some]
      dsimp only
      rw [if_pos (h.2.1 _ ht).1, e1, Option.bind_some]
      dsimp only
      by_cases z : b = -1
      · rw [if_pos z]
        exact k84
      · obtain ⟨c, hc, rfl⟩ := hbb.resolve_left z
        rw [if_neg z]
        split
        · exact ih n (i + 1) (nI c) v M1 (by omega) (by omega) b2 (Or.inr ⟨c, hc, rfl⟩)
        · split
          · rw [e_lA hh1.1 (by rw [hh1.2.1]; exact hi25) (by rw [hh1.2.1]; decide), Option.bind_some, e_lA hh1.1 (by rw [hh1.2.1]; exact hc) (by rw [hh1.2.1]; decide), Option.bind_some]
            split
            · exact k84
            · exact ih n (i + 1) (nI c) v M1 (by omega) (by omega) b2 (Or.inr ⟨c, hc, rfl⟩)
          · exact k84
theorem r_bestNow (h : RS M hp dl) (hn : RN (mI M) (mJ M) (mA M) M G hp dl) (hq : WQ G) : RX 0 0 M G hp dl (f_X7_bestNow 1026 M) := by
  have ht : eS G 5 < 4 := hq.1.2.2.2.2.2.1
  have eits : f_X7_its 1026 M = some (1028 + 4 * eS G 5, M) := r_its (I := mI M) (J := mJ M) (A := mA M) h ht hn.1.2.1
  unfold f_X7_bestNow f_X7_bestNow_0
  rw [e_gI 422 h.1.1, Option.bind_some]
  split
  · rw [if_pos h.1.1, eits, Option.bind_some]
    dsimp only
    rw [e_gR 386 (h.2.1 _ ht).1 (h.2.1 _ ht).2.1, Option.bind_some]
    exact r_best_25 hq ht 25 zN 0 (-1) 0 M rfl (by decide) (RB.rf h hn) (Or.inl rfl)
  · exact ⟨_, M, rfl, RB.rf h hn⟩
theorem r_best (h : RS M hp dl) (hn : RN (mI M) (mJ M) (mA M) M G hp dl) (hq : WQ G) : RX 0 0 M G hp dl (f_X7_best 1026 M) := by
  have hb := RB.th h hn 0
  obtain ⟨v, M1, e1, b1⟩ := r_bestNow (M := cs (th 0 (mI M)) (mJ M) (mA M) M) hb.1 hb.2.1 hq
  unfold f_X7_best f_X7_best_0
  rw [e_pI 416 h.1.1, Option.bind_some, if_pos (show mK (sI M 416 1026 0) 1026 = 13 from h.1.1), show f_X7_bestNow 1026 (sI M 416 1026 0) = _ from e1, Option.bind_some]
  exact ⟨_, _, rfl, hb.tr b1⟩
theorem r_unseen (h : RS M hp dl) (hn : RN (mI M) (mJ M) (mA M) M G hp dl) (hq : WQ G) {p k : Nat} (hp4 : p < 4) (hk : k < 25) : ∃ M', f_X7_unseen 1026 (nI p) (nI k) M = some (4 - nI (eH G p k) - nI (snA G k 4 0), M') ∧ RB 8 32 M M' G hp dl := by
  obtain ⟨q1, q2⟩ := r_players h hp4
  have hh := h.2.2.1 p hp4
  obtain ⟨M1, e1, k1⟩ := r_seenNow (I := mI M) (J := mJ M) (A := mA M) h hn hq.1 hq.2.1 hk
  have e1' : f_X7_seenNow 1026 (nI k) M = some (nI (snA G k 4 0), M1) := e1
  refine ⟨M1, ?_, RB.km h hn k1⟩
  unfold f_X7_unseen f_X7_unseen_0
  rw [q1, Option.bind_some, q2, Option.bind_some, e_gR 386 (h.2.1 p hp4).1 (h.2.1 p hp4).2.1, Option.bind_some, e_lA hh.1 (by rw [hh.2.1]; exact hk) (by rw [hh.2.1]; decide), Option.bind_some, if_pos h.1.1, e1', Option.bind_some, (hn.2.1 p hp4).1 k hk]
theorem r_outs_41 (hq : WQ G) {p : Nat} (hp4 : p < 4) (f : Int32) : ∀ (d n i : Nat) (a : Int32) (M : zM), i + d = 25 → d < n → RB (16 * i) (64 * i) M0 M G hp dl → RX 400 1600 M0 G hp dl (f_X7_outs_41 n 1026 (nI p) f a (nI i) M) := by
  intro d
  induction d with
  | zero =>
    intro n i a M hi hn hb
    obtain ⟨n, rfl⟩ : ∃ m, n = m + 1 := ⟨n - 1, by omega⟩
    rw [f_X7_outs_41, if_pos (le_t (x := 25) 25 i (by omega) (by omega))]
    exact ⟨_, M, rfl, hb.w (by omega) (by omega)⟩
  | succ d ih =>
    intro n i a M hi hn hb
    obtain ⟨n, rfl⟩ : ∃ m, n = m + 1 := ⟨n - 1, by omega⟩
    have hi25 : i < 25 := by omega
    obtain ⟨M1, e1, b1⟩ := r_unseen hb.1 hb.2.1 hq hp4 hi25
    have b1' := hb.tr b1
    rw [f_X7_outs_41, if_neg (le_f (x := 25) 25 i (by omega) (by decide)), if_pos hb.1.1.1, e1, Option.bind_some, nI_1]
    dsimp only
    split
    · exact ih n (i + 1) _ M1 (by omega) (by omega) (b1'.w (by omega) (by omega))
    · obtain ⟨q1, q2⟩ := r_players b1.1 hp4
      obtain ⟨w, M2, e2, b2⟩ := r_farWith b1.1 b1.2.1 hq hp4 hi25 1 (Or.inl rfl)
      have b2' := b1'.tr b2
      rw [q1, Option.bind_some, q2, Option.bind_some, if_pos (b1.1.2.1 p hp4).1, e2, Option.bind_some]
      dsimp only
      split
      · exact ih n (i + 1) _ M2 (by omega) (by omega) (b2'.w (by omega) (by omega))
      · obtain ⟨M3, e3, b3⟩ := r_unseen b2.1 b2.2.1 hq hp4 hi25
        have b3' := b2'.tr b3
        rw [if_pos b2.1.1.1, e3, Option.bind_some]
        exact ih n (i + 1) _ M3 (by omega) (by omega) (b3'.w (by omega) (by omega))
theorem r_outs (h : RS M hp dl) (hn : RN (mI M) (mJ M) (mA M) M G hp dl) (hq : WQ G) (i1 : Int32) : RX 400 1600 M G hp dl (f_X7_outs 1026 i1 M) := by
  unfold f_X7_outs f_X7_outs_0
  by_cases y : pBad i1
  · rw [r_noPl_bad y, Option.bind_some]
    dsimp only
    rw [if_pos h.1.1, m11 h, Option.bind_some]
    dsimp only
    rw [if_neg (show ¬ (1 : Int32) = 0 by decide)]
    exact ⟨_, _, rfl, (RB.th h hn 1).w (by decide) (by decide)⟩
  · obtain ⟨p, hp4, rfl⟩ := pBad_no y
    have hb := RB.th h hn 0
    have hs := h.2.1 p hp4
    rw [r_noPl_ok hp4, Option.bind_some]
    dsimp only
    rw [if_pos h.1.1, m10 h, Option.bind_some]
    dsimp only
    rw [if_pos rfl]
    generalize cs (th 0 (mI M)) (mJ M) (mA M) M = M1 at *
    have hs1 := hb.1.2.1 p hp4
    obtain ⟨q1, q2⟩ := r_players hb.1 hp4
    have hlv := hb.1.lv (I := mI M1) (J := mJ M1) (A := mA M1) hb.2.1 hq.1 hp4
    have kl1 : mK M1 (1030 + 4 * p) = 5 := hs1.2.2.2.2.1
    have z1 : f_Jx4a65c_size_8abf5 (1030 + 4 * p) M1 = some (nI (eN G p), M1) := r_size (I := mI M1) (J := mJ M1) (A := mA M1) kl1 hlv.1.2.2.1
    have et : f_X6_tiles (1028 + 4 * p) M1 = some (nI (sn (eH G p) 0 25), M1) := r_tiles (I := mI M1) (J := mJ M1) (A := mA M1) (hb.1.ps hp4) (hb.2.1.2.1 p hp4).1
    have em : ∃ v, f_X6_hasTooMany (1028 + 4 * p) M1 = some (v, M1) := by
      unfold f_X6_hasTooMany f_X6_hasTooMany_0
      rw [if_pos hs1.1, et, Option.bind_some]
      dsimp only
      rw [e_gR 387 hs1.1 hs1.2.2.1, Option.bind_some, if_pos kl1, z1, Option.bind_some]
      dsimp only
      split
      · exact ⟨_, rfl⟩
      · exact ⟨_, rfl⟩
    obtain ⟨v, em⟩ := em
    rw [q1, Option.bind_some, q2, Option.bind_some, if_pos hs1.1, em, Option.bind_some]
    dsimp only
    split
    · obtain ⟨w, M2, e2, b2⟩ := r_far hb.1 hb.2.1 hq hp4
      rw [q1, Option.bind_some, q2, Option.bind_some, if_pos hs1.1, e2, Option.bind_some]
      exact r_outs_41 hq hp4 w 25 zN 0 0 M2 rfl (by decide) (hb.tr b2)
    · exact ⟨_, _, rfl, hb.w (by decide) (by decide)⟩
end RASK3
