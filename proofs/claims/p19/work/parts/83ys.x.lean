/-! ===== BOTH: ofPlayer, with code and answer ===== -/
/-- the most that sets and a pair are worth -/
noncomputable def fvl (n : Nat) (g : Nat → Nat) : Nat := Classical.epsilon fun v => MB n 1 0 25 g v
theorem fvl_eq {n : Nat} {g : Nat → Nat} {v : Nat} (h : MB n 1 0 25 g v) : fvl n g = v := MB.uq (Classical.epsilon_spec (p := fun v => MB n 1 0 25 g v) ⟨v, h⟩) h
/-- how far it is -/
noncomputable def frv (N : Nat) (g : Nat → Nat) : Int32 := 6 - nI (2 * N + fvl (3 - N) g)
/-- the ten numbers of a player -/
noncomputable def opl (G : zG) (e : zPt) (p : Nat) : Nat → Int32
  | 0 => e.1 p
  | 1 => nI (eN G p)
  | 2 => nI (opN G p)
  | 3 => nI (sn (eH G p) 0 25)
  | 4 => nI (eM G p)
  | 5 => b32 (eC G p)
  | 6 => frv (eN G p) (eH G p)
  | 7 => if eS G 7 = 0 then -1 else nI ((p + 4 - (eS G 6 - 1)) % 4)
  | 8 => e.2.1 p
  | _ => b32 (decide (gW G p &&& eD G p ≠ 0))
theorem b32_if (b : Bool) {α : Type} (x : Int32 → α) : (if b32 b = 0 then x 0 else x 1) = x (b32 b) := by
  cases b
  · exact if_pos rfl
  · exact if_neg (by decide)
theorem lg_b (x : Int64) {α : Type} (f : Int32 → α) : (if lg_cmp x 0 = 0 then f 0 else f 1) = f (b32 (decide (x ≠ 0))) := by
  by_cases y : x = 0
  · rw [if_pos ((lg_cmp_0 x 0).mpr y), decide_eq_false (fun z => z y)]
    rfl
  · rw [if_neg (fun z => y ((lg_cmp_0 x 0).mp z)), decide_eq_true y]
    rfl
theorem WD.d {G : zG} (hd : WD G) : (eS G 7 = 0 ∧ eS G 6 = 0) ∨ (eS G 7 ≠ 0 ∧ eS G 6 - 1 < 4 ∧ eS G 6 - 1 + 1 = eS G 6) := by
  rcases hd with z | ⟨z, w⟩
  · exact Or.inl z
  · exact Or.inr ⟨z, by omega, by omega⟩
theorem dl_no {x : Int32} (h : x + 1 = nI 0) : x = -1 := by
  have e : nI 0 = (0 : Int32) := rfl
  rw [e] at h
  grind
section XOFP
variable {I : Nat → Nat → Int32} {J : Nat → Nat → Int64} {A : Nat → Nat → Int32} {M : zM} {G : zG} {hp dl : Nat → Nat}
theorem q_ofPl_bad2 (h : CSH M) {p : Nat} (hp4 : p < 4) {i : Int32} (y : i < 0 ∨ 10 ≤ i.toNatClampNeg) : f_X3_ofPlayer 1000 (nI p) i M = some (.inl "java/lang/IllegalArgumentException", nE M) := by
  have sq : lQ 1 M 1001 (nI p) = some (1010 + 4 * p) := CSH.seat (I := mI M) (J := mJ M) (A := mA M) h hp4
  unfold f_X3_ofPlayer f_X3_ofPlayer_0
  rw [q_pl_ok hp4]
  show (gR 9 0 M 1000).bind _ = _
  rw [e_gR 288 h.1 h.2.1, Option.bind_some, sq, Option.bind_some, if_neg (show ¬ i = 0 from mb_ne y (j := 0) (by decide)), if_neg (show ¬ i = 1 from mb_ne y (j := 1) (by decide)), if_neg (show ¬ i = 2 from mb_ne y (j := 2) (by decide)), if_neg (show ¬ i = 3 from mb_ne y (j := 3) (by decide)), if_neg (show ¬ i = 4 from mb_ne y (j := 4) (by decide)), if_neg (show ¬ i = 5 from mb_ne y (j := 5) (by decide)), if_neg (show ¬ i = 6 from mb_ne y (j := 6) (by decide)), if_neg (show ¬ i = 7 from mb_ne y (j := 7) (by decide)), if_neg (show ¬ i = 8 from mb_ne y (j := 8) (by decide)), if_neg (show ¬ i = 9 from mb_ne y (j := 9) (by decide))]
theorem x_wdC (h : CSH M) (hc : CR I J A G) (hd : WD G) {p : Nat} (hp4 : p < 4) : f_X3_windOf 1000 (nI p) (cs I J A M) = some (if eS G 7 = 0 then -1 else nI ((p + 4 - (eS G 6 - 1)) % 4), cs I J A M) := by
  have s6 := hc.1.2.2.2.2.2.2.1
  rcases hd.d with ⟨z, w⟩ | ⟨z, w, u⟩
  · rw [w] at s6
    unfold f_X3_windOf f_X3_windOf_0
    rw [gI_cs 297 h.1, Option.bind_some, dl_no s6, if_pos rfl, if_pos z]
  · rw [← u] at s6
    rw [if_neg z]
    exact x_windOf h (dl_eq s6) w hp4
theorem x_ofPlayer (hA : AT A M) (hT : TB A) (h : CSH M) (hw : WF G) (hv : WV G) (hd : WD G) (hc : CR I J A G) {e : zPt} (he : CE I e) {p j : Nat} (hp : p < 4) (hj : j < 10) : ∃ A', f_X3_ofPlayer 1000 (nI p) (nI j) (cs I J A M) = some (.inr (opl G e p j), cs I J A' M) ∧ CR I J A' G := by
  unfold f_X3_ofPlayer f_X3_ofPlayer_0
  rw [q_pl_ok hp]
  have hsp := h.2.2.2.2.2.2.2.1 _ hp
  obtain ⟨d1, d2, d3, d4, d5, d6, d7⟩ := hc.2 _ hp
  obtain ⟨v1, v2, v3, v4⟩ := hw.2.2.2.2.2.2.2.2.2.2 _ hp
  show ∃ A', (gR 9 0 (cs I J A M) 1000).bind _ = _ ∧ _
  rw [gR_cs 288 h.1 h.2.1, Option.bind_some, h.seat hp, Option.bind_some]
  rcases (show j = 0 ∨ j = 1 ∨ j = 2 ∨ j = 3 ∨ j = 4 ∨ j = 5 ∨ j = 6 ∨ j = 7 ∨ j = 8 ∨ j = 9 by omega) with rfl | rfl | rfl | rfl | rfl | rfl | rfl | rfl | rfl | rfl
  · rw [if_pos (show nI 0 = 0 from rfl), gI_cs 231 hsp.1, Option.bind_some, (he.1 p hp).1]
    exact ⟨A, rfl, hc⟩
  · rw [if_neg (show ¬ nI 1 = 0 by decide), if_pos (show nI 1 = 1 from rfl), gI_cs 228 hsp.1, Option.bind_some, d2]
    exact ⟨A, rfl, hc⟩
  · rw [if_neg (show ¬ nI 2 = 0 by decide), if_neg (show ¬ nI 2 = 1 by decide), if_pos (show nI 2 = 2 from rfl), if_pos (show mK (cs I J A M) (1010 + 4 * p) = 7 from hsp.1), q_open h hv hw hc hp, Option.bind_some]
    exact ⟨A, rfl, hc⟩
  · rw [if_neg (show ¬ nI 3 = 0 by decide), if_neg (show ¬ nI 3 = 1 by decide), if_neg (show ¬ nI 3 = 2 by decide), if_pos (show nI 3 = 3 from rfl), if_pos (show mK (cs I J A M) (1010 + 4 * p) = 7 from hsp.1), q_inHand hsp, Option.bind_some, sm_nI (A (1011 + 4 * p)) (eH G p) _ _ (fun k _ hk => d1 k (by omega))]
    exact ⟨A, rfl, hc⟩
  · rw [if_neg (show ¬ nI 4 = 0 by decide), if_neg (show ¬ nI 4 = 1 by decide), if_neg (show ¬ nI 4 = 2 by decide), if_neg (show ¬ nI 4 = 3 by decide), if_pos (show nI 4 = 4 from rfl), gI_cs 229 hsp.1, Option.bind_some, d4]
    exact ⟨A, rfl, hc⟩
  · rw [if_neg (show ¬ nI 5 = 0 by decide), if_neg (show ¬ nI 5 = 1 by decide), if_neg (show ¬ nI 5 = 2 by decide), if_neg (show ¬ nI 5 = 3 by decide), if_neg (show ¬ nI 5 = 4 by decide), if_pos (show nI 5 = 5 from rfl), gI_cs 230 hsp.1, Option.bind_some, d7]
    exact ⟨A, b32_if (eC G p) (fun z => some (Sum.inr z, cs I J A M)), hc⟩
  · obtain ⟨v, A2, e2, f2, m2⟩ := x_far (I := I) (J := J) hA h.2.2.2.2.2.1 (t := 1011 + 4 * p) (N := eN G p) hsp.2.2.2.2.1 (by omega) v2 (g := eH G p) (fun k hk => by have := v1 k hk; omega) hT d1
    rw [if_neg (show ¬ nI 6 = 0 by decide), if_neg (show ¬ nI 6 = 1 by decide), if_neg (show ¬ nI 6 = 2 by decide), if_neg (show ¬ nI 6 = 3 by decide), if_neg (show ¬ nI 6 = 4 by decide), if_neg (show ¬ nI 6 = 5 by decide), if_pos (show nI 6 = 6 from rfl), gR_cs 289 h.1 h.2.2.1, Option.bind_some, gR_cs 224 hsp.1 hsp.2.1, Option.bind_some, gI_cs 228 hsp.1, Option.bind_some, if_pos (show mK (cs I J A M) 1002 = 6 from h.2.2.2.2.2.1.1), d2, e2, Option.bind_some]
    refine ⟨A2, ?_, hc.own (own_frm f2)⟩
    show _ = some (Sum.inr (6 - nI (2 * eN G p + fvl (3 - eN G p) (eH G p))), _)
    rw [fvl_eq m2, ← far_eq v2]
  · rw [if_neg (show ¬ nI 7 = 0 by decide), if_neg (show ¬ nI 7 = 1 by decide), if_neg (show ¬ nI 7 = 2 by decide), if_neg (show ¬ nI 7 = 3 by decide), if_neg (show ¬ nI 7 = 4 by decide), if_neg (show ¬ nI 7 = 5 by decide), if_neg (show ¬ nI 7 = 6 by decide), if_pos (show nI 7 = 7 from rfl), if_pos (show mK (cs I J A M) 1000 = 9 from h.1), x_wdC h hc hd hp, Option.bind_some]
    exact ⟨A, rfl, hc⟩
  · rw [if_neg (show ¬ nI 8 = 0 by decide), if_neg (show ¬ nI 8 = 1 by decide), if_neg (show ¬ nI 8 = 2 by decide), if_neg (show ¬ nI 8 = 3 by decide), if_neg (show ¬ nI 8 = 4 by decide), if_neg (show ¬ nI 8 = 5 by decide), if_neg (show ¬ nI 8 = 6 by decide), if_neg (show ¬ nI 8 = 7 by decide), if_pos (show nI 8 = 8 from rfl), gI_cs 232 hsp.1, Option.bind_some, (he.1 p hp).2]
    exact ⟨A, rfl, hc⟩
  · obtain ⟨A1, e1, f1⟩ := q_waitsG h hc hw hp
    rw [if_neg (show ¬ nI 9 = 0 by decide), if_neg (show ¬ nI 9 = 1 by decide), if_neg (show ¬ nI 9 = 2 by decide), if_neg (show ¬ nI 9 = 3 by decide), if_neg (show ¬ nI 9 = 4 by decide), if_neg (show ¬ nI 9 = 5 by decide), if_neg (show ¬ nI 9 = 6 by decide), if_neg (show ¬ nI 9 = 7 by decide), if_neg (show ¬ nI 9 = 8 by decide), if_pos (show nI 9 = 9 from rfl), if_pos (show mK (cs I J A M) 1000 = 9 from h.1), e1, Option.bind_some, gJ_cs 227 hsp.1, Option.bind_some, d6]
    exact ⟨A1, lg_b (gW G p &&& eD G p) (fun z => some (Sum.inr z, cs I J A1 M)), hc.own f1⟩
end XOFP
section XOFPR
variable {M : zM} {G : zG} {hp dl : Nat → Nat}
theorem r_ofPl_bad (h : RS M hp dl) {i1 : Int32} (y : pBad i1) (x : Int32) : f_X7_ofPlayer 1026 i1 x M = some (0, cs (th 1 (mI M)) (mJ M) (mA M) M) := by
  unfold f_X7_ofPlayer f_X7_ofPlayer_0
  rw [r_noPl_bad y, Option.bind_some]
  dsimp only
  rw [if_pos h.1.1, m11 h, Option.bind_some]
  dsimp only
  rw [if_neg (show ¬ (1 : Int32) = 0 by decide)]
theorem r_ofPl_bad2 (h : RS M hp dl) {p : Nat} (hp4 : p < 4) {x : Int32} (y : x < 0 ∨ 10 ≤ x.toNatClampNeg) : f_X7_ofPlayer 1026 (nI p) x M = some (0, cs (th 2 (mI M)) (mJ M) (mA M) M) := by
  have bad : f_X7_ofPlayer_28 1026 (nI p) x 1 1026 (cs (th 0 (mI M)) (mJ M) (mA M) M) = some (0, cs (th 2 (mI M)) (mJ M) (mA M) M) := by
    unfold f_X7_ofPlayer_28
    rw [if_pos (show mK (cs (th 0 (mI M)) (mJ M) (mA M) M) 1026 = 13 from h.1.1), f21 h, Option.bind_some]
    dsimp only
    rw [if_neg (show ¬ (1 : Int32) = 0 by decide)]
  unfold f_X7_ofPlayer f_X7_ofPlayer_0
  rw [r_noPl_ok hp4, Option.bind_some]
  dsimp only
  rw [if_pos h.1.1, m10 h, Option.bind_some]
  dsimp only
  rw [if_pos rfl, r_isIn]
  rcases nI_all x with z | ⟨j, z1, rfl⟩
  · rw [if_pos z, Option.bind_some]
    exact bad
  · rw [nI_cl z1] at y
    have y' := y.resolve_left (nI_nn z1)
    rw [if_neg (nI_nn z1), if_pos (lt_t (x := 9) 9 j (by omega) z1), Option.bind_some]
    exact bad
theorem x_farR (h : RS M hp dl) (hn : RN (mI M) (mJ M) (mA M) M G hp dl) (hq : WQ G) {p : Nat} (hp4 : p < 4) : ∃ A', f_X6_far (1028 + 4 * p) M = some (frv (eN G p) (eH G p), cs (mI M) (mJ M) A' M) ∧ RB 0 0 M (cs (mI M) (mJ M) A' M) G hp dl := by
  obtain ⟨n1, n2, -⟩ := hn.2.1 p hp4
  have hw1 := (hq.1.2.2.2.2.2.2.2.2.2.2 p hp4).1
  have hN3 := (hq.1.2.2.2.2.2.2.2.2.2.2 p hp4).2.1
  have hz := hq.2.2.2.2 p hp4
  obtain ⟨v, w', e, f, m⟩ := x_X6_far (I := mI M) (J := mJ M) (A := mA M) (w := mA M (hp p)) (h.ps hp4) n2.1 hN3 (g := eH G p) n1 (fun k hk => by have := hw1 k hk; omega) (by omega)
  rw [ur_self] at e
  refine ⟨ur (mA M) (hp p) w', ?_, h, hn.row h hp4 f, Nat.le_refl _, Nat.le_refl _⟩
  unfold frv
  rw [fvl_eq m]
  exact e
theorem x_wdR (h : RS M hp dl) (hn : RN (mI M) (mJ M) (mA M) M G hp dl) (hd : WD G) {p : Nat} (hp4 : p < 4) : (if mI M 424 1026 = -1 then some ((-1 : Int32), M) else if mK M 1026 = 13 then (f_X7_wind 1026 (nI p) M).bind fun r17 => some (r17.1, r17.2) else none) = some (if eS G 7 = 0 then -1 else nI ((p + 4 - (eS G 6 - 1)) % 4), M) := by
  have s6 := hn.1.2.2.1
  rcases hd.d with ⟨z, w⟩ | ⟨z, w, u⟩
  · rw [w] at s6
    rw [if_pos (dl_no s6), if_pos z]
  · rw [← u] at s6
    have hD := dl_eq s6
    have key : ∀ D, D < 4 → nI D ≠ -1 := by decide
    rw [if_neg (fun q => key _ w (hD.symm.trans q)), if_pos h.1.1, x_wind h.1.1 hD w hp4, Option.bind_some, if_neg z]
theorem x_ofPlayerNow (h : RS M hp dl) (hn : RN (mI M) (mJ M) (mA M) M G hp dl) (hq : WQ G) {e : zPt} (re : RE (mI M) e) {p j : Nat} (hp4 : p < 4) (hj : j < 10) : ∃ M', f_X7_ofPlayerNow 1026 (nI p) (nI j) M = some (opl G e p j, M') ∧ RB 1 4 M M' G hp dl ∧ mI M' 416 1026 = mI M 416 1026 := by
  have hX := h.2.2.2.2.2.2.2
  have hs := h.2.1 p hp4
  have k := h.1.1
  obtain ⟨n1, n2, n3, n4, n5⟩ := hn.2.1 p hp4
  obtain ⟨q1, q2⟩ := r_players h hp4
  have hrf := (RB.rf h hn).w (c' := 1) (s' := 4) (Nat.zero_le _) (Nat.zero_le _)
  have hlv := h.lv (I := mI M) (J := mJ M) (A := mA M) hn hq.1 hp4
  have hlr := h.lr (I := mI M) (J := mJ M) (A := mA M) hn hq.1 hp4
  have kl1 : mK M (1030 + 4 * p) = 5 := hs.2.2.2.2.1
  have kl2 : mK M (1031 + 4 * p) = 5 := hs.2.2.2.2.2
  have z1 : f_Jx4a65c_size_8abf5 (1030 + 4 * p) M = some (nI (eN G p), M) := r_size (I := mI M) (J := mJ M) (A := mA M) kl1 hlv.1.2.2.1
  have z2 : f_Jx4a65c_size_8abf5 (1031 + 4 * p) M = some (nI (eM G p), M) := r_size (I := mI M) (J := mJ M) (A := mA M) kl2 hlr.1.2.2.1
  unfold f_X7_ofPlayerNow f_X7_ofPlayerNow_0
  rw [q1, Option.bind_some, q2, Option.bind_some]
  rcases (show j = 0 ∨ j = 1 ∨ j = 2 ∨ j = 3 ∨ j = 4 ∨ j = 5 ∨ j = 6 ∨ j = 7 ∨ j = 8 ∨ j = 9 by omega) with rfl | rfl | rfl | rfl | rfl | rfl | rfl | rfl | rfl | rfl
  · rw [if_pos (show nI 0 = 0 from rfl), e_gI 384 hs.1, Option.bind_some, (re.1 p hp4).1]
    exact ⟨M, rfl, hrf, rfl⟩
  · rw [if_neg (show ¬ nI 1 = 0 by decide), if_pos (show nI 1 = 1 from rfl), e_gR 387 hs.1 hs.2.2.1, Option.bind_some, if_pos kl1, z1, Option.bind_some]
    exact ⟨M, rfl, hrf, rfl⟩
  · obtain ⟨M1, e1, k1⟩ := r_open (M := M) hs.1 hs.2.2.1 hlv (fun j hj => hq.2.1 p hp4 j hj)
    rw [if_neg (show ¬ nI 2 = 0 by decide), if_neg (show ¬ nI 2 = 1 by decide), if_pos (show nI 2 = 2 from rfl), if_pos hs.1, e1, Option.bind_some]
    exact ⟨M1, rfl, RB.km h hn k1, (k1.2 1026 (by omega)).2.2.1 416⟩
  · have et : f_X6_tiles (1028 + 4 * p) M = some (nI (sn (eH G p) 0 25), M) := r_tiles (I := mI M) (J := mJ M) (A := mA M) (h.ps hp4) (hn.2.1 p hp4).1
    rw [if_neg (show ¬ nI 3 = 0 by decide), if_neg (show ¬ nI 3 = 1 by decide), if_neg (show ¬ nI 3 = 2 by decide), if_pos (show nI 3 = 3 from rfl), if_pos hs.1, et, Option.bind_some]
    exact ⟨M, rfl, hrf, rfl⟩
  · rw [if_neg (show ¬ nI 4 = 0 by decide), if_neg (show ¬ nI 4 = 1 by decide), if_neg (show ¬ nI 4 = 2 by decide), if_neg (show ¬ nI 4 = 3 by decide), if_pos (show nI 4 = 4 from rfl), e_gR 388 hs.1 hs.2.2.2.1, Option.bind_some, if_pos kl2, z2, Option.bind_some]
    exact ⟨M, rfl, hrf, rfl⟩
  · rw [if_neg (show ¬ nI 5 = 0 by decide), if_neg (show ¬ nI 5 = 1 by decide), if_neg (show ¬ nI 5 = 2 by decide), if_neg (show ¬ nI 5 = 3 by decide), if_neg (show ¬ nI 5 = 4 by decide), if_pos (show nI 5 = 5 from rfl), e_gI 390 hs.1, Option.bind_some, n5]
    exact ⟨M, b32_if (eC G p) (fun z => some (z, M)), hrf, rfl⟩
  · obtain ⟨A1, e1, b1⟩ := x_farR h hn hq hp4
    rw [if_neg (show ¬ nI 6 = 0 by decide), if_neg (show ¬ nI 6 = 1 by decide), if_neg (show ¬ nI 6 = 2 by decide), if_neg (show ¬ nI 6 = 3 by decide), if_neg (show ¬ nI 6 = 4 by decide), if_neg (show ¬ nI 6 = 5 by decide), if_pos (show nI 6 = 6 from rfl), if_pos hs.1, e1, Option.bind_some]
    exact ⟨_, rfl, b1.w (Nat.zero_le _) (Nat.zero_le _), rfl⟩
  · rw [if_neg (show ¬ nI 7 = 0 by decide), if_neg (show ¬ nI 7 = 1 by decide), if_neg (show ¬ nI 7 = 2 by decide), if_neg (show ¬ nI 7 = 3 by decide), if_neg (show ¬ nI 7 = 4 by decide), if_neg (show ¬ nI 7 = 5 by decide), if_neg (show ¬ nI 7 = 6 by decide), if_pos (show nI 7 = 7 from rfl), e_gI 424 k, Option.bind_some]
    exact ⟨M, x_wdR h hn hq.2.2.1 hp4, hrf, rfl⟩
  · rw [if_neg (show ¬ nI 8 = 0 by decide), if_neg (show ¬ nI 8 = 1 by decide), if_neg (show ¬ nI 8 = 2 by decide), if_neg (show ¬ nI 8 = 3 by decide), if_neg (show ¬ nI 8 = 4 by decide), if_neg (show ¬ nI 8 = 5 by decide), if_neg (show ¬ nI 8 = 6 by decide), if_neg (show ¬ nI 8 = 7 by decide), if_pos (show nI 8 = 8 from rfl), e_gI 385 hs.1, Option.bind_some, (re.1 p hp4).2]
    exact ⟨M, rfl, hrf, rfl⟩
  · obtain ⟨A', e1, f⟩ := r_isBarred (I := mI M) (J := mJ M) (A := mA M) h hn hq.1 hp4
    have e1' : f_X7_isBarred 1026 (1028 + 4 * p) M = some (b32 (decide (gW G p &&& eD G p ≠ 0)), cs (mI M) (mJ M) A' M) := e1
    rw [if_neg (show ¬ nI 9 = 0 by decide), if_neg (show ¬ nI 9 = 1 by decide), if_neg (show ¬ nI 9 = 2 by decide), if_neg (show ¬ nI 9 = 3 by decide), if_neg (show ¬ nI 9 = 4 by decide), if_neg (show ¬ nI 9 = 5 by decide), if_neg (show ¬ nI 9 = 6 by decide), if_neg (show ¬ nI 9 = 7 by decide), if_neg (show ¬ nI 9 = 8 by decide), if_pos k, e1', Option.bind_some]
    exact ⟨cs (mI M) (mJ M) A' M, b32_if _ (fun z => some (z, cs (mI M) (mJ M) A' M)), ⟨h, f, Nat.le_add_right _ _, Nat.le_add_right _ _⟩, rfl⟩
theorem x_ofPlayerR (h : RS M hp dl) (hn : RN (mI M) (mJ M) (mA M) M G hp dl) (hq : WQ G) {e : zPt} (re : RE (mI M) e) {p j : Nat} (hp4 : p < 4) (hj : j < 10) : ∃ M', f_X7_ofPlayer 1026 (nI p) (nI j) M = some (opl G e p j, M') ∧ RB 1 4 M M' G hp dl ∧ mI M' 416 1026 = 0 := by
  have hb := RB.th h hn 0
  unfold f_X7_ofPlayer f_X7_ofPlayer_0
  rw [r_noPl_ok hp4, Option.bind_some]
  dsimp only
  rw [if_pos h.1.1, m10 h, Option.bind_some]
  dsimp only
  rw [if_pos rfl, r_isIn, if_neg (nI_nn (by omega)), if_neg (lt_f (x := 9) 9 j (by omega) (by decide)), Option.bind_some]
  dsimp only
  rw [if_neg (show ¬ (1 : Int32) = 0 by decide)]
  unfold f_X7_ofPlayer_28
  rw [if_pos (show mK (cs (th 0 (mI M)) (mJ M) (mA M) M) 1026 = 13 from h.1.1), f20 h, Option.bind_some]
  dsimp only
  rw [if_pos rfl, if_pos (show mK (cs (th 0 (mI M)) (mJ M) (mA M) M) 1026 = 13 from h.1.1)]
  obtain ⟨M1, e1, b1, b2⟩ := x_ofPlayerNow (M := cs (th 0 (mI M)) (mJ M) (mA M) M) hb.1 hb.2.1 hq (re.th 0) hp4 hj
  rw [e1, Option.bind_some]
  exact ⟨M1, rfl, (hb.tr b1).w (by decide) (by decide), b2.trans (u2_at (mI M) 416 1026 0)⟩
end XOFPR
section ASKO
variable {n : Nat} {xs : Nat → Int32} {M : zM} {G : zG} {hp dl : Nat → Nat}
theorem tj_ofPlayer (h : CK n xs M G G hp dl) (hx : WX G) (h9 : W9 G) {cc : Nat} (ke : EK cc M) (hr : eS G 7 < 2 ^ 20) (i1 i2 : Int32) : SET n xs cc M G (f_L_ofPlayer 1000 i1 i2 1045 M) (fun M1 => f_X7_ofPlayer 1026 i1 i2 M1) := by
  have hw := hx.f hr
  have kf := kc_X3_ofPlayer h.2.2.1.1 own1000 (FC.rf M) (i1 := i1) (i2 := i2)
  have kn := fun (M1 : zM) (k1 : CK n xs M1 G G hp dl) => kn_X7_ofPlayer k1.2.2.1.2.1 k1.fn (i1 := i1) (i2 := i2) (a0 := 1026)
  have hA : AT (mA M) M := h.1.1.2.2.2.2.2.2.2.2
  obtain ⟨tb, e0, ce0, re0, -⟩ := id ke
  unfold f_L_ofPlayer f_L_ofPlayer_0
  rw [if_pos h.1.1.1]
  by_cases y1 : pBad i1
  · have e : f_X3_ofPlayer 1000 i1 i2 M = some (.inl "java/lang/IndexOutOfBoundsException", nE M) := by
      unfold f_X3_ofPlayer f_X3_ofPlayer_0
      rw [q_pl_bad y1]
      rfl
    exact SET.bd h hx h9 ke hw kf e h.1.2 (k := 1) (by decide) (fun _ => if_pos rfl) kn (fun M1 k1 => thr_et (k := k1) (r_ofPl_bad k1.2.1.1 y1 i2))
  · obtain ⟨p, hp4, rfl⟩ := pBad_no y1
    by_cases y2 : i2 < 0 ∨ 10 ≤ i2.toNatClampNeg
    · exact SET.bd h hx h9 ke hw kf (q_ofPl_bad2 h.1.1 hp4 y2) h.1.2 (k := 2) (by decide) (fun _ => (if_neg (by decide)).trans (if_pos rfl)) kn (fun M1 k1 => thr_et (k := k1) (r_ofPl_bad2 k1.2.1.1 hp4 y2))
    · obtain ⟨j, hj, rfl⟩ := cl_no y2
      obtain ⟨A', e, hc⟩ := x_ofPlayer (I := mI M) (J := mJ M) hA tb h.1.1 hw hx.v hx.2.2.2.2.2.2.1 h.1.2 ce0 hp4 hj
      refine SET.ask h hx h9 ke hw kf e hc kn (fun M1 => kq_X7_ofPlayer (FQ.rf M1)) (fun M1 k1 _ hre => ?_)
      obtain ⟨M2, r1, r2, r3⟩ := x_ofPlayerR k1.2.1.1 k1.2.1.2 (hx.q hr) (hre e0 re0) hp4 hj
      exact ⟨M2, r1, r2.w (by decide) (by decide), r3⟩
end ASKO
