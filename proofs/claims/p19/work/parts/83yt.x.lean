/-! ===== BOTH: worth, with code and answer ===== -/
/-- what a tile is worth -/
noncomputable def wth (G : zG) (p k lk : Nat) : Int32 := if btk (gW G p) k = 0 then -1 else nI (VLG false (wH G p k (eH G p k + 1)) p lk (eS G 6 - 1))
theorem wH_H (G : zG) (p k v : Nat) : eH (wH G p k v) p = u1 (eH G p) k v := by
  funext j
  show u2 (eH G) p k v p j = _
  unfold u2 u1
  by_cases z : j = k
  · rw [if_pos ⟨rfl, z⟩, if_pos z]
  · rw [if_neg (fun q => z q.2), if_neg z]
theorem wth_ok {G : zG} (hx : WX G) {p k : Nat} (hp : p < 4) (hk : k < 25) (y : btk (gW G p) k ≠ 0) : eS G 7 ≠ 0 ∧ sn (eH G p) 0 25 + 3 * eN G p = 10 ∧ cmp 25 0 (u1 (eH G p) k (eH G p k + 1)) = true := by
  unfold gW at y
  rw [bt_wts hk] at y
  have c : sn (eH G p) 0 25 + 3 * eN G p = 10 ∧ cmp 25 0 (u1 (eH G p) k (eH G p k + 1)) = true := by
    by_cases z : sn (eH G p) 0 25 + 3 * eN G p = 10 ∧ cmp 25 0 (u1 (eH G p) k (eH G p k + 1)) = true
    · exact z
    · rw [if_neg z] at y
      exact absurd rfl y
  refine ⟨fun z => ?_, c⟩
  have := (hx.2.2.1 p hp).2.2 z
  unfold sz at this
  omega
section XWORTH
variable {I : Nat → Nat → Int32} {J : Nat → Nat → Int64} {A : Nat → Nat → Int32} {M : zM} {G : zG} {hp dl : Nat → Nat}
theorem x_worth (h : CSH M) (hx : WX G) (hw : WF G) (hc : CR I J A G) {e : zPt} (he : CE I e) {p k lk : Nat} (hp : p < 4) (hk : k < 25) (hlk : eS G 7 ≠ 0 → lk < 25 ∧ e.2.2.2.1 = nI lk) : ∃ A', f_X3_worth 1000 (nI p) (nI k) (cs I J A M) = some (.inr (wth G p k lk), cs I J A' M) ∧ CR I J A' G := by
  unfold f_X3_worth f_X3_worth_0
  rw [q_pl_ok hp]
  show ∃ A', xb (f_X3_requireKind (nI k) (cs I J A M)) _ = _ ∧ _
  rw [q_requireKind_ok hk]
  have hsp := h.2.2.2.2.2.2.2.1 _ hp
  have hva : VA M 1008 1009 := h.2.2.2.2.2.2.1
  obtain ⟨A1, e1, f1⟩ := q_waitsG h hc hw hp
  have hc1 := hc.own f1
  obtain ⟨d1, d2, d3, d4, d5, d6, d7⟩ := hc1.2 _ hp
  obtain ⟨v1, v2, v3, v4⟩ := hw.2.2.2.2.2.2.2.2.2.2 _ hp
  show ∃ A', (gR 9 0 (cs I J A M) 1000).bind _ = _ ∧ _
  rw [gR_cs 288 h.1 h.2.1, Option.bind_some, h.seat hp, Option.bind_some, if_pos (show mK (cs I J A M) 1000 = 9 from h.1), e1, Option.bind_some]
  by_cases y : btk (gW G p) k = 0
  · have y' : (gW G p >>> ((nI k).toInt64 &&& 63)) &&& 1 = 0 := y
    rw [if_pos ((lg_cmp_0 _ _).mpr y')]
    refine ⟨A1, ?_, hc1⟩
    unfold wth
    rw [if_pos y]
  · have y' : ¬ (gW G p >>> ((nI k).toInt64 &&& 63)) &&& 1 = 0 := y
    obtain ⟨h7, o1, o2⟩ := wth_ok hx hp hk y
    obtain ⟨lk1, lk2⟩ := hlk h7
    have s6 := hc.1.2.2.2.2.2.2.1
    have hd : eS G 6 - 1 < 4 ∧ eS G 6 - 1 + 1 = eS G 6 := by
      rcases hx.2.2.2.2.2.2.1 with ⟨z, -⟩ | ⟨-, z⟩
      · exact absurd z h7
      · omega
    rw [← hd.2] at s6
    have hD := dl_eq s6
    have hH : ∀ j, j < 25 → u2 A1 (1011 + 4 * p) k (nI (eH G p k + 1)) (1011 + 4 * p) j = nI (u1 (eH G p) k (eH G p k + 1) j) := fun j hj => by
      by_cases z : j = k
      · rw [z, u2_rs, u1_at]
      · rw [u2_ro _ _ z, u1_ne _ _ z, d1 j hj]
    obtain ⟨w', e4⟩ := x_value (J := J) (A := u2 A1 (1011 + 4 * p) k (nI (eH G p k + 1))) hva hsp ⟨by omega, by omega⟩ d2 v2 hH (fun j hj => by
      by_cases z : j = k
      · rw [z, u1_at]; have := v1 k hk; omega
      · rw [u1_ne _ _ z]; have := v1 j hj; omega) (fun j hj => by rw [u2_rw _ _ _ (by omega)]; exact d3 j hj) (fun j hj => hx.v p hp j hj) d7 false lk1 (wd := (p + 4 - (eS G 6 - 1)) % 4) (Nat.mod_lt _ (by decide))
    have e4' : f_X2_value 1008 (1010 + 4 * p) 0 (nI lk) (nI ((p + 4 - (eS G 6 - 1)) % 4)) (cs I J (u2 A1 (1011 + 4 * p) k (nI (eH G p k + 1))) M) = some (nI (VLG false (wH G p k (eH G p k + 1)) p lk (eS G 6 - 1)), cs I J (ur (u2 A1 (1011 + 4 * p) k (nI (eH G p k + 1))) 1009 w') M) := by
      unfold VLG
      rw [wH_H]
      exact e4
    have c1 : A1 (1011 + 4 * p) k + 1 = nI (eH G p k + 1) := by rw [d1 k hk, nI_1]
    rw [if_neg (fun q => y' ((lg_cmp_0 _ _).mp q)), if_pos (show mK (cs I J A1 M) (1010 + 4 * p) = 7 from hsp.1), q_change hsp hk 1, Option.bind_some, c1, gR_cs 290 h.1 h.2.2.2.1, Option.bind_some, gI_cs 300 h.1, Option.bind_some, if_pos (show mK (cs I J _ M) 1000 = 9 from h.1), x_windOf h hD hd.1 hp, Option.bind_some, if_pos (show mK (cs I J _ M) 1008 = 8 from hva.1), he.2.2.1, lk2, e4', Option.bind_some, if_pos (show mK (cs I J _ M) (1010 + 4 * p) = 7 from hsp.1), q_change hsp hk (-1), Option.bind_some]
    have e5 : ur (u2 A1 (1011 + 4 * p) k (nI (eH G p k + 1))) 1009 w' (1011 + 4 * p) k + -1 = A1 (1011 + 4 * p) k := by
      have e6 : ur (u2 A1 (1011 + 4 * p) k (nI (eH G p k + 1))) 1009 w' (1011 + 4 * p) k = nI (eH G p k + 1) := (ur_ne _ k w' (by omega)).trans (if_pos ⟨rfl, rfl⟩)
      rw [e6, ← c1]
      grind
    rw [e5, u2_ur_ne _ k _ w' (by omega), u2_back A1 (1011 + 4 * p) k _ _ rfl]
    refine ⟨_, ?_, hc1.own (own_ur A1 w' (q := 1009) (Or.inr rfl))⟩
    unfold wth
    rw [if_neg y]
end XWORTH
section XWORTHR
variable {M : zM} {G : zG} {hp dl : Nat → Nat}
theorem r_worth_bad (h : RS M hp dl) {i1 : Int32} (y : pBad i1) (i2 : Int32) : f_X7_worth 1026 i1 i2 M = some (0, cs (th 1 (mI M)) (mJ M) (mA M) M) := by
  unfold f_X7_worth f_X7_worth_0
  rw [r_noPl_bad y, Option.bind_some]
  dsimp only
  rw [if_pos h.1.1, m11 h, Option.bind_some]
  dsimp only
  rw [if_neg (show ¬ (1 : Int32) = 0 by decide)]
theorem r_worth_bad2 (h : RS M hp dl) {p : Nat} (hp4 : p < 4) {i2 : Int32} (y2 : oBad i2) : f_X7_worth 1026 (nI p) i2 M = some (0, cs (th 2 (mI M)) (mJ M) (mA M) M) := by
  unfold f_X7_worth f_X7_worth_0
  rw [r_noPl_ok hp4, Option.bind_some]
  dsimp only
  rw [if_pos h.1.1, m10 h, Option.bind_some]
  dsimp only
  rw [if_pos rfl, r_kind_bad y2, Option.bind_some]
  dsimp only
  rw [if_pos rfl]
  unfold f_X7_worth_25
  rw [if_pos (show mK (cs (th 0 (mI M)) (mJ M) (mA M) M) 1026 = 13 from h.1.1), f21 h, Option.bind_some]
  dsimp only
  rw [if_neg (show ¬ (1 : Int32) = 0 by decide)]
theorem x_worthR (h : RS M hp dl) (hx : WX G) (h9 : W9 G) (hn : RN (mI M) (mJ M) (mA M) M G hp dl) (hq : WQ G) {e : zPt} (re : RE (mI M) e) {p k lk : Nat} (hp4 : p < 4) (hk : k < 25) (hlk : eS G 7 ≠ 0 → lk < 25 ∧ e.2.2.2.1 = nI lk) : ∃ M', f_X7_worth 1026 (nI p) (nI k) M = some (wth G p k lk, M') ∧ RB 29 158 M M' G hp dl ∧ mI M' 416 1026 = 0 := by
  have k13 := h.1.1
  have hX := h.2.2.2.2.2.2.2
  have hs := h.2.1 p hp4
  have hh := h.2.2.1 p hp4
  have hw1 := (hq.1.2.2.2.2.2.2.2.2.2.2 p hp4).1
  have hN3 := (hq.1.2.2.2.2.2.2.2.2.2.2 p hp4).2.1
  have hz := hq.2.2.2.2 p hp4
  obtain ⟨A', e1, f1⟩ := r_waitsG (I := th 0 (mI M)) (J := mJ M) (A := mA M) h (hn.th 0) hq.1 hp4
  unfold f_X7_worth f_X7_worth_0
  rw [r_noPl_ok hp4, Option.bind_some]
  dsimp only
  rw [if_pos h.1.1, m10 h, Option.bind_some]
  dsimp only
  rw [if_pos rfl, r_kind_ok hk, Option.bind_some]
  dsimp only
  rw [if_neg (show ¬ (1 : Int32) = 0 by decide)]
  unfold f_X7_worth_25
  rw [if_pos (show mK (cs (th 0 (mI M)) (mJ M) (mA M) M) 1026 = 13 from k13), f20 h, Option.bind_some]
  dsimp only
  rw [if_pos rfl, gR_cs 417 k13 h.1.2.1, Option.bind_some, h.pl hp4, Option.bind_some, if_pos (show mK (cs (th 0 (mI M)) (mJ M) (mA M) M) (1028 + 4 * p) = 12 from hs.1), e1, Option.bind_some]
  dsimp only
  by_cases y : btk (gW G p) k = 0
  · have y' : (gW G p >>> ((nI k).toInt64 &&& 63)) &&& 1 = 0 := y
    rw [if_pos ((lg_cmp_0 _ _).mpr y')]
    unfold wth
    rw [if_pos y]
    exact ⟨_, rfl, ⟨h, f1, by show mX M ≤ mX M + 29; omega, by show mS M ≤ mS M + 158; omega⟩, u2_at (mI M) 416 1026 0⟩
  · have y' : ¬ (gW G p >>> ((nI k).toInt64 &&& 63)) &&& 1 = 0 := y
    obtain ⟨h7, o1, o2⟩ := wth_ok hx hp4 hk y
    obtain ⟨lk1, lk2⟩ := hlk h7
    have hlk1 : th 0 (mI M) 421 1026 = nI lk := ((re.th 0).2.2.1).trans lk2
    have s6 : th 0 (mI M) 424 1026 + 1 = nI (eS G 6) := (hn.th 0).1.2.2.1
    have hd : eS G 6 - 1 < 4 ∧ eS G 6 - 1 + 1 = eS G 6 := by
      rcases hx.2.2.2.2.2.2.1 with ⟨z, -⟩ | ⟨-, z⟩
      · exact absurd z h7
      · omega
    rw [← hd.2] at s6
    have hD := dl_eq s6
    have hrow := (f1.2.1 p hp4).1 k hk
    have hk4 := hw1 k hk
    have f2 := f1.hand h hp4 hk (v := eH G p k + 1)
    have hgt := wH_H G p k (eH G p k + 1)
    have hsu := sn_u1 (eH G p) k (eH G p k + 1) 25 0 (Nat.zero_le _) (by omega)
    have h5 : ∀ j, j < 25 → alk (u1 (eH G p) k (eH G p k + 1)) (eV G p) (eN G p) j ≤ 5 := fun j hj => by
      have := alk_tt hx h7 hp4 hj
      rw [alk_u1]
      split <;> omega
    obtain ⟨Y, y1, y2, y3⟩ := val_eq (wd := (p + 4 - (eS G 6 - 1)) % 4) (Nat.mod_lt _ (by decide)) (h9 p hp4) o2 h5 false (eC G p) (opN G p) lk
    obtain ⟨M2, t1, t2⟩ := x_valueR (M := cs (th 0 (mI M)) (mJ M) (u2 A' (hp p) k (nI (eH G p k + 1))) M) (h.vb (G := wH G p k (eH G p k + 1)) f2.2 hp4 hN3 (fun j hj => hq.2.1 p hp4 j hj) hlk1 lk1) h.1.2.1 (h.pl hp4) hD hd.1 hp4 hN3 (f1.2.1 p hp4).2.2.2.2 false (g := u1 (eH G p) k (eH G p k + 1)) (fun j hj => by
      by_cases z : j = k
      · rw [z, u1_at]; omega
      · rw [u1_ne _ _ z]; have := hw1 j hj; omega) (show sn (u1 (eH G p) k (eH G p k + 1)) 0 25 + 3 * eN G p = 11 by omega) (fun j hj => by
      have := (f2.2.1 p hp4).1 j hj
      rw [hgt] at this
      exact this) y1 y2
    have ev : min 12 (Y + vtl false (eC G p) (opN G p) lk (alk (u1 (eH G p) k (eH G p k + 1)) (eV G p) (eN G p))) = VLG false (wH G p k (eH G p k + 1)) p lk (eS G 6 - 1) := by
      unfold VLG
      rw [hgt]
      exact y3
    have t1' : f_X7_value 1026 (nI p) 0 (cs (th 0 (mI M)) (mJ M) (u2 A' (hp p) k (nI (eH G p k + 1))) M) = some (nI (VLG false (wH G p k (eH G p k + 1)) p lk (eS G 6 - 1)), M2) := by
      rw [← ev]
      exact t1
    have hS2 := RS.st (M := cs (th 0 (mI M)) (mJ M) (u2 A' (hp p) k (nI (eH G p k + 1))) M) h (ST.km t2)
    have hN2 : RN (mI M2) (mJ M2) (mA M2) M2 (wH G p k (eH G p k + 1)) hp dl := RN.km (M := cs (th 0 (mI M)) (mJ M) (u2 A' (hp p) k (nI (eH G p k + 1))) M) f2 h t2
    have hs2 := hS2.2.1 p hp4
    have hh2 := hS2.2.2.1 p hp4
    have hrow2 : mA M2 (hp p) k = nI (eH G p k + 1) := ((hN2.2.1 p hp4).1 k hk).trans (congrArg nI (by rw [hgt, u1_at]))
    have hN3' := hN2.hand hS2 hp4 hk (v := eH G p k)
    rw [wH_back] at hN3'
    have e416 : mI M2 416 1026 = 0 := ((t2.2 1026 (by show 1026 < mX M; omega)).2.2.1 416).trans (u2_at (mI M) 416 1026 0)
    rw [if_neg (fun q => y' ((lg_cmp_0 _ _).mp q)), gR_cs 386 hs.1 hs.2.1, Option.bind_some, lA_cs hh.1 (by rw [hh.2.1]; exact hk) (by rw [hh.2.1]; decide), Option.bind_some, hrow, nI_1, tA_cs hh.1 (by rw [hh.2.1]; exact hk) (by rw [hh.2.1]; decide), Option.bind_some, if_pos (show mK (cs (th 0 (mI M)) (mJ M) _ M) 1026 = 13 from k13), t1', Option.bind_some]
    dsimp only
    rw [e_gR 386 hs2.1 hs2.2.1, Option.bind_some, e_lA hh2.1 (by rw [hh2.2.1]; exact hk) (by rw [hh2.2.1]; decide), Option.bind_some, hrow2, show nI (eH G p k + 1) - 1 = nI (eH G p k) from nI_pred _, e_tA hh2.1 (by rw [hh2.2.1]; exact hk) (by rw [hh2.2.1]; decide), Option.bind_some]
    unfold wth
    rw [if_neg y]
    exact ⟨_, rfl, ⟨hS2, hN3', t2.1.2.1, t2.1.2.2⟩, e416⟩
end XWORTHR
section ASKWO
variable {n : Nat} {xs : Nat → Int32} {M : zM} {G : zG} {hp dl : Nat → Nat}
theorem CK.lk (h : CK n xs M G G hp dl) {e : zPt} (re : RE (mI M) e) : ∃ lk, eS G 7 ≠ 0 → lk < 25 ∧ e.2.2.2.1 = nI lk := by
  by_cases y : eS G 7 = 0
  · exact ⟨0, fun z => absurd y z⟩
  · obtain ⟨k, k1, k2⟩ := h.lucky y re
    exact ⟨k, fun _ => ⟨k1, k2⟩⟩
theorem tj_worth (h : CK n xs M G G hp dl) (hx : WX G) (h9 : W9 G) {cc : Nat} (ke : EK cc M) (hr : eS G 7 < 2 ^ 20) (i1 i2 : Int32) : SET n xs cc M G (f_L_worth 1000 i1 i2 1045 M) (fun M1 => f_X7_worth 1026 i1 i2 M1) := by
  have hw := hx.f hr
  have kf := kc_X3_worth h.2.2.1.1 own1000 (FC.rf M) (i1 := i1) (i2 := i2)
  have kn := fun (M1 : zM) (k1 : CK n xs M1 G G hp dl) => kn_X7_worth k1.2.2.1.2.1 k1.fn (i1 := i1) (i2 := i2) (a0 := 1026)
  obtain ⟨tb, e0, ce0, re0, -⟩ := id ke
  unfold f_L_worth f_L_worth_0
  rw [if_pos h.1.1.1]
  by_cases y1 : pBad i1
  · have e : f_X3_worth 1000 i1 i2 M = some (.inl "java/lang/IndexOutOfBoundsException", nE M) := by
      unfold f_X3_worth f_X3_worth_0
      rw [q_pl_bad y1]
      rfl
    exact SET.bd h hx h9 ke hw kf e h.1.2 (k := 1) (by decide) (fun _ => if_pos rfl) kn (fun M1 k1 => thr_et (k := k1) (r_worth_bad k1.2.1.1 y1 i2))
  · obtain ⟨p, hp4, rfl⟩ := pBad_no y1
    by_cases y2 : oBad i2
    · have e : f_X3_worth 1000 (nI p) i2 M = some (.inl "java/lang/IllegalArgumentException", nE M) := by
        unfold f_X3_worth f_X3_worth_0
        rw [q_pl_ok hp4]
        show xb (f_X3_requireKind i2 M) _ = _
        rw [q_bad y2]
        rfl
      exact SET.bd h hx h9 ke hw kf e h.1.2 (k := 2) (by decide) (fun _ => (if_neg (by decide)).trans (if_pos rfl)) kn (fun M1 k1 => thr_et (k := k1) (r_worth_bad2 k1.2.1.1 hp4 y2))
    · obtain ⟨k, hk, rfl⟩ := oBad_no y2
      obtain ⟨lk, hlk⟩ := h.lk re0
      obtain ⟨A', e, hc⟩ := x_worth (I := mI M) (J := mJ M) (A := mA M) h.1.1 hx hw h.1.2 ce0 hp4 hk hlk
      refine SET.ask h hx h9 ke hw kf e hc kn (fun M1 => kq_X7_worth (FQ.rf M1)) (fun M1 k1 _ hre => ?_)
      obtain ⟨M2, r1, r2, r3⟩ := x_worthR k1.2.1.1 hx h9 k1.2.1.2 (hx.q hr) (hre e0 re0) hp4 hk hlk
      exact ⟨M2, r1, r2.w (by decide) (by decide), r3⟩
end ASKWO
