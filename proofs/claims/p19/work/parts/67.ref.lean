/-! ===== PURE, THE REFERENCE: what is asked, 2 ===== -/
/-- the game is held still, with at most so many cells and slots more -/
def RB (c s : Nat) (M0 M' : zM) (G : zG) (hp dl : Nat → Nat) : Prop := RS M' hp dl ∧ RN (mI M') (mJ M') (mA M') M' G hp dl ∧ (mX M' ≤ mX M0 + c ∧ mS M' ≤ mS M0 + s)
/-- it comes to an answer, and holds the game still -/
def RX {α : Type} (c s : Nat) (M0 : zM) (G : zG) (hp dl : Nat → Nat) (x : Option (α × zM)) : Prop := ∃ v M', x = some (v, M') ∧ RB c s M0 M' G hp dl
section RASK2
variable {M M0 : zM} {G : zG} {hp dl : Nat → Nat}
theorem RB.w {c s c' s' : Nat} (h : RB c s M0 M G hp dl) (hc : c ≤ c') (hs : s ≤ s') : RB c' s' M0 M G hp dl := ⟨h.1, h.2.1, by have := h.2.2; omega⟩
theorem RB.tr {c s c' s' : Nat} {M1 : zM} (h : RB c s M0 M1 G hp dl) (g : RB c' s' M1 M G hp dl) : RB (c + c') (s + s') M0 M G hp dl := ⟨g.1, g.2.1, by have := h.2.2; have := g.2.2; omega⟩
theorem RX.w {α : Type} {c s c' s' : Nat} {x : Option (α × zM)} (h : RX c s M0 G hp dl x) (hc : c ≤ c') (hs : s ≤ s') : RX c' s' M0 G hp dl x := by
  obtain ⟨v, M', e, b⟩ := h
  exact ⟨v, M', e, b.w hc hs⟩
theorem RB.km {c s : Nat} {M' : zM} (h : RS M hp dl) (hn : RN (mI M) (mJ M) (mA M) M G hp dl) (k : KM c s M M') : RB c s M M' G hp dl := ⟨h.st (ST.km k), hn.km h k, k.1.2⟩
theorem RB.rf (h : RS M hp dl) (hn : RN (mI M) (mJ M) (mA M) M G hp dl) : RB 0 0 M M G hp dl := RB.km h hn (KM.rf M)
theorem r_players (h : RS M hp dl) {p : Nat} (hp4 : p < 4) : gR 13 1 M 1026 = some 1027 ∧ lQ 2 M 1027 (nI p) = some (1028 + 4 * p) := ⟨e_gR 417 h.1.1 h.1.2.1, RS.pl (I := mI M) (J := mJ M) (A := mA M) h hp4⟩
/-- the conditions under which all is asked -/
def WQ (G : zG) : Prop := WF G ∧ WV G ∧ WD G ∧ (eS G 7 = 0 → ∀ p, p < 4 → sn (eH G p) 0 25 + 3 * eN G p = 0) ∧ WZ G
theorem hand_sum (hw : WF G) {p : Nat} (hp4 : p < 4) : sn (eH G p) 0 25 ≤ 100 := sn_le (eH G p) 4 25 0 (fun k _ q => (hw.2.2.2.2.2.2.2.2.2.2 p hp4).1 k (by omega))
theorem r_far (h : RS M hp dl) (hn : RN (mI M) (mJ M) (mA M) M G hp dl) (hq : WQ G) {p : Nat} (hp4 : p < 4) : RX 0 0 M G hp dl (f_X6_far (1028 + 4 * p) M) := by
  obtain ⟨n1, n2, -⟩ := hn.2.1 p hp4
  have hw1 := (hq.1.2.2.2.2.2.2.2.2.2.2 p hp4).1
  have hz := hq.2.2.2.2 p hp4
  obtain ⟨v, w', e, f⟩ := r_X6_far (I := mI M) (J := mJ M) (A := mA M) (w := mA M (hp p)) (h.ps hp4) n2.1 (g := eH G p) n1 (fun k hk => by have := hw1 k hk; omega) (by omega)
  rw [ur_self] at e
  exact ⟨v, _, e, h, hn.row h hp4 f, Nat.le_refl _, Nat.le_refl _⟩
theorem r_farWith (h : RS M hp dl) (hn : RN (mI M) (mJ M) (mA M) M G hp dl) (hq : WQ G) {p k : Nat} (hp4 : p < 4) (hk : k < 25) (x : Int32) (hx : x = 1 ∨ (x = -1 ∧ eH G p k ≠ 0)) : RX 0 0 M G hp dl (f_X6_farWith (1028 + 4 * p) (nI k) x M) := by
  obtain ⟨n1, n2, -⟩ := hn.2.1 p hp4
  have hw1 := (hq.1.2.2.2.2.2.2.2.2.2.2 p hp4).1
  have hz := hq.2.2.2.2 p hp4
  have hk4 := hw1 k hk
  obtain ⟨y, hy, hy5⟩ : ∃ y, mA M (hp p) k + x = nI y ∧ y ≤ eH G p k + 1 := by
    rw [n1 k hk]
    rcases hx with rfl | ⟨rfl, hx⟩
    · exact ⟨eH G p k + 1, nI_1 _, Nat.le_refl _⟩
    · obtain ⟨j, hj⟩ : ∃ j, eH G p k = j + 1 := ⟨eH G p k - 1, by omega⟩
      exact ⟨j, by rw [hj, pk_m1], by omega⟩
  have hsn := sn_u1 (eH G p) k y 25 0 (Nat.zero_le _) (by omega)
  obtain ⟨v, w', e, f⟩ := r_X6_farWith (I := mI M) (J := mJ M) (A := mA M) (w := mA M (hp p)) (h.ps hp4) n2.1 (g := eH G p) (g' := u1 (eH G p) k y) n1 x hk (by rw [u1_at]; exact hy) (fun j hj => u1_ne _ _ hj) (fun j hj => by
    by_cases z : j = k
    · rw [z, u1_at]; omega
    · rw [u1_ne _ _ z]; have := hw1 j hj; omega) (by omega)
  rw [ur_self] at e
  exact ⟨v, _, e, h, hn.row h hp4 f, Nat.le_refl _, Nat.le_refl _⟩
theorem r_bar (h : RS M hp dl) (hn : RN (mI M) (mJ M) (mA M) M G hp dl) (hq : WQ G) {p : Nat} (hp4 : p < 4) : RX 0 0 M G hp dl (f_X7_isBarred 1026 (1028 + 4 * p) M) := by
  obtain ⟨A', e, f⟩ := r_isBarred (I := mI M) (J := mJ M) (A := mA M) h hn hq.1 hp4
  exact ⟨_, _, e, h, f, Nat.le_refl _, Nat.le_refl _⟩
theorem r_ofPlayerNow (h : RS M hp dl) (hn : RN (mI M) (mJ M) (mA M) M G hp dl) (hq : WQ G) {p : Nat} (hp4 : p < 4) (x : Int32) : RX 1 4 M G hp dl (f_X7_ofPlayerNow 1026 (nI p) x M) := by
  have hs := h.2.1 p hp4
  have k := h.1.1
  obtain ⟨q1, q2⟩ := r_players h hp4
  have hrf := (RB.rf h hn).w (c' := 1) (s' := 4) (Nat.zero_le _) (Nat.zero_le _)
  have hlv := h.lv (I := mI M) (J := mJ M) (A := mA M) hn hq.1 hp4
  have hlr := h.lr (I := mI M) (J := mJ M) (A := mA M) hn hq.1 hp4
  have kl1 : mK M (1030 + 4 * p) = 5 := hs.2.2.2.2.1
  have kl2 : mK M (1031 + 4 * p) = 5 := hs.2.2.2.2.2
  have z1 : f_Jx4a65c_size_8abf5 (1030 + 4 * p) M = some (nI (eN G p), M) := r_size (I := mI M) (J := mJ M) (A := mA M) kl1 hlv.1.2.2.1
  have z2 : f_Jx4a65c_size_8abf5 (1031 + 4 * p) M = some (nI (eM G p), M) := r_size (I := mI M) (J := mJ M) (A := mA M) kl2 hlr.1.2.2.1
  unfold f_X7_ofPlayerNow f_X7_ofPlayerNow_0
  rw [q1, Option.bind_some, q2, Option.bind_some]
  by_cases y0 : x = 0
  · rw [if_pos y0, e_gI 384 hs.1, Option.bind_some]
    exact ⟨_, M, rfl, hrf⟩
  rw [if_neg y0]
  by_cases y1 : x = 1
  · rw [if_pos y1, e_gR 387 hs.1 hs.2.2.1, Option.bind_some, if_pos kl1, z1, Option.bind_some]
    exact ⟨_, M, rfl, hrf⟩
  rw [if_neg y1]
  by_cases y2 : x = 2
  · obtain ⟨M1, e1, k1⟩ := r_open (M := M) hs.1 hs.2.2.1 hlv (fun j hj => hq.2.1 p hp4 j hj)
    rw [if_pos y2, if_pos hs.1, e1, Option.bind_some]
    exact ⟨_, M1, rfl, RB.km h hn k1⟩
  rw [if_neg y2]
  by_cases y3 : x = 3
  · have et : f_X6_tiles (1028 + 4 * p) M = some (nI (sn (eH G p) 0 25), M) := r_tiles (I := mI M) (J := mJ M) (A := mA M) (h.ps hp4) (hn.2.1 p hp4).1
    rw [if_pos y3, if_pos hs.1, et, Option.bind_some]
    exact ⟨_, M, rfl, hrf⟩
  rw [if_neg y3]
  by_cases y4 : x = 4
  · rw [if_pos y4, e_gR 388 hs.1 hs.2.2.2.1, Option.bind_some, if_pos kl2, z2, Option.bind_some]
    exact ⟨_, M, rfl, hrf⟩
  rw [if_neg y4]
  by_cases y5 : x = 5
  · rw [if_pos y5, e_gI 390 hs.1, Option.bind_some]
    split
    · exact ⟨_, M, rfl, hrf⟩
    · exact ⟨_, M, rfl, hrf⟩
  rw [if_neg y5]
  by_cases y6 : x = 6
  · obtain ⟨v, M1, e1, b1⟩ := r_far h hn hq hp4
    rw [if_pos y6, if_pos hs.1, e1, Option.bind_some]
    exact ⟨_, M1, rfl, b1.w (Nat.zero_le _) (Nat.zero_le _)⟩
  rw [if_neg y6]
  by_cases y7 : x = 7
  · obtain ⟨v, e1⟩ := r_wind k (nI p)
    rw [if_pos y7, e_gI 424 k, Option.bind_some]
    split
    · exact ⟨_, M, rfl, hrf⟩
    · rw [e1, Option.bind_some]
      exact ⟨_, M, rfl, hrf⟩
  rw [if_neg y7]
  by_cases y8 : x = 8
  · rw [if_pos y8, e_gI 385 hs.1, Option.bind_some]
    exact ⟨_, M, rfl, hrf⟩
  obtain ⟨v, M1, e1, b1⟩ := r_bar h hn hq hp4
  rw [if_neg y8, if_pos k, e1, Option.bind_some]
  dsimp only
  split
  · exact ⟨_, M1, rfl, b1.w (Nat.zero_le _) (Nat.zero_le _)⟩
  · exact ⟨_, M1, rfl, b1.w (Nat.zero_le _) (Nat.zero_le _)⟩
theorem RB.th (h : RS M hp dl) (hn : RN (mI M) (mJ M) (mA M) M G hp dl) (w : Int32) : RB 0 0 M (cs (th w (mI M)) (mJ M) (mA M) M) G hp dl := ⟨h, hn.th w, Nat.le_refl _, Nat.le_refl _⟩
theorem m10 (h : RS M hp dl) : f_X7_start 1026 0 1 M = some (0, cs (th 0 (mI M)) (mJ M) (mA M) M) := s10 (I := mI M) (J := mJ M) (A := mA M) h
theorem m11 (h : RS M hp dl) : f_X7_start 1026 1 1 M = some (1, cs (th 1 (mI M)) (mJ M) (mA M) M) := s11 (I := mI M) (J := mJ M) (A := mA M) h
theorem r_ofPlayer (h : RS M hp dl) (hn : RN (mI M) (mJ M) (mA M) M G hp dl) (hq : WQ G) (i1 x : Int32) : RX 1 4 M G hp dl (f_X7_ofPlayer 1026 i1 x M) := by
  unfold f_X7_ofPlayer f_X7_ofPlayer_0
  by_cases y : pBad i1
  · rw [r_noPl_bad y, Option.bind_some]
    dsimp only
    rw [if_pos h.1.1, m11 h, Option.bind_some]
    dsimp only
    rw [if_neg (show ¬ (1 : Int32) = 0 by decide)]
    exact ⟨_, _, rfl, (RB.th h hn 1).w (by decide) (by decide)⟩
  · obtain ⟨p, hp4, rfl⟩ := pBad_no y
    have hb := RB.th h hn 0
    rw [r_noPl_ok hp4, Option.bind_some]
    dsimp only
    rw [if_pos h.1.1, m10 h, Option.bind_some]
    dsimp only
    rw [if_pos rfl]
    obtain ⟨z, ez⟩ := r_isInE x 0 9 (cs (th 0 (mI M)) (mJ M) (mA M) M)
    rw [ez, Option.bind_some]
    dsimp only
    split
    · unfold f_X7_ofPlayer_28
      rw [if_pos (show mK (cs (th 0 (mI M)) (mJ M) (mA M) M) 1026 = 13 from h.1.1), f21 h, Option.bind_some]
      dsimp only
      rw [if_neg (show ¬ (1 : Int32) = 0 by decide)]
      exact ⟨_, _, rfl, (RB.th h hn 2).w (by decide) (by decide)⟩
    · unfold f_X7_ofPlayer_28
      rw [if_pos (show mK (cs (th 0 (mI M)) (mJ M) (mA M) M) 1026 = 13 from h.1.1), f20 h, Option.bind_some]
      dsimp only
      rw [if_pos rfl, if_pos (show mK (cs (th 0 (mI M)) (mJ M) (mA M) M) 1026 = 13 from h.1.1)]
      obtain ⟨v, M1, e1, b1⟩ := r_ofPlayerNow (M := cs (th 0 (mI M)) (mJ M) (mA M) M) hb.1 hb.2.1 hq hp4 x
      rw [e1, Option.bind_some]
      exact ⟨_, _, rfl, (hb.tr b1).w (by decide) (by decide)⟩
end RASK2
