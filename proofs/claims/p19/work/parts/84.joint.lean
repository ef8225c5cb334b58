/-! ===== BOTH: a lay; the law ===== -/
section LAW
variable {n : Nat} {xs : Nat → Int32} {M M' : zM} {G G' Gc Gr : zG} {hp dl hp' dl' : Nat → Nat}
theorem lgc (x : Int64) : lg_cmp x x = 0 := by
  unfold lg_cmp
  rw [if_neg (fun z => by
    have := Int64.lt_iff_toInt_lt.mp z
    omega), if_pos rfl]
theorem s_lay (h : CK n xs M G G hp dl) (hx : WX G) (hr : eS G 7 + 1 < 2 ^ 20) (i1 i2 : Int32) : ∃ v M1 w M2 G2 hp2 dl2, f_L_lay 1000 i1 i2 1045 M = some (v, M1) ∧ ROW n xs M1 ∧ f_X7_lay 1026 i1 i2 M1 = some (w, M2) ∧ CK n xs M2 G2 G2 hp2 dl2 ∧ mI M2 416 1026 = v ∧ (v = 0 → mJ M2 320 1045 = w.toInt64) ∧ WX G2 ∧ eS G2 7 ≤ eS G 7 + 1 ∧ (mX M2 ≤ mX M + 404 ∧ mS M2 ≤ mS M + 1640) := by
  have hw := hx.f (by omega)
  have kf := kc_X3_lay h.2.2.1.1 own1000 (FC.rf M) (i1 := i1) (i2 := i2)
  have q := q_lay (I := mI M) (J := mJ M) (A := mA M) h.1.1 hw h.1.2 i1 i2
  unfold f_L_lay f_L_lay_0
  rw [if_pos h.1.1.1]
  by_cases y : laB i1 i2
  · have eo : oLay G i1 i2 = some "java/lang/IllegalArgumentException" := if_pos y
    rw [eo] at q
    have q' : f_X3_lay 1000 i1 i2 M = some (.inl "java/lang/IllegalArgumentException", nE M) := q
    have ck : CK n xs (nE M) G G hp dl := h.c0 rfl rfl rfl rfl (kf _ q') h.1.1 h.1.2
    have r := r_lay_bad (I := mI (nE M)) (J := mJ (nE M)) (A := mA (nE M)) ck.2.1.1 y
    have r' : f_X7_lay 1026 i1 i2 (nE M) = some (0, cs (th 1 (mI (nE M))) (mJ (nE M)) (mA (nE M)) (nE M)) := r
    rw [q']
    exact ⟨1, nE M, 0, _, G, hp, dl, (show (if ("java/lang/IllegalArgumentException" : String) = "java/lang/IllegalArgumentException" then some ((1 : Int32), nE M) else if ("java/lang/IllegalArgumentException" : String) = "java/lang/IllegalStateException" then some ((2 : Int32), nE M) else none) = some (1, nE M) from if_pos rfl), ck.row, r', ck.ref hw (kn_X7_lay ck.2.2.1.2.1 ck.fn _ r') ck.2.1.1 (ck.2.1.2.th 1), u2_at (mI (nE M)) 416 1026 1, fun z => absurd z (by decide), hx, Nat.le_succ _, Nat.add_le_add_left (by decide) _, Nat.add_le_add_left (by decide) _⟩
  · have ok1 : ∃ st, st < 2 ^ 31 ∧ i1 = nI st := (nI_all i1).resolve_left (fun z => y (Or.inl z))
    have ok2 : ∃ sh, sh < 2 ^ 31 ∧ i2 = nI sh := (nI_all i2).resolve_left (fun z => y (Or.inr (Or.inr (Or.inr (Or.inr (Or.inr (Or.inl z)))))))
    obtain ⟨st, st1, rfl⟩ := ok1
    obtain ⟨sh, sh1, rfl⟩ := ok2
    have y' := y
    unfold laB at y'
    rw [nI_cl st1, nI_cl sh1] at y'
    have n1 : st ≠ 0 := fun z => y' (Or.inr (Or.inl z))
    have n2 : st < 100 := Nat.lt_of_not_le fun z => y' (Or.inr (Or.inr (Or.inl z)))
    have n3 : st % 2 ≠ 0 := fun z => y' (Or.inr (Or.inr (Or.inr (Or.inl z))))
    have n4 : st % 5 ≠ 0 := fun z => y' (Or.inr (Or.inr (Or.inr (Or.inr (Or.inl z)))))
    have n5 : sh < 100 := Nat.lt_of_not_le fun z => y' (Or.inr (Or.inr (Or.inr (Or.inr (Or.inr (Or.inr z))))))
    by_cases z : eS G 4 = 3
    · have eo : oLay G (nI st) (nI sh) = none := (if_neg y).trans (if_pos z)
      rw [eo] at q
      obtain ⟨I', J', A', e, hc⟩ := q
      rw [nI_cl st1, nI_cl sh1] at hc
      have e' : f_X3_lay 1000 (nI st) (nI sh) M = some (.inr (nI (eS G 6 % 4)), cs I' J' A' M) := e
      have ck : CK n xs (cs I' J' A' M) (gLay G st sh) G hp dl := h.c0 rfl rfl rfl rfl (kf _ e') h.1.1 hc
      have ck1 := ck.sJ (nI (eS G 6 % 4)).toInt64
      have ew : pJ 10 0 (cs I' J' A' M) 1045 (nI (eS G 6 % 4)).toInt64 = some (sJ (cs I' J' A' M) 320 1045 (nI (eS G 6 % 4)).toInt64) := e_pJ 320 ck.2.2.2.2
      have eJ : mJ (sJ (cs I' J' A' M) 320 1045 (nI (eS G 6 % 4)).toInt64) 320 1045 = (nI (eS G 6 % 4)).toInt64 := u2_at J' 320 1045 _
      have eX : mX (sJ (cs I' J' A' M) 320 1045 (nI (eS G 6 % 4)).toInt64) = mX M := rfl
      have eS' : mS (sJ (cs I' J' A' M) 320 1045 (nI (eS G 6 % 4)).toInt64) = mS M := rfl
      have hx' := hx.lay n2 n3 n4 n5
      have e7 : eS (gLay G st sh) 7 = eS G 7 + 1 := congrFun (gAll_S 4 0 (gBeg G st sh)) 7
      rw [e']
      have hX := ck1.2.1.1.2.2.2.2.2.2.2
      generalize sJ (cs I' J' A' M) 320 1045 (nI (eS G 6 % 4)).toInt64 = M1 at *
      rcases r_lay (I := mI M1) (J := mJ M1) (A := mA M1) ck1.2.1.1 ck1.2.1.2 hw hx.2.2.2.2.2.2.1 n1 n2 n3 n4 n5 with ⟨-, I2, J2, A2, M2, hp2, r1, r2, r3, r5, r4⟩ | ⟨u, -⟩
      · have r1' : f_X7_lay 1026 (nI st) (nI sh) M1 = some (nI (eS G 6 % 4), cs I2 J2 A2 M2) := r1
        have fn := kn_X7_lay ck1.2.2.1.2.1 ck1.fn _ r1'
        refine ⟨0, M1, nI (eS G 6 % 4), cs I2 J2 A2 M2, gLay G st sh, hp2, dl, ?_, ck1.row, r1', ck1.ref (hx'.f (by omega)) fn r2 r3, r5, fun _ => (fn.2.2 (by omega)).trans eJ, hx', by omega, ?_⟩
        · show (pJ 10 0 (cs I' J' A' M) 1045 _).bind _ = _
          rw [ew]
          rfl
        · have a1 : mX (cs I2 J2 A2 M2) = mX M2 := rfl
          have a2 : mS (cs I2 J2 A2 M2) = mS M2 := rfl
          omega
      · exact absurd z u
    · have eo : oLay G (nI st) (nI sh) = some "java/lang/IllegalStateException" := (if_neg y).trans (if_neg z)
      rw [eo] at q
      have q' : f_X3_lay 1000 (nI st) (nI sh) M = some (.inl "java/lang/IllegalStateException", nE M) := q
      have ck : CK n xs (nE M) G G hp dl := h.c0 rfl rfl rfl rfl (kf _ q') h.1.1 h.1.2
      rw [q']
      rcases r_lay (I := mI (nE M)) (J := mJ (nE M)) (A := mA (nE M)) ck.2.1.1 ck.2.1.2 hw hx.2.2.2.2.2.2.1 n1 n2 n3 n4 n5 with ⟨u, -⟩ | ⟨-, r⟩
      · exact absurd u z
      · have r' : f_X7_lay 1026 (nI st) (nI sh) (nE M) = some (0, cs (th 2 (mI (nE M))) (mJ (nE M)) (mA (nE M)) (nE M)) := r
        exact ⟨2, nE M, 0, _, G, hp, dl, (show (if ("java/lang/IllegalStateException" : String) = "java/lang/IllegalArgumentException" then some ((1 : Int32), nE M) else if ("java/lang/IllegalStateException" : String) = "java/lang/IllegalStateException" then some ((2 : Int32), nE M) else none) = some (2, nE M) from (if_neg (by decide)).trans (if_pos rfl)), ck.row, r', ck.ref hw (kn_X7_lay ck.2.2.1.2.1 ck.fn _ r') ck.2.1.1 (ck.2.1.2.th 2), u2_at (mI (nE M)) 416 1026 2, fun z => absurd z (by decide), hx, Nat.le_succ _, Nat.add_le_add_left (by decide) _, Nat.add_le_add_left (by decide) _⟩
theorem rdr (r : mK M 0 = 200 ∧ mL M 0 = n ∧ ∀ i, i < n → mA M 0 i = xs i) (hn : n ≤ 2048) {j : Nat} (hj : j < n) : lA 0 M 0 (nI j) = some (xs j) := by
  have e : lA 0 M 0 (nI j) = some (mA M 0 (nI j).toNatClampNeg) := if_pos ⟨Or.inr r.1, nI_oob (by rw [r.2.1]; exact hj) (by rw [r.2.1]; omega)⟩
  rw [e, nI_cl (by omega), r.2.2 j hj]
/-- what the law comes to -/
def END (x : Option (Unit × zM)) : Prop := ∃ M', x = some ((), M') ∧ mX M' ≤ 1000 + 601024 ∧ mS M' ≤ 7293034
theorem law_27 (hn : n ≤ 2048) : ∀ (k i m : Nat) (M : zM) (G : zG) (hp dl : Nat → Nat), i + k = n / 4 → k < m → CK n xs M G G hp dl → WX G → W9 G → EK i M → eS G 7 ≤ i → (mX M ≤ 1046 + 404 * i ∧ mS M ≤ 5000 + 1640 * i) → END (f_L_law_27 m 0 1000 1026 1045 (nI (4 * i)) M) := by
  intro k
  induction k with
  | zero =>
    intro i m M G hp dl hi hm hk hx h9 ke h7 hr
    obtain ⟨m, rfl⟩ : ∃ x, m = x + 1 := ⟨m - 1, by omega⟩
    have eL : gL M 0 = some (nI n) := e_gL (by rw [hk.2.2.2.1.1]; decide) hk.2.2.2.1.2.1
    have hlt : nI n - 4 < nI (4 * i) := by
      by_cases y : n < 4
      · have e0 : i = 0 := by omega
        subst e0
        have key : ∀ n, n < 4 → nI n - 4 < nI (4 * 0) := by decide
        exact key n y
      · have e4 : nI n - 4 = nI (n - 4) := pk_sub (b := 4) (by omega)
        rw [e4]
        exact lt_t (n - 4) (4 * i) (by omega) (by omega)
    rw [f_L_law_27, eL, Option.bind_some, if_pos hlt]
    exact ⟨M, rfl, by omega, by omega⟩
  | succ k ih =>
    intro i m M G hp dl hi hm hk hx h9 ke h7 hr
    obtain ⟨m, rfl⟩ : ∃ x, m = x + 1 := ⟨m - 1, by omega⟩
    have hr7 : eS G 7 < 2 ^ 20 := by omega
    have rw0 := hk.2.2.2.1
    have eL : gL M 0 = some (nI n) := e_gL (by rw [hk.2.2.2.1.1]; decide) hk.2.2.2.1.2.1
    have e4 : nI n - 4 = nI (n - 4) := pk_sub (b := 4) (by omega)
    have a1 : nI (4 * i) + 1 = nI (4 * i + 1) := nI_1 _
    have a2 : nI (4 * i) + 2 = nI (4 * i + 2) := nI_add _ 2
    have a3 : nI (4 * i) + 3 = nI (4 * i + 3) := nI_add _ 3
    have a4 : nI (4 * i) + 4 = nI (4 * (i + 1)) := nI_add _ 4
    have next : ∀ M2 G2 hp2 dl2, CK n xs M2 G2 G2 hp2 dl2 → WX G2 → W9 G2 → EK (i + 1) M2 → eS G2 7 ≤ eS G 7 + 1 → (mX M2 ≤ mX M + 404 ∧ mS M2 ≤ mS M + 1640) → END (f_L_law_27 m 0 1000 1026 1045 (nI (4 * (i + 1))) M2) := fun M2 G2 hp2 dl2 k2 x2 x9 xe y2 z2 => by
      have q1 : i + 1 + k = n / 4 := by omega
      have q2 : k < m := by omega
      have q3 : eS G2 7 ≤ i + 1 := by omega
      have q4 : mX M2 ≤ 1046 + 404 * (i + 1) := by omega
      have q5 : mS M2 ≤ 5000 + 1640 * (i + 1) := by omega
      exact ih (i + 1) m M2 G2 hp2 dl2 q1 q2 k2 x2 x9 xe q3 ⟨q4, q5⟩
    rw [f_L_law_27, eL, Option.bind_some, e4, if_neg (lt_f (n - 4) (4 * i) (by omega) (by omega)), rdr rw0 hn (show 4 * i < n by omega), Option.bind_some, a1, a2, a3, a4]
    by_cases b0 : xs (4 * i) &&& 31 = 0
    · obtain ⟨v, M1, w, M2, G2, hp2, dl2, e1, ⟨p1, p2⟩, e2, k2, ⟨u1, u2⟩, ⟨x2, x9, xe⟩, y2, z2⟩ := tj_lay hk hx h9 ke (by omega) (xs (4 * i + 1)) (xs (4 * i + 2))
      have e2 : f_X7_lay 1026 (xs (4 * i + 1)) (xs (4 * i + 2)) M1 = some (w, M2) := e2
      rw [if_pos b0, rdr rw0 hn (show 4 * i + 1 < n by omega), Option.bind_some, rdr rw0 hn (show 4 * i + 2 < n by omega), Option.bind_some, e1, Option.bind_some]
      dsimp only
      rw [rdr p2 hn (show 4 * i + 1 < n by omega), Option.bind_some, rdr p2 hn (show 4 * i + 2 < n by omega), Option.bind_some, if_pos p1, e2, Option.bind_some]
      exact next M2 G2 hp2 dl2 k2 x2 x9 xe y2 z2
    rw [if_neg b0]
    by_cases b1 : xs (4 * i) &&& 31 = 1
    · obtain ⟨v, M1, w, M2, G2, hp2, dl2, e1, ⟨p1, p2⟩, e2, k2, ⟨u1, u2⟩, ⟨x2, x9, xe⟩, y2, z2⟩ := tj_draw hk hx h9 ke hr7
      have e2 : f_X7_draw 1026 M1 = some (w, M2) := e2
      rw [if_pos b1, e1, Option.bind_some]
      dsimp only
      rw [if_pos p1, e2, Option.bind_some]
      exact next M2 G2 hp2 dl2 k2 x2 x9 xe y2 z2
    rw [if_neg b1]
    by_cases b2 : xs (4 * i) &&& 31 = 2
    · obtain ⟨v, M1, w, M2, G2, hp2, dl2, e1, ⟨p1, p2⟩, e2, k2, ⟨x2, x9, xe⟩, y2, z2⟩ := n_discard hk hx h9 ke hr7 (xs (4 * i + 1))
      have e2 : f_X7_discard 1026 (xs (4 * i + 1)) M1 = some (w, M2) := e2
      rw [if_pos b2, rdr rw0 hn (show 4 * i + 1 < n by omega), Option.bind_some, e1, Option.bind_some]
      dsimp only
      rw [rdr p2 hn (show 4 * i + 1 < n by omega), Option.bind_some, if_pos p1, e2, Option.bind_some]
      exact next M2 G2 hp2 dl2 k2 x2 x9 xe y2 z2
    rw [if_neg b2]
    by_cases b3 : xs (4 * i) &&& 31 = 3
    · obtain ⟨v, M1, w, M2, G2, hp2, dl2, e1, ⟨p1, p2⟩, e2, k2, ⟨u1, u2⟩, ⟨x2, x9, xe⟩, y2, z2⟩ := tj_call hk hx h9 ke hr7 (xs (4 * i + 1))
      have e2 : f_X7_call 1026 (xs (4 * i + 1)) M1 = some (w, M2) := e2
      rw [if_pos b3, rdr rw0 hn (show 4 * i + 1 < n by omega), Option.bind_some, e1, Option.bind_some]
      dsimp only
      rw [rdr p2 hn (show 4 * i + 1 < n by omega), Option.bind_some, if_pos p1, e2, Option.bind_some]
      exact next M2 G2 hp2 dl2 k2 x2 x9 xe y2 z2
    rw [if_neg b3]
    by_cases b4 : xs (4 * i) &&& 31 = 4
    · obtain ⟨v, M1, w, M2, G2, hp2, dl2, e1, ⟨p1, p2⟩, e2, k2, ⟨x2, x9, xe⟩, y2, z2⟩ := n_claim hk hx h9 ke hr7 (xs (4 * i + 1)) (xs (4 * i + 2)) (xs (4 * i + 3))
      have e2 : f_X7_claim 1026 (xs (4 * i + 1)) (xs (4 * i + 2)) (xs (4 * i + 3)) M1 = some (w, M2) := e2
      rw [if_pos b4, rdr rw0 hn (show 4 * i + 1 < n by omega), Option.bind_some, rdr rw0 hn (show 4 * i + 2 < n by omega), Option.bind_some, rdr rw0 hn (show 4 * i + 3 < n by omega), Option.bind_some, e1, Option.bind_some]
      dsimp only
      rw [rdr p2 hn (show 4 * i + 1 < n by omega), Option.bind_some, rdr p2 hn (show 4 * i + 2 < n by omega), Option.bind_some, rdr p2 hn (show 4 * i + 3 < n by omega), Option.bind_some, if_pos p1, e2, Option.bind_some]
      exact next M2 G2 hp2 dl2 k2 x2 x9 xe y2 z2
    rw [if_neg b4]
    by_cases b5 : xs (4 * i) &&& 31 = 5
    · obtain ⟨v, M1, w, M2, G2, hp2, dl2, e1, ⟨p1, p2⟩, e2, k2, ⟨x2, x9, xe⟩, y2, z2⟩ := n_four hk hx h9 ke hr7 (xs (4 * i + 1))
      have e2 : f_X7_four 1026 (xs (4 * i + 1)) M1 = some (w, M2) := e2
      rw [if_pos b5, rdr rw0 hn (show 4 * i + 1 < n by omega), Option.bind_some, e1, Option.bind_some]
      dsimp only
      rw [rdr p2 hn (show 4 * i + 1 < n by omega), Option.bind_some, if_pos p1, e2, Option.bind_some]
      exact next M2 G2 hp2 dl2 k2 x2 x9 xe y2 z2
    rw [if_neg b5]
    by_cases b6 : xs (4 * i) &&& 31 = 6
    · obtain ⟨v, M1, w, M2, G2, hp2, dl2, e1, ⟨p1, p2⟩, e2, k2, ⟨x2, x9, xe⟩, y2, z2⟩ := n_pass hk hx h9 ke hr7
      have e2 : f_X7_pass 1026 M1 = some (w, M2) := e2
      rw [if_pos b6, e1, Option.bind_some]
      dsimp only
      rw [if_pos p1, e2, Option.bind_some]
      exact next M2 G2 hp2 dl2 k2 x2 x9 xe y2 z2
    rw [if_neg b6]
    by_cases b7 : xs (4 * i) &&& 31 = 7
    · obtain ⟨v, M1, w, M2, G2, hp2, dl2, e1, ⟨p1, p2⟩, e2, k2, ⟨u1, u2⟩, ⟨x2, x9, xe⟩, y2, z2⟩ := tj_win hk hx h9 ke hr7 (xs (4 * i + 1))
      have e2 : f_X7_win 1026 (xs (4 * i + 1)) M1 = some (w, M2) := e2
      rw [if_pos b7, rdr rw0 hn (show 4 * i + 1 < n by omega), Option.bind_some, e1, Option.bind_some]
      dsimp only
      rw [rdr p2 hn (show 4 * i + 1 < n by omega), Option.bind_some, if_pos p1, e2, Option.bind_some]
      exact next M2 G2 hp2 dl2 k2 x2 x9 xe y2 z2
    rw [if_neg b7]
    by_cases b8 : xs (4 * i) &&& 31 = 8
    · obtain ⟨v, M1, w, M2, G2, hp2, dl2, e1, ⟨p1, p2⟩, e2, k2, ⟨x2, x9, xe⟩, y2, z2⟩ := n_has hk hx h9 ke hr7 (xs (4 * i + 1)) (xs (4 * i + 2))
      have e2 : f_X7_has 1026 (xs (4 * i + 1)) (xs (4 * i + 2)) M1 = some (w, M2) := e2
      rw [if_pos b8, rdr rw0 hn (show 4 * i + 1 < n by omega), Option.bind_some, rdr rw0 hn (show 4 * i + 2 < n by omega), Option.bind_some, e1, Option.bind_some]
      dsimp only
      rw [rdr p2 hn (show 4 * i + 1 < n by omega), Option.bind_some, rdr p2 hn (show 4 * i + 2 < n by omega), Option.bind_some, if_pos p1, e2, Option.bind_some]
      exact next M2 G2 hp2 dl2 k2 x2 x9 xe y2 z2
    rw [if_neg b8]
    by_cases b9 : xs (4 * i) &&& 31 = 9
    · obtain ⟨v, M1, w, M2, G2, hp2, dl2, e1, ⟨p1, p2⟩, e2, k2, ⟨x2, x9, xe⟩, y2, z2⟩ := n_ofPlayer hk hx h9 ke hr7 (xs (4 * i + 1)) (xs (4 * i + 2))
      have e2 : f_X7_ofPlayer 1026 (xs (4 * i + 1)) (xs (4 * i + 2)) M1 = some (w, M2) := e2
      rw [if_pos b9, rdr rw0 hn (show 4 * i + 1 < n by omega), Option.bind_some, rdr rw0 hn (show 4 * i + 2 < n by omega), Option.bind_some, e1, Option.bind_some]
      dsimp only
      rw [rdr p2 hn (show 4 * i + 1 < n by omega), Option.bind_some, rdr p2 hn (show 4 * i + 2 < n by omega), Option.bind_some, if_pos p1, e2, Option.bind_some]
      exact next M2 G2 hp2 dl2 k2 x2 x9 xe y2 z2
    rw [if_neg b9]
    by_cases b10 : xs (4 * i) &&& 31 = 10
    · obtain ⟨v, M1, w, M2, G2, hp2, dl2, e1, ⟨p1, p2⟩, e2, k2, ⟨x2, x9, xe⟩, y2, z2⟩ := n_ofSet hk hx h9 ke hr7 (xs (4 * i + 1)) (xs (4 * i + 2))
      have e2 : f_X7_ofSet 1026 (xs (4 * i + 1)) (xs (4 * i + 2)) M1 = some (w, M2) := e2
      rw [if_pos b10, rdr rw0 hn (show 4 * i + 1 < n by omega), Option.bind_some, rdr rw0 hn (show 4 * i + 2 < n by omega), Option.bind_some, e1, Option.bind_some]
      dsimp only
      rw [rdr p2 hn (show 4 * i + 1 < n by omega), Option.bind_some, rdr p2 hn (show 4 * i + 2 < n by omega), Option.bind_some, if_pos p1, e2, Option.bind_some]
      exact next M2 G2 hp2 dl2 k2 x2 x9 xe y2 z2
    rw [if_neg b10]
    by_cases b11 : xs (4 * i) &&& 31 = 11
    · obtain ⟨v, M1, w, M2, G2, hp2, dl2, e1, ⟨p1, p2⟩, e2, k2, ⟨x2, x9, xe⟩, y2, z2⟩ := n_river hk hx h9 ke hr7 (xs (4 * i + 1)) (xs (4 * i + 2))
      have e2 : f_X7_river 1026 (xs (4 * i + 1)) (xs (4 * i + 2)) M1 = some (w, M2) := e2
      rw [if_pos b11, rdr rw0 hn (show 4 * i + 1 < n by omega), Option.bind_some, rdr rw0 hn (show 4 * i + 2 < n by omega), Option.bind_some, e1, Option.bind_some]
      dsimp only
      rw [rdr p2 hn (show 4 * i + 1 < n by omega), Option.bind_some, rdr p2 hn (show 4 * i + 2 < n by omega), Option.bind_some, if_pos p1, e2, Option.bind_some]
      exact next M2 G2 hp2 dl2 k2 x2 x9 xe y2 z2
    rw [if_neg b11]
    by_cases b12 : xs (4 * i) &&& 31 = 12
    · obtain ⟨v, M1, w, M2, G2, hp2, dl2, e1, ⟨p1, p2⟩, e2, k2, ⟨x2, x9, xe⟩, y2, z2⟩ := n_waits hk hx h9 ke hr7 (xs (4 * i + 1))
      have e2 : f_X7_waits 1026 (xs (4 * i + 1)) M1 = some (w, M2) := e2
      rw [if_pos b12, rdr rw0 hn (show 4 * i + 1 < n by omega), Option.bind_some, e1, Option.bind_some]
      dsimp only
      rw [rdr p2 hn (show 4 * i + 1 < n by omega), Option.bind_some, if_pos p1, e2, Option.bind_some]
      exact next M2 G2 hp2 dl2 k2 x2 x9 xe y2 z2
    rw [if_neg b12]
    by_cases b13 : xs (4 * i) &&& 31 = 13
    · obtain ⟨v, M1, w, M2, G2, hp2, dl2, e1, ⟨p1, p2⟩, e2, k2, ⟨x2, x9, xe⟩, y2, z2⟩ := n_seen hk hx h9 ke hr7 (xs (4 * i + 1))
      have e2 : f_X7_seen 1026 (xs (4 * i + 1)) M1 = some (w, M2) := e2
      rw [if_pos b13, rdr rw0 hn (show 4 * i + 1 < n by omega), Option.bind_some, e1, Option.bind_some]
      dsimp only
      rw [rdr p2 hn (show 4 * i + 1 < n by omega), Option.bind_some, if_pos p1, e2, Option.bind_some]
      exact next M2 G2 hp2 dl2 k2 x2 x9 xe y2 z2
    rw [if_neg b13]
    by_cases b14 : xs (4 * i) &&& 31 = 14
    · obtain ⟨v, M1, w, M2, G2, hp2, dl2, e1, ⟨p1, p2⟩, e2, k2, ⟨x2, x9, xe⟩, y2, z2⟩ := n_hand hk hx h9 ke hr7 (xs (4 * i + 1))
      have e2 : f_X7_hand 1026 (xs (4 * i + 1)) M1 = some (w, M2) := e2
      rw [if_pos b14, rdr rw0 hn (show 4 * i + 1 < n by omega), Option.bind_some, e1, Option.bind_some]
      dsimp only
      rw [rdr p2 hn (show 4 * i + 1 < n by omega), Option.bind_some, if_pos p1, e2, Option.bind_some]
      exact next M2 G2 hp2 dl2 k2 x2 x9 xe y2 z2
    rw [if_neg b14]
    by_cases b15 : xs (4 * i) &&& 31 = 15
    · obtain ⟨v, M1, w, M2, G2, hp2, dl2, e1, ⟨p1, p2⟩, e2, k2, ⟨x2, x9, xe⟩, y2, z2⟩ := n_many hk hx h9 ke hr7 (xs (4 * i + 1))
      have e2 : f_X7_many 1026 (xs (4 * i + 1)) M1 = some (w, M2) := e2
      rw [if_pos b15, rdr rw0 hn (show 4 * i + 1 < n by omega), Option.bind_some, e1, Option.bind_some]
      dsimp only
      rw [rdr p2 hn (show 4 * i + 1 < n by omega), Option.bind_some, if_pos p1, e2, Option.bind_some]
      exact next M2 G2 hp2 dl2 k2 x2 x9 xe y2 z2
    rw [if_neg b15]
    by_cases b16 : xs (4 * i) &&& 31 = 16
    · obtain ⟨v, M1, w, M2, G2, hp2, dl2, e1, ⟨p1, p2⟩, e2, k2, ⟨x2, x9, xe⟩, y2, z2⟩ := n_lead hk hx h9 ke hr7 (xs (4 * i + 1))
      have e2 : f_X7_lead 1026 (xs (4 * i + 1)) M1 = some (w, M2) := e2
      rw [if_pos b16, rdr rw0 hn (show 4 * i + 1 < n by omega), Option.bind_some, e1, Option.bind_some]
      dsimp only
      rw [rdr p2 hn (show 4 * i + 1 < n by omega), Option.bind_some, if_pos p1, e2, Option.bind_some]
      exact next M2 G2 hp2 dl2 k2 x2 x9 xe y2 z2
    rw [if_neg b16]
    by_cases b17 : xs (4 * i) &&& 31 = 17
    · obtain ⟨v, M1, w, M2, G2, hp2, dl2, e1, ⟨p1, p2⟩, e2, k2, ⟨u1, u2⟩, ⟨x2, x9, xe⟩, y2, z2⟩ := tj_worth hk hx h9 ke hr7 (xs (4 * i + 1)) (xs (4 * i + 2))
      have e2 : f_X7_worth 1026 (xs (4 * i + 1)) (xs (4 * i + 2)) M1 = some (w, M2) := e2
      rw [if_pos b17, rdr rw0 hn (show 4 * i + 1 < n by omega), Option.bind_some, rdr rw0 hn (show 4 * i + 2 < n by omega), Option.bind_some, e1, Option.bind_some]
      dsimp only
      rw [rdr p2 hn (show 4 * i + 1 < n by omega), Option.bind_some, rdr p2 hn (show 4 * i + 2 < n by omega), Option.bind_some, if_pos p1, e2, Option.bind_some]
      dsimp only
      have et : f_X7_thrown 1026 M2 = some (v, M2) := by
        unfold f_X7_thrown f_X7_thrown_0
        rw [e_gI 416 k2.2.1.1.1.1, Option.bind_some, u1]
      rw [if_pos k2.2.1.1.1.1, et, Option.bind_some]
      dsimp only
      rw [if_pos rfl]
      by_cases v0 : v = 0
      · rw [if_pos v0, e_gJ 320 k2.2.2.2.2, Option.bind_some, u2 v0, lgc, if_pos rfl]
        exact next M2 G2 hp2 dl2 k2 x2 x9 xe y2 z2
      · rw [if_neg v0]
        exact next M2 G2 hp2 dl2 k2 x2 x9 xe y2 z2
    rw [if_neg b17]
    by_cases b18 : xs (4 * i) &&& 31 = 18
    · obtain ⟨v, M1, w, M2, G2, hp2, dl2, e1, ⟨p1, p2⟩, e2, k2, ⟨x2, x9, xe⟩, y2, z2⟩ := n_best hk hx h9 ke hr7
      have e2 : f_X7_best 1026 M1 = some (w, M2) := e2
      rw [if_pos b18, if_pos hk.1.1.1, e1, Option.bind_some]
      dsimp only
      rw [if_pos p1, e2, Option.bind_some]
      exact next M2 G2 hp2 dl2 k2 x2 x9 xe y2 z2
    rw [if_neg b18]
    by_cases b19 : xs (4 * i) &&& 31 = 19
    · obtain ⟨v, M1, w, M2, G2, hp2, dl2, e1, ⟨p1, p2⟩, e2, k2, ⟨x2, x9, xe⟩, y2, z2⟩ := n_isSafe hk hx h9 ke hr7 (xs (4 * i + 1)) (xs (4 * i + 2))
      have e2 : f_X7_isSafe 1026 (xs (4 * i + 1)) (xs (4 * i + 2)) M1 = some (w, M2) := e2
      rw [if_pos b19, rdr rw0 hn (show 4 * i + 1 < n by omega), Option.bind_some, rdr rw0 hn (show 4 * i + 2 < n by omega), Option.bind_some, e1, Option.bind_some]
      dsimp only
      rw [rdr p2 hn (show 4 * i + 1 < n by omega), Option.bind_some, rdr p2 hn (show 4 * i + 2 < n by omega), Option.bind_some, if_pos p1, e2, Option.bind_some]
      exact next M2 G2 hp2 dl2 k2 x2 x9 xe y2 z2
    rw [if_neg b19]
    by_cases b20 : xs (4 * i) &&& 31 = 20
    · obtain ⟨v, M1, w, M2, G2, hp2, dl2, e1, ⟨p1, p2⟩, e2, k2, ⟨x2, x9, xe⟩, y2, z2⟩ := n_outs hk hx h9 ke hr7 (xs (4 * i + 1))
      have e2 : f_X7_outs 1026 (xs (4 * i + 1)) M1 = some (w, M2) := e2
      rw [if_pos b20, rdr rw0 hn (show 4 * i + 1 < n by omega), Option.bind_some, e1, Option.bind_some]
      dsimp only
      rw [rdr p2 hn (show 4 * i + 1 < n by omega), Option.bind_some, if_pos p1, e2, Option.bind_some]
      exact next M2 G2 hp2 dl2 k2 x2 x9 xe y2 z2
    rw [if_neg b20]
    by_cases b21 : xs (4 * i) &&& 31 = 21
    · have hw := hx.f hr7
      obtain ⟨v, M1, e1, k1, z1⟩ := l_digest hk hw
      obtain ⟨hp2, dl2, w, M2, e2, k2, z2⟩ := (LX.rx k1 hw (kn_X7_digest k1.2.2.1.2.1 k1.fn) (r_digest k1.2.1.1 k1.2.1.2 (hx.q hr7))).y
      have xe := ((ke.fr hk.x46 (kq_X3_digest (FQ.rf M) _ e1) ((kc_X3_digest hk.2.2.1.1 own1000 (FC.rf M)).fcT hk _ e1)).fr k1.x46 (kq_X7_digest (FQ.rf M1) _ e2) ((kn_X7_digest k1.2.2.1.2.1 k1.fn).fnT k1 _ e2)).w
      rw [if_pos b21, if_pos hk.1.1.1, e1]
      show END (if mK M1 1026 = 13 then (f_X7_digest 1026 M1).bind _ else none)
      rw [if_pos k1.row.1, e2, Option.bind_some]
      exact next M2 G hp2 dl2 k2 hx h9 xe (Nat.le_succ _) (by omega)
    rw [if_neg b21]
    exact next M G hp dl hk hx h9 ke.w (Nat.le_succ _) ⟨Nat.le_add_right _ _, Nat.le_add_right _ _⟩
end LAW
