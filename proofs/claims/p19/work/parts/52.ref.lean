/-! ===== PURE, THE REFERENCE: call on the game ===== -/
theorem KM.ex {I I' : Nat → Nat → Int32} {J J' : Nat → Nat → Int64} {A A' : Nat → Nat → Int32} {M : zM} (hI : ∀ k b, b < mX M → I' k b = I k b) (hJ : ∀ k b, b < mX M → J' k b = J k b) (hA : ∀ b, b < mX M → ∀ i, i < mL M b → A' b i = A b i) : KM 0 0 (cs I J A M) (cs I' J' A' M) :=
  ⟨⟨Nat.le_refl _, Nat.le_refl _, Nat.le_refl _⟩, fun b hb => ⟨rfl, rfl, fun k => hI k b hb, fun k => hJ k b hb, fun _ => rfl, hA b hb, rfl⟩⟩
/-- whether a call goes -/
def cOk (G : zG) (c : Nat) : Bool := decide (eS G 4 = 1 ∧ opN G (eS G 5) = 0 ∧ eC G (eS G 5) = false ∧ eH G (eS G 5) c ≠ 0 ∧ wts (eN G (eS G 5)) (u1 (eH G (eS G 5)) c (eH G (eS G 5) c - 1)) ≠ 0)
section RCALL
variable {I : Nat → Nat → Int32} {J : Nat → Nat → Int64} {A : Nat → Nat → Int32} {M : zM} {G : zG} {hp dl : Nat → Nat}
/-- the hand of one without a tile is ready -/
theorem r_ready1 (h : RS M hp dl) (hn : RN I J A M G hp dl) (hw : WF G) {p c : Nat} (hp4 : p < 4) (hc : c < 25) (hH : eH G p c ≠ 0) : ∃ w, f_X6_isReady (1028 + 4 * p) (cs I J (u2 A (hp p) c (nI (eH G p c - 1))) M) = some (b32 (decide (wts (eN G p) (u1 (eH G p) c (eH G p c - 1)) ≠ 0)), cs I J (ur A (hp p) w) M) ∧ w c = nI (eH G p c - 1) ∧ ∀ k, k < 25 → k ≠ c → w k = A (hp p) k := by
  obtain ⟨n1, n2, -⟩ := hn.2.1 p hp4
  obtain ⟨w1, w2, -⟩ := hw.2.2.2.2.2.2.2.2.2.2 p hp4
  have hsn := sn_u1 (eH G p) c (eH G p c - 1) 25 0 (Nat.zero_le _) (by omega)
  have hs9 := sn_le (eH G p) 4 25 0 (fun k _ q => w1 k (by omega))
  obtain ⟨w', e, f⟩ := r_isReady (I := I) (J := J) (A := u2 A (hp p) c (nI (eH G p c - 1))) (h.ps hp4) n2.1 w2 (g := u1 (eH G p) c (eH G p c - 1)) (fun k hk => by
    have := w1 k hk
    by_cases y : k = c
    · rw [y, u1_at]; have := w1 c hc; omega
    · rw [u1_ne _ _ y]; omega) (by omega) (fun k hk => by
    by_cases y : k = c
    · rw [y, u1_at]; exact u2_at _ _ _ _
    · rw [u1_ne _ _ y]; exact (if_neg (fun z => y z.2)).trans (n1 k hk))
  refine ⟨w', ?_, (f c hc).trans (u2_at _ _ _ _), fun k hk hne => (f k hk).trans (if_neg (fun z => hne z.2))⟩
  rw [e]
  have : ur (u2 A (hp p) c (nI (eH G p c - 1))) (hp p) w' = ur A (hp p) w' := by
    funext b j
    by_cases y : b = hp p
    · rw [y, ur_at, ur_at]
    · rw [ur_ne _ _ _ y, ur_ne _ _ _ y]; exact if_neg (fun z => y z.1)
  rw [this]
theorem r_mayCall (h : RS M hp dl) (hn : RN I J A M G hp dl) (hw : WF G) (hv : WV G) {c : Nat} (hc : c < 25) : ∃ M', f_X7_mayCall 1026 (nI c) (cs I J A M) = some (b32 (cOk G c), M') ∧ KM 1 4 (cs I J A M) M' := by
  have k := h.1.1
  have ht : eS G 5 < 4 := hw.2.2.2.2.2.1
  have hw4 : eS G 4 < 4 := hw.2.2.2.2.1
  have hs1 := h.2.1 _ ht
  have no : ∀ M' : zM, (¬ (eS G 4 = 1 ∧ opN G (eS G 5) = 0 ∧ eC G (eS G 5) = false ∧ eH G (eS G 5) c ≠ 0 ∧ wts (eN G (eS G 5)) (u1 (eH G (eS G 5)) c (eH G (eS G 5) c - 1)) ≠ 0)) → some ((0 : Int32), M') = some (b32 (cOk G c), M') := fun M' z => by
    unfold cOk
    rw [decide_eq_false z]
    rfl
  unfold f_X7_mayCall f_X7_mayCall_0
  rw [gI_cs 422 k, Option.bind_some, hn.1.1]
  by_cases y1 : eS G 4 = 1
  · obtain ⟨M1, e1, k1⟩ := r_open (M := cs I J A M) hs1.1 hs1.2.2.1 (h.lv hn hw ht) (fun j hj => hv _ ht j hj)
    have hS := RS.st (M := cs I J A M) h (ST.km k1)
    have hN : RN (mI M1) (mJ M1) (mA M1) M1 G hp dl := RN.km (M := cs I J A M) hn h k1
    rw [if_pos (show nI (eS G 4) = 1 by rw [y1]; rfl), if_pos (show mK (cs I J A M) 1026 = 13 from k), r_its h ht hn.1.2.1, Option.bind_some]
    dsimp only
    rw [if_pos (show mK (cs I J A M) (1028 + 4 * eS G 5) = 12 from hs1.1), e1, Option.bind_some]
    dsimp only
    have hop : sn (fun j => if eV G (eS G 5) j / 100 = 3 then 0 else 1) 0 (eN G (eS G 5)) = opN G (eS G 5) := rfl
    have hop3 : opN G (eS G 5) ≤ 3 := by
      have a := sn_le1 (fun j => if eV G (eS G 5) j / 100 = 3 then 0 else 1) (fun j => by split <;> omega) (eN G (eS G 5)) 0
      have b := (hw.2.2.2.2.2.2.2.2.2.2 _ ht).2.1
      rw [hop] at a
      omega
    rw [hop]
    by_cases y2 : opN G (eS G 5) = 0
    · obtain ⟨p1, p2, p3, p4, p5⟩ := hN.2.1 _ ht
      have hs2 := hS.2.1 _ ht
      have hh := hS.2.2.1 _ ht
      have its1 : f_X7_its 1026 M1 = some (1028 + 4 * eS G 5, M1) := r_its (I := mI M1) (J := mJ M1) (A := mA M1) hS ht hN.1.2.1
      rw [y2, if_neg (show ¬ (0 : Int32) < nI 0 by decide), if_pos hS.1.1, its1, Option.bind_some]
      dsimp only
      rw [e_gI 390 hs2.1, Option.bind_some, p5]
      by_cases y3 : eC G (eS G 5) = true
      · refine ⟨M1, ?_, k1⟩
        rw [y3, if_neg (show ¬ b32 true = 0 by decide)]
        exact no M1 (fun z => by rw [z.2.2.1] at y3; cases y3)
      · have y3' : eC G (eS G 5) = false := by cases hx : eC G (eS G 5); rfl; exact absurd hx y3
        have hle := (hw.2.2.2.2.2.2.2.2.2.2 _ ht).1 c hc
        rw [y3', if_pos (show b32 false = 0 from rfl), if_pos hS.1.1, its1, Option.bind_some]
        dsimp only
        rw [e_gR 386 hs2.1 hs2.2.1, Option.bind_some, e_lA hh.1 (by rw [hh.2.1]; exact hc) (by rw [hh.2.1]; decide), Option.bind_some, p1 c hc]
        by_cases y4 : eH G (eS G 5) c = 0
        · refine ⟨M1, ?_, k1⟩
          rw [y4, if_pos (show nI 0 = 0 from rfl)]
          exact no M1 (fun z => z.2.2.2.1 y4)
        · have em : nI (eH G (eS G 5) c) - 1 = nI (eH G (eS G 5) c - 1) := pk_sub (a := eH G (eS G 5) c) (b := 1) (Nat.pos_of_ne_zero y4)
          obtain ⟨w, e3, f3, g3⟩ := r_ready1 (I := mI M1) (J := mJ M1) (A := mA M1) hS hN hw ht hc y4
          have e3' : f_X6_isReady (1028 + 4 * eS G 5) (sA M1 (hp (eS G 5)) c (nI (eH G (eS G 5) c - 1))) = some (b32 (decide (wts (eN G (eS G 5)) (u1 (eH G (eS G 5)) c (eH G (eS G 5) c - 1)) ≠ 0)), cs (mI M1) (mJ M1) (ur (mA M1) (hp (eS G 5)) w) M1) := e3
          have its2 : f_X7_its 1026 (sA M1 (hp (eS G 5)) c (nI (eH G (eS G 5) c - 1))) = some (1028 + 4 * eS G 5, sA M1 (hp (eS G 5)) c (nI (eH G (eS G 5) c - 1))) := r_its (I := mI M1) (J := mJ M1) (A := u2 (mA M1) (hp (eS G 5)) c (nI (eH G (eS G 5) c - 1))) hS ht hN.1.2.1
          have kk1 : mK (sA M1 (hp (eS G 5)) c (nI (eH G (eS G 5) c - 1))) 1026 = 13 := hS.1.1
          have kk2 : mK (sA M1 (hp (eS G 5)) c (nI (eH G (eS G 5) c - 1))) (1028 + 4 * eS G 5) = 12 := hs2.1
          have kk3 : mK (cs (mI M1) (mJ M1) (ur (mA M1) (hp (eS G 5)) w) M1) 1026 = 13 := hS.1.1
          rw [if_neg (eq_f (y := 0) _ 0 y4 (by omega) (by decide)), if_pos hS.1.1, its1, Option.bind_some]
          dsimp only
          rw [e_gR 386 hs2.1 hs2.2.1, Option.bind_some, e_lA hh.1 (by rw [hh.2.1]; exact hc) (by rw [hh.2.1]; decide), Option.bind_some, p1 c hc, em, e_tA hh.1 (by rw [hh.2.1]; exact hc) (by rw [hh.2.1]; decide), Option.bind_some, if_pos kk1, its2, Option.bind_some]
          dsimp only
          rw [if_pos kk2, e3', Option.bind_some]
          dsimp only
          rw [if_pos kk3, r_its (I := mI M1) (J := mJ M1) hS ht hN.1.2.1, Option.bind_some]
          dsimp only
          rw [gR_cs 386 hs2.1 hs2.2.1, Option.bind_some, lA_cs hh.1 (by rw [hh.2.1]; exact hc) (by rw [hh.2.1]; decide), Option.bind_some, ur_at, f3, tA_cs hh.1 (by rw [hh.2.1]; exact hc) (by rw [hh.2.1]; decide), Option.bind_some, if_pos (b32_or _)]
          refine ⟨_, ?_, k1.t0 (KM.ex (I := mI M1) (J := mJ M1) (A := mA M1) (I' := mI M1) (J' := mJ M1) (A' := u2 (ur (mA M1) (hp (eS G 5)) w) (hp (eS G 5)) c (nI (eH G (eS G 5) c - 1) + 1)) (fun _ _ _ => rfl) (fun _ _ _ => rfl) (fun b hb i hi => ?_))⟩
          · unfold cOk
            by_cases y5 : wts (eN G (eS G 5)) (u1 (eH G (eS G 5)) c (eH G (eS G 5) c - 1)) ≠ 0
            · rw [decide_eq_true y5, decide_eq_true ⟨y1, y2, y3', y4, y5⟩]
            · rw [decide_eq_false y5, decide_eq_false (fun z => y5 z.2.2.2.2)]
          · by_cases z : b = hp (eS G 5) ∧ i = c
            · obtain ⟨z1, z2⟩ := z
              subst z1 z2
              rw [u2_at, nI_1, p1 _ hc]
              exact congrArg nI (by omega)
            · refine (if_neg z).trans ?_
              by_cases z1 : b = hp (eS G 5)
              · subst z1
                rw [ur_at]
                exact g3 i (by rw [hh.2.1] at hi; exact hi) (fun q => z ⟨rfl, q⟩)
              · rw [ur_ne _ _ _ z1]
    · refine ⟨M1, ?_, k1⟩
      rw [if_pos (lt_t (x := 0) 0 (opN G (eS G 5)) (by omega) (by omega))]
      exact no M1 (fun z => y2 z.2.1)
  · refine ⟨_, ?_, (KM.rf _).w (by decide) (by decide)⟩
    rw [if_neg (eq_f (y := 1) (eS G 4) 1 y1 (by omega) (by decide))]
    exact no _ (fun z => y1 z.1)
theorem RN.cal (h : RN I J A M G hp dl) (g : RS M hp dl) {p : Nat} (hp4 : p < 4) : RN (u2 I 390 (1028 + 4 * p) 1) J A M (gCal G p) hp dl := by
  obtain ⟨⟨s1, s2, s3, s4, s5, s6, s7, s8⟩, q, v⟩ := h
  refine ⟨⟨s1, s2, s3, s4, s5, s6, s7, s8⟩, fun c hc => ?_, v⟩
  obtain ⟨a, b, c', d, e⟩ := q c hc
  refine ⟨a, ⟨b.1, b.2.1, b.2.2.1, fun j hj => b.2.2.2 j hj⟩, c', d, ?_⟩
  show u2 I 390 (1028 + 4 * p) 1 390 (1028 + 4 * c) = b32 (u1 (eC G) p true c)
  unfold u2 u1
  by_cases y : c = p
  · rw [if_pos y, if_pos ⟨rfl, by omega⟩]
    rfl
  · rw [if_neg y, if_neg (by omega)]
    exact e
theorem WF.cal (h : WF G) (p : Nat) : WF (gCal G p) := h
theorem r_call_34 (h : RS M hp dl) (hn : RN I J A M G hp dl) (hw : WF G) {c : Nat} (hc : c < 25) (hH : eH G (eS G 5) c ≠ 0) : ∃ I' J' A' M' dl' v, f_X7_call_34 1026 (nI c) 0 1026 (cs (th 0 I) J A M) = some (v, cs I' J' A' M') ∧ RS M' hp dl' ∧ RN I' J' A' M' (gRiv (gCal G (eS G 5)) c) hp dl' ∧ I' 416 1026 = 0 ∧ (mX M' ≤ mX M + 1 ∧ mS M' ≤ mS M + 100) := by
  have k := h.1.1
  have hn1 := hn.th 0
  have ht : eS G 5 < 4 := hw.2.2.2.2.2.1
  have hs1 := h.2.1 _ ht
  have e := r_refuse (I := I) (J := J) (A := A) h false 2 (by decide) (by decide)
  have e' : f_X7_refuse 1026 0 2 (cs (th 0 I) J A M) = some (0, cs (th 0 I) J A M) := e
  unfold f_X7_call_34
  rw [if_pos (show mK (cs (th 0 I) J A M) 1026 = 13 from k), e', Option.bind_some]
  dsimp only
  rw [if_pos rfl, if_pos (show mK (cs (th 0 I) J A M) 1026 = 13 from k), r_its h ht hn1.1.2.1, Option.bind_some]
  dsimp only
  rw [pZ_cs 390 hs1.1 (Or.inr rfl), Option.bind_some, gI_cs 384 hs1.1, Option.bind_some, pI_cs 384 hs1.1, Option.bind_some, gI_cs 427 k, Option.bind_some, pI_cs 427 k, Option.bind_some]
  generalize hI2 : u2 (u2 (u2 (th 0 I) 390 (1028 + 4 * eS G 5) 1) 384 (1028 + 4 * eS G 5) (u2 (th 0 I) 390 (1028 + 4 * eS G 5) 1 384 (1028 + 4 * eS G 5) - 10)) 427 1026 (u2 (u2 (th 0 I) 390 (1028 + 4 * eS G 5) 1) 384 (1028 + 4 * eS G 5) (u2 (th 0 I) 390 (1028 + 4 * eS G 5) 1 384 (1028 + 4 * eS G 5) - 10) 427 1026 + 10) = I2
  have h416 : I2 416 1026 = 0 := by rw [← hI2]; rfl
  have hn2 : RN I2 J A M (gCal G (eS G 5)) hp dl := by
    rw [← hI2]
    exact (hn1.cal h ht).free (((PR.rf _).put (Or.inl rfl) _ _).put (Or.inr (Or.inr (Or.inl rfl))) _ _)
  obtain ⟨I', J', A', M', dl', q1, q2, q3, q4, q5, q6⟩ := r_away (G := gCal G (eS G 5)) h hn2 (hw.cal _) hc hH
  have q1' : f_X7_away 1026 (nI c) (cs I2 J A M) = some (nI (eM G (eS G 5) + 1), cs I' J' A' M') := q1
  rw [if_pos (show mK (cs I2 J A M) 1026 = 13 from k), q1', Option.bind_some]
  dsimp only
  rw [gI_cs 384 (q2.2.1 _ ht).1, Option.bind_some]
  exact ⟨I', J', A', M', dl', _, rfl, q2, q3, q4.trans h416, q6⟩
theorem r_call_bad (h : RS M hp dl) {i : Int32} (y : oBad i) : f_X7_call 1026 i (cs I J A M) = some (0, cs (th 1 I) J A M) := by
  have e := r_start (I := I) (J := J) (A := A) h true 1 (by decide) (by decide)
  have e' : f_X7_start 1026 1 1 (cs I J A M) = some (1, cs (th 1 I) J A M) := e
  unfold f_X7_call f_X7_call_0
  rw [r_kind_bad y, Option.bind_some]
  dsimp only
  rw [if_pos rfl]
  unfold f_X7_call_13
  rw [if_pos (show mK (cs I J A M) 1026 = 13 from h.1.1), e', Option.bind_some]
  dsimp only
  rw [if_neg (show ¬ (1 : Int32) = 0 by decide)]
/-- call on the game: it goes, or is refused -/
theorem r_call (h : RS M hp dl) (hn : RN I J A M G hp dl) (hw : WF G) (hv : WV G) {c : Nat} (hc : c < 25) : (cOk G c = true ∧ ∃ I' J' A' M' dl' v, f_X7_call 1026 (nI c) (cs I J A M) = some (v, cs I' J' A' M') ∧ RS M' hp dl' ∧ RN I' J' A' M' (gRiv (gCal G (eS G 5)) c) hp dl' ∧ I' 416 1026 = 0 ∧ (mX M' ≤ mX M + 2 ∧ mS M' ≤ mS M + 104)) ∨ (cOk G c = false ∧ ∃ M', f_X7_call 1026 (nI c) (cs I J A M) = some (0, M') ∧ RS M' hp dl ∧ RN (mI M') (mJ M') (mA M') M' G hp dl ∧ mI M' 416 1026 = 2 ∧ (mX M' ≤ mX M + 1 ∧ mS M' ≤ mS M + 4)) := by
  have k := h.1.1
  have hX := h.2.2.2.2.2.2.2
  have hn1 := hn.th 0
  have e := r_start (I := I) (J := J) (A := A) h false 1 (by decide) (by decide)
  have e' : f_X7_start 1026 0 1 (cs I J A M) = some (0, cs (th 0 I) J A M) := e
  have start : f_X7_call 1026 (nI c) (cs I J A M) = f_X7_call_13 1026 (nI c) 0 1026 (cs I J A M) := by
    unfold f_X7_call f_X7_call_0
    rw [r_kind_ok hc, Option.bind_some]
    dsimp only
    rw [if_neg (show ¬ (1 : Int32) = 0 by decide)]
  obtain ⟨M1, e1, k1⟩ := r_mayCall h hn1 hw hv hc
  have hS := RS.st (M := cs (th 0 I) J A M) h (ST.km k1)
  have hN : RN (mI M1) (mJ M1) (mA M1) M1 G hp dl := RN.km (M := cs (th 0 I) J A M) hn1 h k1
  have h416 : mI M1 416 1026 = 0 := (k1.2 1026 (by show 1026 < mX M; omega)).2.2.1 416
  have heta : cs (th 0 (mI M1)) (mJ M1) (mA M1) M1 = M1 := by
    have : th 0 (mI M1) = mI M1 := by
      funext q b
      show (if q = 416 ∧ b = 1026 then 0 else mI M1 q b) = _
      by_cases z : q = 416 ∧ b = 1026
      · rw [if_pos z, z.1, z.2, h416]
      · rw [if_neg z]
    rw [this]
    rfl
  have kx := k1.1
  have kx2 : mX M1 ≤ mX M + 1 := k1.1.2.1
  have kx3 : mS M1 ≤ mS M + 4 := k1.1.2.2
  rw [start]
  unfold f_X7_call_13
  rw [if_pos (show mK (cs I J A M) 1026 = 13 from k), e', Option.bind_some]
  dsimp only
  rw [if_pos rfl, if_pos (show mK (cs (th 0 I) J A M) 1026 = 13 from k), e1, Option.bind_some]
  dsimp only
  by_cases y : cOk G c = true
  · have hcan := of_decide_eq_true y
    rw [y, if_neg (show ¬ b32 true = 0 by decide)]
    obtain ⟨I', J', A', M', dl', v, q1, q2, q3, q4, q5, q6⟩ := r_call_34 (I := mI M1) (J := mJ M1) (A := mA M1) hS hN hw hc hcan.2.2.2.1
    rw [heta] at q1
    exact Or.inl ⟨rfl, I', J', A', M', dl', v, q1, q2, q3, q4, by omega, by omega⟩
  · have y' : cOk G c = false := by cases hx : cOk G c; rfl; exact absurd hx y
    rw [y', if_pos (show b32 false = 0 from rfl)]
    unfold f_X7_call_34
    have er := r_refuse (I := mI M1) (J := mJ M1) (A := mA M1) hS true 2 (by decide) (by decide)
    rw [heta] at er
    have er' : f_X7_refuse 1026 1 2 M1 = some (1, cs (th 2 (mI M1)) (mJ M1) (mA M1) M1) := er
    rw [if_pos hS.1.1, er', Option.bind_some]
    dsimp only
    rw [if_neg (show ¬ (1 : Int32) = 0 by decide)]
    exact Or.inr ⟨rfl, _, rfl, hS, hN.th 2, rfl, kx2, kx3⟩
end RCALL
