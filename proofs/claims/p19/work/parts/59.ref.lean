/-! ===== PURE, THE REFERENCE: who may win; win on the game ===== -/
/-- who has the turn in phase 1 has eleven; what was drawn is a kind; a round goes on -/
def WZ1 (G : zG) : Prop := eS G 4 = 1 → sn (eH G (eS G 5)) 0 25 + 3 * eN G (eS G 5) = 11
def W8 (G : zG) : Prop := eS G 9 ≠ 0 → eS G 8 ≠ 0
def WR (G : zG) : Prop := eS G 4 ≠ 3 → eS G 7 ≠ 0
def wOk (G : zG) (p : Nat) : Bool := if eS G 4 = 1 then oAlone G p else oByDis G p
section RWIN
variable {I : Nat → Nat → Int32} {J : Nat → Nat → Int64} {A : Nat → Nat → Int32} {M : zM} {G : zG} {hp dl : Nat → Nat}
theorem r_waitsG (h : RS M hp dl) (hn : RN I J A M G hp dl) (hw : WF G) {p : Nat} (hp4 : p < 4) : ∃ A', f_X6_waits (1028 + 4 * p) (cs I J A M) = some (gW G p, cs I J A' M) ∧ RN I J A' M G hp dl := by
  obtain ⟨n1, n2, -⟩ := hn.2.1 p hp4
  obtain ⟨w1, w2, -⟩ := hw.2.2.2.2.2.2.2.2.2.2 p hp4
  obtain ⟨w', e, f⟩ := r_waits (I := I) (J := J) (A := A) (h.ps hp4) n2.1 w2 (g := eH G p) (fun k hk => by have := w1 k hk; omega) (by have := sn_le (eH G p) 4 25 0 (fun k _ q => w1 k (by omega)); omega) n1
  exact ⟨_, e, hn.row h hp4 f⟩
theorem r_isBarred (h : RS M hp dl) (hn : RN I J A M G hp dl) (hw : WF G) {p : Nat} (hp4 : p < 4) : ∃ A', f_X7_isBarred 1026 (1028 + 4 * p) (cs I J A M) = some (b32 (decide (gW G p &&& eD G p ≠ 0)), cs I J A' M) ∧ RN I J A' M G hp dl := by
  obtain ⟨A', e, f⟩ := r_waitsG h hn hw hp4
  have hs := h.2.1 p hp4
  refine ⟨A', ?_, f⟩
  unfold f_X7_isBarred f_X7_isBarred_0
  rw [if_pos (show mK (cs I J A M) (1028 + 4 * p) = 12 from hs.1), e, Option.bind_some]
  dsimp only
  rw [gJ_cs 389 hs.1, Option.bind_some, (f.2.1 p hp4).2.2.2.1]
  by_cases y : gW G p &&& eD G p = 0
  · rw [if_pos ((lg_cmp_0 _ _).mpr y), decide_eq_false (fun z => z y)]
    rfl
  · rw [if_neg (fun z => y ((lg_cmp_0 _ _).mp z)), decide_eq_true y]
    rfl
theorem r_mayWin (h : RS M hp dl) (hn : RN I J A M G hp dl) (hw : WF G) (hz1 : WZ1 G) (h8 : W8 G) {p : Nat} (hp4 : p < 4) : ∃ A', f_X7_mayWin 1026 (nI p) (cs I J A M) = some (b32 (wOk G p), cs I J A' M) ∧ RN I J A' M G hp dl := by
  have k := h.1.1
  have hw4 : eS G 4 < 4 := hw.2.2.2.2.1
  have ht : eS G 5 < 4 := hw.2.2.2.2.2.1
  have hs := h.2.1 p hp4
  have hh := h.2.2.1 p hp4
  obtain ⟨n1, n2, -⟩ := hn.2.1 p hp4
  obtain ⟨w1, w2, -⟩ := hw.2.2.2.2.2.2.2.2.2.2 p hp4
  unfold f_X7_mayWin f_X7_mayWin_0 wOk
  rw [gR_cs 417 k h.1.2.1, Option.bind_some, h.pl hp4, Option.bind_some, gI_cs 422 k, Option.bind_some, hn.1.1]
  by_cases y1 : eS G 4 = 1
  · rw [if_pos (show nI (eS G 4) = 1 by rw [y1]; rfl), if_pos y1, gI_cs 423 k, Option.bind_some, hn.1.2.1]
    have e29 := hn.1.2.2.2.2.2.2.1 y1
    by_cases y2 : p = eS G 5
    · rw [if_pos (congrArg nI y2), gI_cs 429 k, Option.bind_some]
      by_cases y3 : eS G 9 = 0
      · rw [if_pos y3] at e29
        refine ⟨A, ?_, hn⟩
        have e : oAlone G p = false := by
          unfold oAlone
          rw [decide_eq_false (fun z => z.2.1 y3), Bool.false_and]
        rw [m1_0 e29, if_pos rfl, e]
        rfl
      · rw [if_neg y3] at e29
        have h8' := h8 y3
        obtain ⟨q, hq⟩ : ∃ q, eS G 8 = q + 1 := ⟨eS G 8 - 1, by omega⟩
        have w8 := hw.2.2.2.2.2.2.2.2.1
        rw [hq] at e29
        have ne : ¬ I 429 1026 = -1 := fun z => by
          have e2 : nI q < 0 := by rw [← m1_s e29, z]; decide
          exact nI_nn (by omega) e2
        have hz := hz1 y1
        rw [← y2] at hz
        obtain ⟨w', e, f⟩ := r_complete (I := I) (J := J) (A := A) (M := M) hh.1 hh.2.1 (S := 3 - eN G p) (N := eN G p) (by omega) (g := eH G p) (fun k hk => by have := w1 k hk; omega) (by omega) (w := A (hp p)) n1
        rw [ur_self] at e
        refine ⟨_, ?_, hn.row h hp4 f⟩
        rw [if_neg ne, gR_cs 386 hs.1 hs.2.1, Option.bind_some, gR_cs 387 hs.1 hs.2.2.1, Option.bind_some, if_pos (show mK (cs I J A M) (1030 + 4 * p) = 5 from hs.2.2.2.2.1), r_size hs.2.2.2.2.1 n2.1, Option.bind_some]
        dsimp only
        rw [e, Option.bind_some]
        have e3 : oAlone G p = cmp 25 0 (eH G p) := by
          unfold oAlone
          rw [decide_eq_true ⟨y2, y3, hz⟩, Bool.true_and]
        rw [e3]
        cases cmp 25 0 (eH G p)
        · rfl
        · rfl
    · refine ⟨A, ?_, hn⟩
      have e : oAlone G p = false := by
        unfold oAlone
        rw [decide_eq_false (fun z => y2 z.1), Bool.false_and]
      rw [if_neg (eq_f p (eS G 5) y2 (by omega) (by omega)), e]
      rfl
  · rw [if_neg (eq_f (y := 1) (eS G 4) 1 y1 (by omega) (by decide)), if_neg y1, Option.bind_some]
    by_cases y2 : eS G 4 = 2
    · have hoff := hn.1.2.2.2.2.2.2.2 y2
      rw [if_pos (show nI (eS G 4) = 2 by rw [y2]; rfl), gI_cs 423 k, Option.bind_some, hn.1.2.1]
      by_cases y3 : p = eS G 5
      · refine ⟨A, ?_, hn⟩
        have e : oByDis G p = false := by
          unfold oByDis
          rw [decide_eq_false (fun z => z.2 y3), Bool.false_and]
        rw [if_pos (congrArg nI y3), e]
        rfl
      · obtain ⟨A1, e1, f1⟩ := r_waitsG h hn hw hp4
        obtain ⟨A2, e2, f2⟩ := r_isBarred h f1 hw hp4
        have e3 : oByDis G p = gBit G p := by
          unfold oByDis
          rw [decide_eq_true ⟨y2, y3⟩, Bool.true_and]
        rw [if_neg (eq_f p (eS G 5) y3 (by omega) (by omega)), if_pos (show mK (cs I J A M) (1028 + 4 * p) = 12 from hs.1), e1, Option.bind_some, e3]
        dsimp only
        rw [gI_cs 430 k, Option.bind_some, hoff]
        unfold gBit
        by_cases z : (gW G p >>> ((nI (lst G)).toInt64 &&& 63)) &&& 1 = 1
        · rw [if_pos ((lg_cmp_0 _ _).mpr z), if_pos (show mK (cs I J A1 M) 1026 = 13 from k), e2, Option.bind_some]
          dsimp only
          refine ⟨A2, ?_, f2⟩
          by_cases u : gW G p &&& eD G p = 0
          · rw [decide_eq_false (fun q => q u), if_pos (show b32 false = 0 from rfl), decide_eq_true ⟨z, u⟩]
            rfl
          · rw [decide_eq_true u, if_neg (show ¬ b32 true = 0 by decide), decide_eq_false (fun q => u q.2)]
            rfl
        · refine ⟨A1, ?_, f1⟩
          rw [if_neg (fun q => z ((lg_cmp_0 _ _).mp q)), decide_eq_false (fun q => z q.1)]
          rfl
    · refine ⟨A, ?_, hn⟩
      have e : oByDis G p = false := by
        unfold oByDis
        rw [decide_eq_false (fun z => y2 z.1), Bool.false_and]
      rw [if_neg (eq_f (y := 2) (eS G 4) 2 y2 (by omega) (by decide)), e]
      rfl
theorem r_win_88 (h : RS M hp dl) {p : Nat} (hp4 : p < 4) (s v : Int32) : ∀ (d n i : Nat) (I : Nat → Nat → Int32), i + d = 4 → d < n → ∃ I', f_X7_win_88 n 1026 (nI p) (1028 + 4 * p) s v (nI i) (cs I J A M) = some (v, cs (u2 I' 422 1026 3) J A M) ∧ PR I I' := by
  have k := h.1.1
  have hs := h.2.1 p hp4
  intro d
  induction d with
  | zero =>
    intro n i I hi hn
    obtain ⟨n, rfl⟩ : ∃ m, n = m + 1 := ⟨n - 1, by omega⟩
    rw [f_X7_win_88, if_pos (le_t (x := 4) 4 i (by omega) (by omega)), gI_cs 384 hs.1, Option.bind_some, gI_cs 427 k, Option.bind_some, pI_cs 384 hs.1, Option.bind_some, pI_cs 427 k, Option.bind_some, gI_cs 385 hs.1, Option.bind_some, pI_cs 385 hs.1, Option.bind_some, pI_cs 428 k, Option.bind_some, pI_cs 422 k, Option.bind_some]
    exact ⟨_, rfl, ((((PR.rf I).put (Or.inl rfl) _ _).put (Or.inr (Or.inr (Or.inl rfl))) _ _).put (Or.inr (Or.inl rfl)) _ _).put (Or.inr (Or.inr (Or.inr rfl))) _ _⟩
  | succ d ih =>
    intro n i I hi hn
    obtain ⟨n, rfl⟩ : ∃ m, n = m + 1 := ⟨n - 1, by omega⟩
    have hi4 : i < 4 := by omega
    have hs2 := h.2.1 i hi4
    have e133 : ∀ x : Int32, ∃ I', f_X7_win_133 (f_X7_win_88 n) 1026 (nI p) (1028 + 4 * p) s v (nI i) x (cs I J A M) = some (v, cs (u2 I' 422 1026 3) J A M) ∧ PR I I' := fun x => by
      unfold f_X7_win_133
      rw [gR_cs 417 k h.1.2.1, Option.bind_some, h.pl hi4, Option.bind_some, gI_cs 384 hs2.1, Option.bind_some, pI_cs 384 hs2.1, Option.bind_some, gI_cs 384 hs.1, Option.bind_some, pI_cs 384 hs.1, Option.bind_some, nI_1]
      obtain ⟨I', e, f⟩ := ih n (i + 1) (u2 (u2 I 384 (1028 + 4 * i) (I 384 (1028 + 4 * i) - x)) 384 (1028 + 4 * p) (u2 I 384 (1028 + 4 * i) (I 384 (1028 + 4 * i) - x) 384 (1028 + 4 * p) + x)) (by omega) (by omega)
      exact ⟨I', e, (((PR.rf I).put (Or.inl rfl) _ _).put (Or.inl rfl) _ _).tr f⟩
    rw [f_X7_win_88, if_neg (le_f (x := 4) 4 i (by omega) (by decide))]
    split
    · exact e133 0
    · split
      · rw [gI_cs 423 k, Option.bind_some]
        split
        · exact e133 _
        · exact e133 0
      · exact e133 _
/-- what the value stands on, of the game -/
theorem RS.vb (h : RS M hp dl) (hn : RNQ I J A M G hp dl) {p lk : Nat} (hp4 : p < 4) (hN : eN G p ≤ 3) (hv : ∀ j, j < eN G p → eV G p j < 400) (hlk : I 421 1026 = nI lk) (hlk25 : lk < 25) : VB (cs I J A M) (1028 + 4 * p) (hp p) (1030 + 4 * p) (dl (1030 + 4 * p)) (eN G p) (eV G p) lk := by
  have hX := h.2.2.2.2.2.2.2
  have hs := h.2.1 p hp4
  have hh := h.2.2.1 p hp4
  have hl : isL (1030 + 4 * p) := ⟨p, hp4, Or.inl rfl⟩
  obtain ⟨l1, l2, l3⟩ := h.list hl
  obtain ⟨-, ⟨n1, n2, n3, n4⟩, -⟩ := hn.1 p hp4
  refine ⟨⟨hs.1, hs.2.1, hs.2.2.1, by show _ < mX M; omega⟩, ⟨hh.1, hh.2.1, hh.2.2.2.2⟩, ⟨⟨l1, l2, n1, l3, by omega⟩, fun q => ?_, n4⟩, hv, ⟨h.1.1, hlk, hlk25, by show _ < mX M; omega⟩⟩
  rcases (h.2.2.2.2.1 _ hl).2 with z | ⟨z1, z2, z3, z4, z5⟩
  · exact absurd (n2 z) (by omega)
  · exact ⟨z3, n3 (by omega), z4, z2⟩
theorem r_win_77 (h : RS M hp dl) (hn : RNQ I J A M G hp dl) {p lk : Nat} (hp4 : p < 4) (hN : eN G p ≤ 3) (hv : ∀ j, j < eN G p → eV G p j < 400) (hlk : I 421 1026 = nI lk) (hlk25 : lk < 25) (hg : ∀ k, k < 25 → eH G p k ≤ 5) (hsn : sn (eH G p) 0 25 < 64) (s : Int32) : ∃ v I' J' A' M', f_X7_win_77 1026 (nI p) (1028 + 4 * p) s (cs I J A M) = some (v, cs (u2 I' 422 1026 3) J' A' M') ∧ RS M' hp dl ∧ RNQ I' J' A' M' G hp dl ∧ (∀ k, ¬ fk k → I' k 1026 = I k 1026) ∧ (∀ t, t < 100 → A' 1044 t = A 1044 t) ∧ (mX M' ≤ mX M + 29 ∧ mS M' ≤ mS M + 158) := by
  have hX := h.2.2.2.2.2.2.2
  obtain ⟨r, M1, e1, k1⟩ := r_value (M := cs I J A M) (h.vb hn hp4 hN hv hlk hlk25) h.1.2.1 (h.pl hp4) (g := eH G p) (fun k hk => by have := hg k hk; omega) hsn (hn.1 p hp4).1 s
  have hS := RS.st (M := cs I J A M) h (ST.km k1)
  have hQ : RNQ (mI M1) (mJ M1) (mA M1) M1 G hp dl := RNQ.st (M := cs I J A M) hn h (ST.km k1) (fun q b hb => (k1.2 b hb).2.2.1 q) (fun q b hb => (k1.2 b hb).2.2.2.1 q) (fun b hb => (k1.2 b hb).2.2.2.2.2.1)
  obtain ⟨I', e2, f2⟩ := r_win_88 (J := mJ M1) (A := mA M1) hS hp4 s r 4 zN 0 (mI M1) rfl (by decide)
  have hX9 : (1026 : Nat) < mX M := by omega
  refine ⟨r, I', mJ M1, mA M1, M1, ?_, hS, ?_, fun k hk => (f2.at k 1026 hk).trans ((k1.2 1026 hX9).2.2.1 k), fun t ht => (k1.2 1044 (by show 1044 < mX M; omega)).2.2.2.2.2.1 t (by show t < mL M 1044; rw [h.1.2.2.2.2.2.2.2]; exact ht), k1.1.2.1, k1.1.2.2⟩
  · unfold f_X7_win_77
    rw [if_pos (show mK (cs I J A M) 1026 = 13 from h.1.1), e1, Option.bind_some]
    exact e2
  · have e : ∀ k b, (k ≠ 384 ∧ k ≠ 385 ∧ k ≠ 427 ∧ k ≠ 428) → I' k b = mI M1 k b := fun k b hk => f2.at k b (fk_no hk)
    obtain ⟨q, v⟩ := hQ
    refine ⟨fun c hc => ?_, fun i hi => (e _ _ (by decide)).trans (v i hi)⟩
    obtain ⟨a, ⟨b1, b2, b3, b4⟩, ⟨c1, c2⟩, d1, d2⟩ := q c hc
    refine ⟨a, ⟨(e _ _ (by decide)).trans b1, b2, b3, fun j hj => ?_⟩, ⟨(e _ _ (by decide)).trans c1, c2⟩, d1, (e _ _ (by decide)).trans d2⟩
    obtain ⟨o, o1, o2, o3, o4, o5⟩ := b4 j hj
    exact ⟨o, o1, o2, o3, (e _ _ (by decide)).trans o4, (e _ _ (by decide)).trans o5⟩
/-- phase 3, whatever stood before -/
theorem RNs.fin {I' : Nat → Nat → Int32} {A' : Nat → Nat → Int32} {G' : zG} (h : RNs I A G) (hI : ∀ k, ¬ fk k → I' k 1026 = I k 1026) (hA : ∀ t, t < 100 → A' 1044 t = A 1044 t) (hG : eS G' = u1 (eS G) 4 3) : RNs (u2 I' 422 1026 3) A' G' := by
  obtain ⟨s1, s2, s3, s4, s5, s6, s7, s8⟩ := h
  have e : ∀ k, (k ≠ 384 ∧ k ≠ 385 ∧ k ≠ 427 ∧ k ≠ 428) → I' k 1026 = I k 1026 := fun k hk => hI k (fk_no hk)
  have gk : ∀ t, gK G' t = gK G t := fun t => by unfold gK; rw [hG]; rfl
  unfold RNs
  rw [hG]
  refine ⟨rfl, (e _ (by decide)).trans s2, ?_, (e _ (by decide)).trans s4, (e _ (by decide)).trans s5, fun z => ?_, fun z => absurd z (show ¬ (3 : Nat) = 1 by decide), fun z => absurd z (show ¬ (3 : Nat) = 2 by decide)⟩
  · show I' 424 1026 + 1 = _
    rw [e _ (by decide)]
    exact s3
  · obtain ⟨a, b, c, k, hk, d⟩ := s6 z
    exact ⟨(e _ (by decide)).trans a, (e _ (by decide)).trans b, fun t ht => by rw [gk, hA t ht]; exact c t ht, k, hk, (e _ (by decide)).trans d⟩
end RWIN
