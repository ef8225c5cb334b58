/-! ===== PURE, THE REFERENCE: draw, discard, call on the game ===== -/
/-- the shape stays -/
def ST (M M' : zM) : Prop := mX M ≤ mX M' ∧ ∀ b, b < mX M → mK M' b = mK M b ∧ mL M' b = mL M b ∧ (∀ k, mR M' k b = mR M k b) ∧ mQ M' b = mQ M b
theorem ST.rf (M : zM) : ST M M := ⟨Nat.le_refl _, fun _ _ => ⟨rfl, rfl, fun _ => rfl, rfl⟩⟩
theorem ST.nA (M : zM) (t n : Nat) : ST M (nA M t n) := ⟨Nat.le_succ _, fun b hb => ⟨if_neg (Nat.ne_of_lt hb), if_neg (Nat.ne_of_lt hb), fun _ => rfl, rfl⟩⟩
theorem ST.nO (M : zM) (t n : Nat) : ST M (nO M t n) := ⟨Nat.le_succ _, fun b hb => ⟨if_neg (Nat.ne_of_lt hb), rfl, fun _ => if_neg (Nat.ne_of_lt hb), rfl⟩⟩
theorem ST.km {M M' : zM} {c s : Nat} (h : KM c s M M') : ST M M' := ⟨h.1.1, fun b hb => ⟨(h.2 b hb).1, (h.2 b hb).2.1, (h.2 b hb).2.2.2.2.1, (h.2 b hb).2.2.2.2.2.2⟩⟩
section RST
variable {I I' : Nat → Nat → Int32} {J J' : Nat → Nat → Int64} {A A' : Nat → Nat → Int32} {M M' : zM} {G : zG} {hp dl : Nat → Nat}
theorem RS.st (h : RS M hp dl) (s : ST M M') : RS M' hp dl := by
  obtain ⟨sX, sb⟩ := s
  obtain ⟨⟨m1, m2, m3, m4, m5, m6, m7, m8⟩, hpl, hh, hinj, hd, hdj, ⟨⟨j1, j2⟩, ⟨j3, j4, j5⟩, j6⟩, hX⟩ := h
  have kk : ∀ b, b < 1046 → mK M' b = mK M b ∧ mL M' b = mL M b ∧ (∀ k, mR M' k b = mR M k b) ∧ mQ M' b = mQ M b := fun b hb => sb b (by omega)
  refine ⟨⟨(kk _ (by decide)).1.trans m1, ((kk _ (by decide)).2.2.1 _).trans m2, ((kk _ (by decide)).2.2.1 _).trans m3, (kk _ (by decide)).1.trans m4, (kk _ (by decide)).2.1.trans m5, fun p hp4 => ?_, (kk _ (by decide)).1.trans m7, (kk _ (by decide)).2.1.trans m8⟩, fun p hp4 => ?_, fun p hp4 => ?_, hinj, fun b hb => ?_, hdj, ⟨⟨(kk _ (by decide)).1.trans j1, (kk _ (by decide)).2.1.trans j2⟩, ⟨(kk _ (by decide)).1.trans j3, (kk _ (by decide)).2.1.trans j4, fun i hi => ?_⟩, fun i hi => (kk _ (by omega)).1.trans (j6 i hi)⟩, by omega⟩
  · rw [(kk 1027 (by decide)).2.2.2]
    exact m6 p hp4
  · obtain ⟨a1, a2, a3, a4, a5, a6⟩ := hpl p hp4
    exact ⟨(kk _ (by omega)).1.trans a1, ((kk _ (by omega)).2.2.1 _).trans a2, ((kk _ (by omega)).2.2.1 _).trans a3, ((kk _ (by omega)).2.2.1 _).trans a4, (kk _ (by omega)).1.trans a5, (kk _ (by omega)).1.trans a6⟩
  · obtain ⟨a1, a2, a3, a4, a5⟩ := hh p hp4
    exact ⟨(sb _ a5).1.trans a1, (sb _ a5).2.1.trans a2, a3, a4, by omega⟩
  · obtain ⟨e1, e2⟩ := hd b hb
    exact ⟨((sb b (by have := isL_lt hb; omega)).2.2.1 161).trans e1, e2.imp id fun ⟨z1, z2, z3, z4, z5⟩ => ⟨z1, by omega, (sb _ z2).1.trans z3, by rw [(sb _ z2).2.1]; exact z4, by rw [(sb _ z2).2.1]; exact z5⟩⟩
  · rw [(kk 5 (by decide)).2.2.2]
    exact j5 i hi
theorem RN.st (h : RN I J A M G hp dl) (g : RS M hp dl) (s : ST M M') (hI : ∀ k b, b < mX M → I' k b = I k b) (hJ : ∀ k b, b < mX M → J' k b = J k b) (hA : ∀ b, b < mX M → ∀ i, i < mL M b → A' b i = A b i) : RN I' J' A' M' G hp dl := by
  obtain ⟨sX, sb⟩ := s
  have hX := g.2.2.2.2.2.2.2
  obtain ⟨⟨s1, s2, s3, s4, s5, s6, s7, s8⟩, q, v⟩ := h
  have e : ∀ k b, b < 1046 → I' k b = I k b := fun k b hb => hI k b (by omega)
  refine ⟨⟨(e _ _ (by decide)).trans s1, (e _ _ (by decide)).trans s2, by rw [e _ _ (by decide)]; exact s3, (e _ _ (by decide)).trans s4, (e _ _ (by decide)).trans s5, fun z => ?_, fun z => by rw [e _ _ (by decide)]; exact s7 z, fun z => (e _ _ (by decide)).trans (s8 z)⟩, fun c hc => ?_, fun i hi => (e _ _ (by omega)).trans (v i hi)⟩
  · obtain ⟨a, b, c, k, hk, d⟩ := s6 z
    exact ⟨(e _ _ (by decide)).trans a, (e _ _ (by decide)).trans b, fun t ht => (hA 1044 (by omega) t (by rw [g.1.2.2.2.2.2.2.2]; exact ht)).trans (c t ht), k, hk, (e _ _ (by decide)).trans d⟩
  · obtain ⟨a, ⟨b1, b2, b3, b4⟩, ⟨c1, c2, c3, c4⟩, d1, d2⟩ := q c hc
    have hh := g.2.2.1 c hc
    have l1 : isL (1030 + 4 * c) := ⟨c, hc, Or.inl rfl⟩
    have l2 : isL (1031 + 4 * c) := ⟨c, hc, Or.inr rfl⟩
    refine ⟨fun k hk => (hA _ hh.2.2.2.2 k (by rw [hh.2.1]; exact hk)).trans (a k hk), ⟨(e _ _ (by omega)).trans b1, b2, fun z => by rw [(sb _ (g.d_lt l1)).2.1]; exact b3 z, fun j hj => ?_⟩, ⟨(e _ _ (by omega)).trans c1, c2, fun z => by rw [(sb _ (g.d_lt l2)).2.1]; exact c3 z, fun j hj => by rw [(sb _ (g.d_lt l2)).2.2.2]; exact c4 j hj⟩, (hJ _ _ (by omega)).trans d1, (e _ _ (by omega)).trans d2⟩
    obtain ⟨o, o1, o2, o3, o4, o5⟩ := b4 j hj
    exact ⟨o, by rw [(sb _ (g.d_lt l1)).2.2.2]; exact o1, (sb o o3).1.trans o2, by omega, (hI _ _ o3).trans o4, (hI _ _ o3).trans o5⟩
/-- the players alone -/
def RNQ (I : Nat → Nat → Int32) (J : Nat → Nat → Int64) (A : Nat → Nat → Int32) (M : zM) (G : zG) (hp dl : Nat → Nat) : Prop := (∀ p, p < 4 → RNp I J A M G hp dl p) ∧ ∀ i, i < 256 → I 96 (100 + i) = vb_c i
theorem RNs.tr (h : RNs I A G) (hI : ∀ k, I' k 1026 = I k 1026) (hA : ∀ t, t < 100 → A' 1044 t = A 1044 t) : RNs I' A' G := by
  obtain ⟨s1, s2, s3, s4, s5, s6, s7, s8⟩ := h
  refine ⟨(hI _).trans s1, (hI _).trans s2, by rw [hI]; exact s3, (hI _).trans s4, (hI _).trans s5, fun z => ?_, fun z => by rw [hI]; exact s7 z, fun z => (hI _).trans (s8 z)⟩
  obtain ⟨a, b, c, k, hk, d⟩ := s6 z
  exact ⟨(hI _).trans a, (hI _).trans b, fun t ht => (hA t ht).trans (c t ht), k, hk, (hI _).trans d⟩
theorem RNQ.st (h : RNQ I J A M G hp dl) (g : RS M hp dl) (s : ST M M') (hI : ∀ k b, b < mX M → I' k b = I k b) (hJ : ∀ k b, b < mX M → J' k b = J k b) (hA : ∀ b, b < mX M → ∀ i, i < mL M b → A' b i = A b i) : RNQ I' J' A' M' G hp dl := by
  obtain ⟨sX, sb⟩ := s
  have hX := g.2.2.2.2.2.2.2
  obtain ⟨q, v⟩ := h
  have e : ∀ k b, b < 1046 → I' k b = I k b := fun k b hb => hI k b (by omega)
  refine ⟨fun c hc => ?_, fun i hi => (e _ _ (by omega)).trans (v i hi)⟩
  obtain ⟨a, ⟨b1, b2, b3, b4⟩, ⟨c1, c2, c3, c4⟩, d1, d2⟩ := q c hc
  have hh := g.2.2.1 c hc
  have l1 : isL (1030 + 4 * c) := ⟨c, hc, Or.inl rfl⟩
  have l2 : isL (1031 + 4 * c) := ⟨c, hc, Or.inr rfl⟩
  refine ⟨fun k hk => (hA _ hh.2.2.2.2 k (by rw [hh.2.1]; exact hk)).trans (a k hk), ⟨(e _ _ (by omega)).trans b1, b2, fun z => by rw [(sb _ (g.d_lt l1)).2.1]; exact b3 z, fun j hj => ?_⟩, ⟨(e _ _ (by omega)).trans c1, c2, fun z => by rw [(sb _ (g.d_lt l2)).2.1]; exact c3 z, fun j hj => by rw [(sb _ (g.d_lt l2)).2.2.2]; exact c4 j hj⟩, (hJ _ _ (by omega)).trans d1, (e _ _ (by omega)).trans d2⟩
  obtain ⟨o, o1, o2, o3, o4, o5⟩ := b4 j hj
  exact ⟨o, by rw [(sb _ (g.d_lt l1)).2.2.2]; exact o1, (sb o o3).1.trans o2, by omega, (hI _ _ o3).trans o4, (hI _ _ o3).trans o5⟩
theorem RN.km {c s : Nat} (h : RN (mI M) (mJ M) (mA M) M G hp dl) (g : RS M hp dl) (k : KM c s M M') : RN (mI M') (mJ M') (mA M') M' G hp dl := h.st g (ST.km k) (fun q b hb => (k.2 b hb).2.2.1 q) (fun q b hb => (k.2 b hb).2.2.2.1 q) (fun b hb => (k.2 b hb).2.2.2.2.2.1)
/-- phase 3 -/
theorem RN.over (h : RN I J A M G hp dl) : RN (u2 I 422 1026 3) J A M (wS G 4 3) hp dl := by
  obtain ⟨⟨s1, s2, s3, s4, s5, s6, s7, s8⟩, q, v⟩ := h
  exact ⟨⟨rfl, s2, s3, s4, s5, s6, fun z => absurd z (show ¬ (3 : Nat) = 1 by decide), fun z => absurd z (show ¬ (3 : Nat) = 2 by decide)⟩, q, v⟩
theorem r_settle (h : RS M hp dl) (hn : RN I J A M G hp dl) (hw : WF G) : ∃ I' A', f_X7_settle 1026 (cs I J A M) = some ((), cs I' J A' (nA M 2 4)) ∧ RN I' J A' (nA M 2 4) G hp dl ∧ I' 416 1026 = I 416 1026 := by
  have hX := h.2.2.2.2.2.2.2
  have hS := h.st (ST.nA M 2 4)
  have hN : RN I J (ur A (mX M) fun _ => 0) (nA M 2 4) G hp dl := hn.st h (ST.nA M 2 4) (fun _ _ _ => rfl) (fun _ _ _ => rfl) (fun b hb i _ => ur_ne _ _ _ (Nat.ne_of_lt hb))
  obtain ⟨I', A', e, f, g⟩ := r_settle_6 hS hN hw (a1 := mX M) ⟨u1_at _ _ _, u1_at _ _ _⟩ 4 zN 0 _ rfl (by decide) (fun _ _ _ _ => rfl)
  refine ⟨I', A', ?_, ?_, ?_⟩
  · unfold f_X7_settle f_X7_settle_0
    have e4 : aA 2 (cs I J A M) 4 = some (mX M, cs I J (ur A (mX M) fun _ => 0) (nA M 2 4)) := aA_cs (c := 4) (by decide) 2
    rw [e4, Option.bind_some]
    exact e
  · exact (hn.free f).st h (ST.nA M 2 4) (fun _ _ _ => rfl) (fun _ _ _ => rfl) (fun b hb i hi => (g b (Nat.ne_of_lt hb) i (by
      show i < mL (nA M 2 4) b
      rw [show mL (nA M 2 4) b = mL M b from if_neg (Nat.ne_of_lt hb)]
      exact hi)).trans (ur_ne _ _ _ (Nat.ne_of_lt hb)))
  · exact f.at _ _ (fk_no (by decide))
theorem gDraw_no (G : zG) (h : ¬ gCan G = true) : gDraw G = wS G 4 3 := if_neg h
theorem r_draw (h : RS M hp dl) (hn : RN I J A M G hp dl) (hw : WF G) (hd : WD G) (h0 : eS G 4 = 0) : ∃ I' A' M', f_X7_draw 1026 (cs I J A M) = some (if gCan G = true then nI (gK G (40 + eS G 2)) else -1, cs I' J A' M') ∧ RS M' hp dl ∧ RN I' J A' M' (gDraw G) hp dl ∧ I' 416 1026 = 0 ∧ (mX M' ≤ mX M + 1 ∧ mS M' ≤ mS M + 4) := by
  have hn1 := hn.th 0
  have k := h.1.1
  have s1 := hn.1.1
  have e := r_start (I := I) (J := J) (A := A) h false 1 (by decide) (by decide)
  have e' : f_X7_start 1026 0 1 (cs I J A M) = some (0, cs (th 0 I) J A M) := e
  unfold f_X7_draw f_X7_draw_0
  rw [gI_cs 422 k, Option.bind_some, s1, h0, if_pos (show nI 0 = 0 from rfl)]
  unfold f_X7_draw_13
  rw [if_pos (show mK (cs I J A M) 1026 = 13 from k), e', Option.bind_some]
  dsimp only
  rw [if_pos rfl, if_pos (show mK (cs (th 0 I) J A M) 1026 = 13 from k), r_canDraw h hn1 hw hd, Option.bind_some]
  dsimp only
  by_cases y : gCan G = true
  · have hcan := of_decide_eq_true y
    have ht : eS G 5 < 4 := hw.2.2.2.2.2.1
    obtain ⟨a, b, c, d⟩ := hn1.1.2.2.2.2.2.1 hcan.1
    have hkt := gK_lt G (40 + eS G 2)
    have e40 : (40 : Nat) + eS G 2 < 100 := by have := hw.2.2.1; omega
    rw [y, if_neg (show ¬ b32 true = 0 by decide), if_pos rfl, gR_cs 418 k h.1.2.2.1, Option.bind_some, gI_cs 419 k, Option.bind_some, a, nI_1, pI_cs 419 k, Option.bind_some, lA_cs h.1.2.2.2.2.2.2.1 (by rw [h.1.2.2.2.2.2.2.2]; exact e40) (by rw [h.1.2.2.2.2.2.2.2]; decide), Option.bind_some, c _ e40, if_pos (show mK (cs _ J A M) 1026 = 13 from k)]
    have et := r_take (I := u2 (th 0 I) 419 1026 (nI (40 + eS G 2 + 1))) (J := J) (A := A) h ht hn1.1.2.1 hkt
    rw [et, Option.bind_some]
    have hrow := (hn1.2.1 _ ht).1 _ hkt
    refine ⟨u2 (u2 (u2 (th 0 I) 419 1026 (nI (40 + eS G 2 + 1))) 429 1026 (nI (gK G (40 + eS G 2)))) 422 1026 1, u2 A (hp (eS G 5)) (gK G (40 + eS G 2)) (nI (eH G (eS G 5) (gK G (40 + eS G 2)) + 1)), M, ?_, h, ?_, rfl, by omega, by omega⟩
    · rw [hrow, nI_1]
    · rw [show gDraw G = gRec (wS (wS G 2 (eS G 2 + 1)) 4 1) (gK G (40 + eS G 2)) from if_pos y]
      obtain ⟨⟨t1, t2, t3, t4, t5, t6, t7, t8⟩, tq, tv⟩ := hn1.hand h ht hkt (v := eH G (eS G 5) (gK G (40 + eS G 2)) + 1)
      refine ⟨⟨rfl, t2, t3, t4, t5, fun z => ?_, fun _ => ?_, fun z => absurd z (show ¬ (1 : Nat) = 2 by decide)⟩, tq, tv⟩
      · obtain ⟨a', b', c', d'⟩ := t6 z
        exact ⟨congrArg nI (by show 40 + eS G 2 + 1 = 40 + (eS G 2 + 1); omega), b', c', d'⟩
      · exact nI_1 _
  · have y' : gCan G = false := by cases hx : gCan G; rfl; exact absurd hx y
    rw [y', if_pos (show b32 false = 0 from rfl), if_pos (show mK (cs (th 0 I) J A M) 1026 = 13 from k)]
    obtain ⟨I', A', e1, f1, g1⟩ := r_settle h hn1 hw
    have hS := h.st (ST.nA M 2 4)
    have k2 := hS.1.1
    rw [e1, Option.bind_some]
    dsimp only
    rw [pI_cs 428 k2, Option.bind_some, pI_cs 422 k2, Option.bind_some]
    refine ⟨u2 (u2 I' 428 1026 (-1)) 422 1026 3, A', nA M 2 4, rfl, hS, ?_, g1, Nat.le_refl _, Nat.le_refl _⟩
    rw [gDraw_no G y]
    exact (f1.free ((PR.rf I').put (Or.inr (Or.inr (Or.inr rfl))) 1026 (-1))).over
theorem r_draw_no (h : RS M hp dl) (hn : RN I J A M G hp dl) (hw : WF G) (h0 : eS G 4 ≠ 0) : f_X7_draw 1026 (cs I J A M) = some (0, cs (th 1 I) J A M) := by
  have k := h.1.1
  have e := r_start (I := I) (J := J) (A := A) h true 1 (by decide) (by decide)
  have e' : f_X7_start 1026 1 1 (cs I J A M) = some (1, cs (th 1 I) J A M) := e
  have hw4 : eS G 4 < 4 := hw.2.2.2.2.1
  unfold f_X7_draw f_X7_draw_0
  rw [gI_cs 422 k, Option.bind_some, hn.1.1, if_neg (eq_f (y := 0) (eS G 4) 0 h0 (by omega) (by decide))]
  unfold f_X7_draw_13
  rw [if_pos (show mK (cs I J A M) 1026 = 13 from k), e', Option.bind_some, if_neg (show ¬ (1 : Int32) = 0 by decide)]
/-- who called draws ahead of a discard -/
def WC (G : zG) : Prop := eS G 4 = 1 → eC G (eS G 5) = true → eS G 9 = 1
theorem r_discard_65 (h : RS M hp dl) (b : Bool) (i : Int32) : f_X7_discard_65 1026 i (b32 b) (cs (th 0 I) J A M) = if b = true then some (0, cs (th 2 I) J A M) else f_X7_away 1026 i (cs (th 0 I) J A M) := by
  unfold f_X7_discard_65
  have e := r_refuse (I := I) (J := J) (A := A) h b 2 (by decide) (by decide)
  have e' : f_X7_refuse 1026 (b32 b) 2 (cs (th 0 I) J A M) = some (b32 b, cs (th (if b = true then nI 2 else 0) I) J A M) := e
  rw [if_pos (show mK (cs (th 0 I) J A M) 1026 = 13 from h.1.1), e', Option.bind_some]
  dsimp only
  cases b
  · rw [if_pos (show b32 false = 0 from rfl), if_neg (show ¬ false = true by decide), if_neg (show ¬ false = true by decide), if_pos (show mK (cs (th 0 I) J A M) 1026 = 13 from h.1.1)]
    cases f_X7_away 1026 i (cs (th 0 I) J A M) with
    | none => rfl
    | some r => rfl
  · rw [if_neg (show ¬ b32 true = 0 by decide), if_pos rfl, if_pos rfl]
    rfl
theorem r_discard_bad (h : RS M hp dl) {i : Int32} (y : oBad i) : f_X7_discard 1026 i (cs I J A M) = some (0, cs (th 1 I) J A M) := by
  have e := r_start (I := I) (J := J) (A := A) h true 1 (by decide) (by decide)
  have e' : f_X7_start 1026 1 1 (cs I J A M) = some (1, cs (th 1 I) J A M) := e
  unfold f_X7_discard f_X7_discard_0
  rw [r_kind_bad y, Option.bind_some]
  dsimp only
  rw [if_pos rfl]
  unfold f_X7_discard_13
  rw [if_pos (show mK (cs I J A M) 1026 = 13 from h.1.1), e', Option.bind_some]
  dsimp only
  rw [if_neg (show ¬ (1 : Int32) = 0 by decide)]
/-- whether a discard goes -/
def dOk (G : zG) (c : Nat) : Prop := eS G 4 = 1 ∧ eH G (eS G 5) c ≠ 0 ∧ (eC G (eS G 5) = true → c + 1 = eS G 8)
theorem r_discard (h : RS M hp dl) (hn : RN I J A M G hp dl) (hw : WF G) (hC : WC G) {c : Nat} (hc : c < 25) : (dOk G c ∧ ∃ I' J' A' M' dl', f_X7_discard 1026 (nI c) (cs I J A M) = some (nI (eM G (eS G 5) + 1), cs I' J' A' M') ∧ RS M' hp dl' ∧ RN I' J' A' M' (gRiv G c) hp dl' ∧ I' 416 1026 = 0 ∧ (mX M' ≤ mX M + 1 ∧ mS M' ≤ mS M + 100)) ∨ (¬ dOk G c ∧ f_X7_discard 1026 (nI c) (cs I J A M) = some (0, cs (th 2 I) J A M)) := by
  have k := h.1.1
  have hn1 := hn.th 0
  have ht : eS G 5 < 4 := hw.2.2.2.2.2.1
  have hw4 : eS G 4 < 4 := hw.2.2.2.2.1
  have e := r_start (I := I) (J := J) (A := A) h false 1 (by decide) (by decide)
  have e' : f_X7_start 1026 0 1 (cs I J A M) = some (0, cs (th 0 I) J A M) := e
  have hs1 := h.2.1 _ ht
  have hh := h.2.2.1 _ ht
  obtain ⟨p1, p2, p3, p4, p5⟩ := hn1.2.1 _ ht
  have h60 := r_discard_65 (I := I) (J := J) (A := A) h true (nI c)
  have h64 := r_discard_65 (I := I) (J := J) (A := A) h false (nI c)
  rw [if_pos rfl] at h60
  rw [if_neg (by decide)] at h64
  have h60' : f_X7_discard_60 1026 (nI c) (cs (th 0 I) J A M) = some (0, cs (th 2 I) J A M) := h60
  have h64' : f_X7_discard_64 1026 (nI c) (cs (th 0 I) J A M) = f_X7_away 1026 (nI c) (cs (th 0 I) J A M) := h64
  have start : f_X7_discard 1026 (nI c) (cs I J A M) = f_X7_discard_13 1026 (nI c) 0 1026 (cs I J A M) := by
    unfold f_X7_discard f_X7_discard_0
    rw [r_kind_ok hc, Option.bind_some]
    dsimp only
    rw [if_neg (show ¬ (1 : Int32) = 0 by decide)]
  rw [start]
  unfold f_X7_discard_13
  rw [if_pos (show mK (cs I J A M) 1026 = 13 from k), e', Option.bind_some]
  dsimp only
  rw [if_pos rfl, gI_cs 422 k, Option.bind_some, show th 0 I 422 1026 = nI (eS G 4) from hn.1.1]
  by_cases y1 : eS G 4 = 1
  · rw [y1, if_pos (show nI 1 = 1 from rfl), if_pos (show mK (cs (th 0 I) J A M) 1026 = 13 from k), r_its h ht hn1.1.2.1, Option.bind_some]
    dsimp only
    rw [gR_cs 386 hs1.1 hs1.2.1, Option.bind_some, lA_cs hh.1 (by rw [hh.2.1]; exact hc) (by rw [hh.2.1]; decide), Option.bind_some, p1 c hc]
    have hle := (hw.2.2.2.2.2.2.2.2.2.2 _ ht).1 c hc
    by_cases y2 : eH G (eS G 5) c = 0
    · refine Or.inr ⟨fun z => z.2.1 y2, ?_⟩
      rw [y2, if_pos (show nI 0 = 0 from rfl), h60']
    · rw [if_neg (eq_f (y := 0) _ 0 y2 (by omega) (by decide)), if_pos (show mK (cs (th 0 I) J A M) 1026 = 13 from k), r_its h ht hn1.1.2.1, Option.bind_some]
      dsimp only
      rw [gI_cs 390 hs1.1, Option.bind_some, p5]
      have fin : ∃ I' J' A' M' dl', f_X7_away 1026 (nI c) (cs (th 0 I) J A M) = some (nI (eM G (eS G 5) + 1), cs I' J' A' M') ∧ RS M' hp dl' ∧ RN I' J' A' M' (gRiv G c) hp dl' ∧ I' 416 1026 = 0 ∧ (mX M' ≤ mX M + 1 ∧ mS M' ≤ mS M + 100) := by
        obtain ⟨I', J', A', M', dl', q1, q2, q3, q4, q5, q6⟩ := r_away h hn1 hw hc y2
        exact ⟨I', J', A', M', dl', q1, q2, q3, q4, q6⟩
      by_cases y3 : eC G (eS G 5) = true
      · have y9 := hC y1 y3
        have e29 := hn1.1.2.2.2.2.2.2.1 y1
        rw [if_neg (by omega)] at e29
        rw [y3, if_neg (show ¬ b32 true = 0 by decide), gI_cs 429 k, Option.bind_some]
        by_cases y4 : c + 1 = eS G 8
        · rw [← y4] at e29
          rw [m1_s e29, if_pos rfl, h64']
          exact Or.inl ⟨⟨y1, y2, fun _ => y4⟩, fin⟩
        · have ne : ¬ th 0 I 429 1026 = nI c := fun z => by
            rw [z, nI_1] at e29
            have w8 := hw.2.2.2.2.2.2.2.2.1
            exact y4 ((nI_eq (by omega) (by omega)).mp e29)
          rw [if_neg ne, h60']
          exact Or.inr ⟨fun z => y4 (z.2.2 y3), rfl⟩
      · have y3' : eC G (eS G 5) = false := by cases hx : eC G (eS G 5); rfl; exact absurd hx y3
        rw [y3', if_pos (show b32 false = 0 from rfl), h64']
        exact Or.inl ⟨⟨y1, y2, fun z => absurd z y3⟩, fin⟩
  · rw [if_neg (eq_f (y := 1) (eS G 4) 1 y1 (by omega) (by decide)), h60']
    exact Or.inr ⟨fun z => y1 z.1, rfl⟩
end RST
