/-! ===== BOTH: best, with the answer ===== -/
/-- the better kind, from the kinds so far -/
def bst (g : Nat → Nat) (F : Nat → Int32) : Nat → Nat → Int32 → Int32 → Int32
  | 0, _, b, _ => b
  | d + 1, i, b, v => if g i ≠ 0 ∧ (b = -1 ∨ F i < v ∨ (F i = v ∧ g i < g b.toNatClampNeg)) then bst g F d (i + 1) (nI i) (F i) else bst g F d (i + 1) b v
/-- how far a hand is, with another count of one kind -/
noncomputable def frw (G : zG) (p k y : Nat) : Int32 := frv (eN G p) (u1 (eH G p) k y)
noncomputable def bsv (G : zG) : Int32 := if eS G 4 = 1 then bst (eH G (eS G 5)) (fun i => frw G (eS G 5) i (eH G (eS G 5) i - 1)) 25 0 (-1) 0 else -1
theorem i32_tri {a b : Int32} (h1 : ¬ b < a) (h2 : ¬ a = b) : a < b := by
  rw [Int32.lt_iff_toInt_lt] at *
  have : a.toInt ≠ b.toInt := fun z => h2 (Int32.toInt_inj.mp z)
  omega
theorem i32_as {a b : Int32} (h : b < a) : ¬ a < b ∧ ¬ a = b := by
  rw [Int32.lt_iff_toInt_lt] at *
  refine ⟨by omega, fun z => ?_⟩
  rw [z] at h
  omega
theorem i32_ne {c : Nat} (h : c < 25) : ¬ nI c = -1 := by
  have key : ∀ c, c < 25 → ¬ nI c = -1 := by decide
  exact key c h
theorem frw_g {G : zG} (hw : WF G) {p : Nat} (hp : p < 4) {k y : Nat} (hk : k < 25) (hy : y ≤ eH G p k + 1) (j : Nat) (hj : j < 25) : u1 (eH G p) k y j ≤ 5 := by
  have v1 := (hw.2.2.2.2.2.2.2.2.2.2 _ hp).1
  by_cases z : j = k
  · rw [z, u1_at]
    have := v1 k hk
    omega
  · rw [u1_ne _ _ z]
    have := v1 j hj
    omega
section XBEST
variable {I : Nat → Nat → Int32} {J : Nat → Nat → Int64} {A : Nat → Nat → Int32} {M : zM} {G : zG} {hp dl : Nat → Nat}
theorem x_farWithC (hA : AT A M) (hT : TB A) (h : CSH M) (hw : WF G) (hc : CR I J A G) {p k : Nat} (hp : p < 4) (hk : k < 25) {x : Int32} {y : Nat} (hx : nI (eH G p k) + x = nI y) (hy : y ≤ eH G p k + 1) : ∃ A', f_X3_farWith 1000 (1010 + 4 * p) (nI k) x (cs I J A M) = some (frw G p k y, cs I J A' M) ∧ CR I J A' G ∧ TB A' := by
  have hsp := h.2.2.2.2.2.2.2.1 _ hp
  obtain ⟨d1, d2, d3, d4, d5, d6, d7⟩ := hc.2 _ hp
  have v2 := (hw.2.2.2.2.2.2.2.2.2.2 _ hp).2.1
  have c1 : A (1011 + 4 * p) k + x = nI y := by rw [d1 k hk]; exact hx
  have hT1 : TB (u2 A (1011 + 4 * p) k (nI y)) := hT.eq fun b hb => u2_rw _ _ _ (by omega)
  obtain ⟨v, A2, e2, f2, m2⟩ := x_far (I := I) (J := J) hA h.2.2.2.2.2.1 (t := 1011 + 4 * p) (N := eN G p) hsp.2.2.2.2.1 (by omega) v2 (g := u1 (eH G p) k y) (fun j hj => by have := frw_g hw hp hk hy j hj; omega) hT1 (fun j hj => by
    by_cases z : j = k
    · rw [z, u2_rs, u1_at]
    · rw [u2_ro _ _ z, u1_ne _ _ z, d1 j hj])
  have ev : nI (2 * (3 - eN G p)) - nI v = frw G p k y := by
    unfold frw frv
    rw [fvl_eq m2, far_eq v2]
  rw [ev] at e2
  unfold f_X3_farWith f_X3_farWith_0
  rw [if_pos (show mK (cs I J A M) (1010 + 4 * p) = 7 from hsp.1), q_change hsp hk x, Option.bind_some, c1, gR_cs 289 h.1 h.2.2.1, Option.bind_some, gR_cs 224 hsp.1 hsp.2.1, Option.bind_some, gI_cs 228 hsp.1, Option.bind_some, if_pos (show mK (cs I J _ M) 1002 = 6 from h.2.2.2.2.2.1.1), d2, e2, Option.bind_some, if_pos (show mK (cs I J A2 M) (1010 + 4 * p) = 7 from hsp.1), q_change hsp hk (-x), Option.bind_some]
  have nb : ∀ b, ¬ OWN b → u2 A2 (1011 + 4 * p) k (A2 (1011 + 4 * p) k + -x) b = A b := fun b hb => by
    have e3 : A2 b = u2 A (1011 + 4 * p) k (nI y) b := own_frm f2 b hb
    funext j
    show (if b = 1011 + 4 * p ∧ j = k then A2 (1011 + 4 * p) k + -x else A2 b j) = A b j
    by_cases u : b = 1011 + 4 * p ∧ j = k
    · rw [if_pos u]
      obtain ⟨rfl, rfl⟩ := u
      rw [e3, u2_rs, ← c1]
      grind
    · rw [if_neg u, e3]
      exact if_neg u
  refine ⟨_, rfl, hc.own nb, hT.eq fun b hb => nb b (fun z => by unfold OWN at z; omega)⟩
theorem x_best_22 (hA : ∀ A, AT A M) (h : CSH M) (hw : WF G) {p : Nat} (hp : p < 4) : ∀ (d n i : Nat) (b v : Int32) (A : Nat → Nat → Int32), i + d = 25 → d < n → (b = -1 ∨ ∃ c, c < 25 ∧ b = nI c) → CR I J A G → TB A → ∃ A', f_X3_best_22 n 1000 (1010 + 4 * p) b v (nI i) (cs I J A M) = some (bst (eH G p) (fun i => frw G p i (eH G p i - 1)) d i b v, cs I J A' M) ∧ CR I J A' G := by
  have hsp := h.2.2.2.2.2.2.2.1 _ hp
  have v1 := (hw.2.2.2.2.2.2.2.2.2.2 _ hp).1
  intro d
  induction d with
  | zero =>
    intro n i b v A hi hn hb hc hT
    obtain ⟨n, rfl⟩ : ∃ m, n = m + 1 := ⟨n - 1, by omega⟩
    rw [f_X3_best_22, if_pos (le_t (x := 25) 25 i (by omega) (by omega))]
    exact ⟨A, rfl, hc⟩
  | succ d ih =>
    intro n i b v A hi hn hb hc hT
    obtain ⟨n, rfl⟩ : ∃ m, n = m + 1 := ⟨n - 1, by omega⟩
    have hk : i < 25 := by omega
    have vi := v1 i hk
    obtain ⟨d1, d2, d3, d4, d5, d6, d7⟩ := hc.2 _ hp
    rw [f_X3_best_22, if_neg (le_f (x := 25) 25 i (by omega) (by decide)), if_pos (show mK (cs I J A M) (1010 + 4 * p) = 7 from hsp.1), q_count hsp hk, Option.bind_some, nI_1 i, d1 i hk, bst]
    dsimp only
    by_cases g0 : eH G p i = 0
    · rw [if_pos (show nI (eH G p i) ≤ 0 by rw [g0]; decide), if_neg (fun z => z.1 g0)]
      exact ih n (i + 1) b v A (by omega) (by omega) hb hc hT
    · have hx : nI (eH G p i) + -1 = nI (eH G p i - 1) := by
        obtain ⟨j, hj⟩ : ∃ j, eH G p i = j + 1 := ⟨eH G p i - 1, by omega⟩
        rw [hj, pk_m1]
        rfl
      obtain ⟨A1, e1, hc1, hT1⟩ := x_farWithC (hA A) hT h hw hc hp hk hx (by omega)
      obtain ⟨d1', -⟩ := hc1.2 _ hp
      have go := ih n (i + 1) b v A1 (by omega) (by omega) hb hc1 hT1
      have i96 : ∃ A', f_X3_best_96 (f_X3_best_22 n) 1000 (1010 + 4 * p) (nI i) (frw G p i (eH G p i - 1)) (cs I J A1 M) = some (bst (eH G p) (fun i => frw G p i (eH G p i - 1)) d (i + 1) (nI i) (frw G p i (eH G p i - 1)), cs I J A' M) ∧ CR I J A' G := by
        unfold f_X3_best_96
        rw [nI_1]
        exact ih n (i + 1) _ _ A1 (by omega) (by omega) (Or.inr ⟨i, hk, rfl⟩) hc1 hT1
      rw [if_neg (le_f (y := 0) (eH G p i) 0 (by omega) (by omega)), if_pos (show mK (cs I J A M) 1000 = 9 from h.1), e1, Option.bind_some]
      dsimp only
      by_cases z1 : b = -1
      · rw [if_pos z1, if_pos ⟨g0, Or.inl z1⟩]
        unfold f_X3_best_71 f_X3_best_72
        rw [if_pos z1]
        exact i96
      · obtain ⟨c, hc25, rfl⟩ := hb.resolve_left z1
        have ec : (nI c).toNatClampNeg = c := nI_cl (by omega)
        have vc := v1 c hc25
        rw [if_neg z1, if_pos (show mK (cs I J A1 M) (1010 + 4 * p) = 7 from hsp.1), q_count hsp hk, Option.bind_some, if_pos (show mK (cs I J A1 M) (1010 + 4 * p) = 7 from hsp.1), q_count hsp hc25, Option.bind_some, d1' i hk, d1' c hc25, ec]
        dsimp only
        unfold f_X3_best_71 f_X3_best_72
        rw [if_neg z1, if_neg z1, nI_1]
        by_cases z2 : frw G p i (eH G p i - 1) < v
        · rw [if_pos z2, if_pos z2, if_pos (show eH G p i ≠ 0 ∧ (nI c = -1 ∨ frw G p i (eH G p i - 1) < v ∨ (frw G p i (eH G p i - 1) = v ∧ eH G p i < eH G p c)) from ⟨g0, Or.inr (Or.inl z2)⟩)]
          split <;> exact i96
        · rw [if_neg z2, if_neg z2]
          by_cases z3 : frw G p i (eH G p i - 1) = v
          · rw [if_pos z3, if_pos z3, if_pos rfl, if_neg (show ¬ (1 : Int32) = 0 by decide)]
            by_cases z4 : eH G p i < eH G p c
            · rw [if_neg (le_f (eH G p c) (eH G p i) (by omega) (by omega)), if_pos ⟨g0, Or.inr (Or.inr ⟨z3, z4⟩)⟩]
              exact i96
            · rw [if_pos (le_t (eH G p c) (eH G p i) (by omega) (by omega)), if_neg (fun z => z.2.elim z1 (fun z => z.elim z2 (fun z => z4 z.2)))]
              exact go
          · rw [if_neg z3, if_neg z3, if_neg (show ¬ (eH G p i ≠ 0 ∧ (nI c = -1 ∨ frw G p i (eH G p i - 1) < v ∨ (frw G p i (eH G p i - 1) = v ∧ eH G p i < eH G p c))) from fun z => z.2.elim z1 (fun z => z.elim z2 (fun z => z3 z.1)))]
            split <;> exact go
theorem x_best (hA : ∀ A, AT A M) (hT : TB A) (h : CSH M) (hw : WF G) (hc : CR I J A G) : ∃ A', f_X3_best 1000 (cs I J A M) = some (bsv G, cs I J A' M) ∧ CR I J A' G := by
  have ht := hw.2.2.2.2.2.1
  have w4 := hw.2.2.2.2.1
  unfold f_X3_best f_X3_best_0 bsv
  rw [gI_cs 295 h.1, Option.bind_some, hc.1.2.2.2.2.1]
  by_cases y : eS G 4 = 1
  · rw [if_pos (show nI (eS G 4) = 1 by rw [y]; rfl), if_pos y, if_pos (show mK (cs I J A M) 1000 = 9 from h.1), q_seatInTurn h ht hc.1.2.2.2.2.2.1, Option.bind_some]
    exact x_best_22 hA h hw ht 25 zN 0 (-1) 0 A rfl (by decide) (Or.inl rfl) hc hT
  · rw [if_neg (eq_f (y := 1) (eS G 4) 1 y (by omega) (by decide)), if_neg y]
    exact ⟨A, rfl, hc⟩
end XBEST
section XBESTR
variable {M M0 : zM} {G : zG} {hp dl : Nat → Nat}
end XBESTR
section ASKB
variable {n : Nat} {xs : Nat → Int32} {M : zM} {G : zG} {hp dl : Nat → Nat}
end ASKB

/-! ===== BOTH: outs, with code and answer ===== -/
/-- the tiles that bring one nearer -/
def otf (g s : Nat → Nat) (F : Nat → Int32) (f : Int32) : Nat → Nat → Int32 → Int32
  | 0, _, a => a
  | d + 1, i, a => if 4 - nI (g i) - nI (s i) ≤ 0 ∨ f ≤ F i then otf g s F f d (i + 1) a else otf g s F f d (i + 1) (a + (4 - nI (g i) - nI (s i)))
noncomputable def otv (G : zG) (p : Nat) : Int32 := if sn (eH G p) 0 25 + 3 * eN G p ≤ 10 then otf (eH G p) (fun k => snA G k 4 0) (fun i => frw G p i (eH G p i + 1)) (frv (eN G p) (eH G p)) 25 0 0 else 0
section XOUTS
variable {I : Nat → Nat → Int32} {J : Nat → Nat → Int64} {A : Nat → Nat → Int32} {M : zM} {G : zG} {hp dl : Nat → Nat}
theorem x_outs_44 (hA : ∀ A, AT A M) (h : CSH M) (hw : WF G) (hv : WV G) {p : Nat} (hp : p < 4) (x : Int32) : ∀ (d n i : Nat) (v : Int32) (A : Nat → Nat → Int32), i + d = 25 → d < n → CR I J A G → TB A → ∃ A', f_X3_outs_44 n 1000 (1010 + 4 * p) x v (nI i) (cs I J A M) = some (.inr (otf (eH G p) (fun k => snA G k 4 0) (fun i => frw G p i (eH G p i + 1)) x d i v), cs I J A' M) ∧ CR I J A' G := by
  have hsp := h.2.2.2.2.2.2.2.1 _ hp
  intro d
  induction d with
  | zero =>
    intro n i v A hi hn hc hT
    obtain ⟨n, rfl⟩ : ∃ m, n = m + 1 := ⟨n - 1, by omega⟩
    rw [f_X3_outs_44, if_pos (le_t (x := 25) 25 i (by omega) (by omega))]
    exact ⟨A, rfl, hc⟩
  | succ d ih =>
    intro n i v A hi hn hc hT
    obtain ⟨n, rfl⟩ : ∃ m, n = m + 1 := ⟨n - 1, by omega⟩
    have hk : i < 25 := by omega
    obtain ⟨d1, -⟩ := hc.2 _ hp
    have e2 := q_seen8x (M := cs I J A M) h hw hv hc hk 4 zN 0 0 rfl (by decide)
    rw [Nat.zero_add] at e2
    have e3 : f_X3_seen 1000 (nI i) (cs I J A M) = some (.inr (nI (snA G i 4 0)), cs I J A M) := by
      unfold f_X3_seen f_X3_seen_0
      rw [q_requireKind_ok hk]
      exact e2
    obtain ⟨A1, e1, hc1, hT1⟩ := x_farWithC (hA A) hT h hw hc hp hk (x := 1) (y := eH G p i + 1) (nI_1 _) (Nat.le_refl _)
    rw [f_X3_outs_44, if_neg (le_f (x := 25) 25 i (by omega) (by decide)), if_pos (show mK (cs I J A M) (1010 + 4 * p) = 7 from hsp.1), q_count hsp hk, Option.bind_some, if_pos (show mK (cs I J A M) 1000 = 9 from h.1), e3, nI_1 i, d1 i hk, otf]
    show ∃ A', (if 4 - nI (eH G p i) - nI (snA G i 4 0) ≤ (0 : Int32) then _ else _) = _ ∧ _
    by_cases y : 4 - nI (eH G p i) - nI (snA G i 4 0) ≤ (0 : Int32)
    · rw [if_pos y, if_pos (Or.inl y)]
      exact ih n (i + 1) v A (by omega) (by omega) hc hT
    · rw [if_neg y, if_pos (show mK (cs I J A M) 1000 = 9 from h.1), e1, Option.bind_some]
      dsimp only
      by_cases z : x ≤ frw G p i (eH G p i + 1)
      · rw [if_pos z, if_pos (Or.inr z)]
        exact ih n (i + 1) v A1 (by omega) (by omega) hc1 hT1
      · rw [if_neg z, if_neg (fun q => q.elim y z)]
        exact ih n (i + 1) _ A1 (by omega) (by omega) hc1 hT1
theorem x_outs (hA : ∀ A, AT A M) (hT : TB A) (h : CSH M) (hw : WF G) (hv : WV G) (hz : WZ G) (hc : CR I J A G) {p : Nat} (hp : p < 4) : ∃ A', f_X3_outs 1000 (nI p) (cs I J A M) = some (.inr (otv G p), cs I J A' M) ∧ CR I J A' G := by
  have hsp := h.2.2.2.2.2.2.2.1 _ hp
  obtain ⟨d1, d2, d3, d4, d5, d6, d7⟩ := hc.2 _ hp
  obtain ⟨v1, v2, v3, v4⟩ := hw.2.2.2.2.2.2.2.2.2.2 _ hp
  have hz := hz p hp
  unfold f_X3_outs f_X3_outs_0
  rw [q_pl_ok hp]
  show ∃ A', (gR 9 0 (cs I J A M) 1000).bind _ = _ ∧ _
  rw [gR_cs 288 h.1 h.2.1, Option.bind_some, h.seat hp, Option.bind_some, if_pos (show mK (cs I J A M) (1010 + 4 * p) = 7 from hsp.1), q_sizeN hsp d1 d2, Option.bind_some]
  dsimp only
  unfold otv
  by_cases y : sn (eH G p) 0 25 + 3 * eN G p ≤ 10
  · obtain ⟨v, A2, e2, f2, m2⟩ := x_far (I := I) (J := J) (hA A) h.2.2.2.2.2.1 (t := 1011 + 4 * p) (N := eN G p) hsp.2.2.2.2.1 (by omega) v2 (g := eH G p) (fun k hk => by have := v1 k hk; omega) hT d1
    have ev : nI (2 * (3 - eN G p)) - nI v = frv (eN G p) (eH G p) := by
      unfold frv
      rw [fvl_eq m2, far_eq v2]
    rw [ev] at e2
    rw [if_pos y, if_pos (le_t (y := 10) (sn (eH G p) 0 25 + 3 * eN G p) 10 y (by omega)), gR_cs 289 h.1 h.2.2.1, Option.bind_some, gR_cs 224 hsp.1 hsp.2.1, Option.bind_some, gI_cs 228 hsp.1, Option.bind_some, if_pos (show mK (cs I J A M) 1002 = 6 from h.2.2.2.2.2.1.1), d2, e2, Option.bind_some]
    exact x_outs_44 hA h hw hv hp _ 25 zN 0 0 A2 rfl (by decide) (hc.own (own_frm f2)) (hT.eq fun b hb => f2 b (Or.inl (by omega)))
  · rw [if_neg y, if_neg (le_f (y := 10) (sn (eH G p) 0 25 + 3 * eN G p) 10 (by omega) (by omega))]
    exact ⟨A, rfl, hc⟩
end XOUTS
section XOUTSR
variable {M M0 : zM} {G : zG} {hp dl : Nat → Nat}
end XOUTSR
section ASKOU
variable {n : Nat} {xs : Nat → Int32} {M : zM} {G : zG} {hp dl : Nat → Nat}
end ASKOU

/-! ===== NUMBERS: quarters are exact ===== -/
/-- a is the quarter of i -/
def DQ (i : Int) (a : UInt64) : Prop := ∃ s c q, FP.Core.val64 a = .fin s c q ∧ FP.Core.Whole i (.fin s c (q + 2))
theorem fq_min : FP.Core.Fmt.qmin FP.Core.b64 = -1074 := by decide
theorem fq_p : FP.Core.b64.p = 53 := rfl
theorem fq_round {i : Int} (hi : i.natAbs ≤ 2 ^ 53) {s : Bool} {c : Nat} {q : Int} (h : FP.Core.Whole i (.fin s c (q + 2))) : ∃ c' q', FP.Core.round FP.Core.b64 (.fin s c q) = .fin s c' q' ∧ FP.Core.Whole i (.fin s c' (q' + 2)) := by
  by_cases h0 : i = 0
  · have hc : c = 0 := (FP.Core.whole_zero h).mpr h0
    subst hc
    subst h0
    refine ⟨0, FP.Core.b64.qmin, ?_, ?_⟩
    · show FP.Core.roundRatio FP.Core.b64 s 0 1 q = _
      unfold FP.Core.roundRatio
      exact if_pos rfl
    · show FP.Core.signed s (0 * _) = 0 * _
      rw [Nat.zero_mul, FP.Core.signed_zero, Int.zero_mul]
  · obtain ⟨c', q', hfit, hv⟩ := FP.Core.natFit FP.Core.good_b64 FP.Core.wide_b64 s (n := i.natAbs) hi
    have hw : FP.Core.Whole i (FP.Core.round FP.Core.b64 (.fin s c (q + 2))) := FP.Core.whole_round FP.Core.good_b64 FP.Core.wide_b64 hi h
    have er : FP.Core.round FP.Core.b64 (.fin s c (q + 2)) = .fin s c' q' := by
      rw [FP.Core.round_whole h]
      exact FP.Core.roundRatio_exact FP.Core.good_b64 (by decide) hfit hv
    rw [er] at hw
    have hn : 0 < i.natAbs := by omega
    have hq : -60 ≤ q' := by
      refine Int.le_of_not_gt fun z => ?_
      rw [show (q' - 0).toNat = 0 by omega, Nat.pow_zero, Nat.mul_one, Nat.mul_one] at hv
      have h1 : c' < 2 ^ 53 := hfit.1
      have h2 : 2 ^ 53 ≤ 2 ^ (0 - q').toNat := Nat.pow_le_pow_right (by decide) (by omega)
      have h3 : 2 ^ (0 - q').toNat ≤ i.natAbs * 2 ^ (0 - q').toNat := Nat.le_mul_of_pos_left _ hn
      omega
    obtain ⟨f1, f2, f3, f4⟩ := hfit
    have m := fq_min
    have fit2 : FP.Core.fits FP.Core.b64 (.fin s c' (q' - 2)) := ⟨f1, by omega, by omega, Or.inr (f4.resolve_left (by omega))⟩
    refine ⟨c', q' - 2, ?_, ?_⟩
    · have e1 : FP.Core.round FP.Core.b64 (.fin s c q) = FP.Core.roundRatio FP.Core.b64 s i.natAbs 1 (-2) := by
        refine FP.Core.roundRatio_congr (by decide) (by decide) ?_
        have := FP.Core.whole_natAbs h
        rw [show (q - -2).toNat = (q + 2).toNat by omega, show (-2 - q).toNat = (-(q + 2)).toNat by omega, Nat.mul_one, Nat.mul_one]
        exact this
      rw [e1]
      refine FP.Core.roundRatio_exact FP.Core.good_b64 (by decide) fit2 ?_
      rw [show (-2 - (q' - 2)).toNat = (0 - q').toNat by omega, show (q' - 2 - -2).toNat = (q' - 0).toNat by omega]
      exact hv
    · rw [show q' - 2 + 2 = q' by omega]
      exact hw
theorem fq_4 : FP.Core.val64 4616189618054758400 = .fin false (2 ^ 52) (-50) := by decide +kernel
theorem fq_fin {i : Int} {a : UInt64} (h : FP.Core.DInt i a) : ∃ s c q, FP.Core.val64 a = .fin s c q ∧ FP.Core.Whole i (.fin s c q) := by
  unfold FP.Core.DInt at h
  cases e : FP.Core.val64 a with
  | nan => rw [e] at h; exact h.elim
  | inf s => rw [e] at h; exact h.elim
  | fin s c q => rw [e] at h; exact ⟨s, c, q, rfl, h⟩
theorem fq_div (x : Int32) : DQ x.toInt (FP.ddiv (FP.i2d x) (4616189618054758400 : UInt64)) := by
  obtain ⟨s, c, q, e, w⟩ := fq_fin (FP.Core.i2d_int x)
  have hb : x.toInt.natAbs ≤ 2 ^ 53 := by
    have h1 := x.toInt_lt
    have h2 := x.le_toInt
    omega
  obtain ⟨c', q', e1, w1⟩ := fq_round hb (q := q - 2) (by rw [show q - 2 + 2 = q by omega]; exact w)
  refine ⟨s, c', q', ?_, w1⟩
  have e2 : FP.Core.val64 (FP.ddiv (FP.i2d x) (4616189618054758400 : UInt64)) = FP.Core.quotient FP.Core.b64 (FP.Core.val64 (FP.i2d x)) (FP.Core.val64 4616189618054758400) := FP.Core.val64_ddiv _ _
  have e3 : FP.Core.val64 (FP.i2d x) = .fin s c q := e
  rw [e2, e3, fq_4, ← e1]
  show (if (2 : Nat) ^ 52 = 0 then (if c = 0 then FP.Core.Datum.nan else FP.Core.Datum.inf (s != false)) else FP.Core.roundRatio FP.Core.b64 (s != false) c (2 ^ 52) (q - -50)) = FP.Core.roundRatio FP.Core.b64 s c 1 (q - 2)
  rw [if_neg (by decide), Bool.bne_false]
  refine FP.Core.roundRatio_congr (by decide) (by decide) ?_
  rw [show (q - -50 - (q - 2)).toNat = 52 by omega, show (q - 2 - (q - -50)).toNat = 0 by omega]
  omega
theorem fq_w4 {a : Int} {s : Bool} {c : Nat} {q : Int} (h : FP.Core.Whole a (.fin s c q)) : FP.Core.Whole (4 * a) (.fin s c (q + 2)) := by
  have h4 : FP.Core.Whole 4 (.fin false 1 2) := by
    show FP.Core.signed false (1 * 2 ^ (2 : Int).toNat) = 4 * ((2 ^ (-(2 : Int)).toNat : Nat) : Int)
    decide
  have p := FP.Core.whole_product h4 h
  have e : FP.Core.exactProduct (.fin false 1 2) (.fin s c q) = .fin s c (q + 2) := by
    show FP.Core.Datum.fin (false != s) (1 * c) (2 + q) = .fin s c (q + 2)
    rw [Bool.false_bne, Nat.one_mul, Int.add_comm]
  rw [e] at p
  exact p
theorem fq_sub {a b : UInt64} {i j : Int} (ha : FP.Core.DInt i a) (hb : DQ j b) (hi : (4 * i - j).natAbs ≤ 2 ^ 53) : DQ (4 * i - j) (FP.dsub a b) := by
  obtain ⟨s, c, q, e, w⟩ := fq_fin ha
  obtain ⟨t, d, r, e', w'⟩ := hb
  have w4 := fq_w4 w
  have wn := FP.Core.whole_negate w'
  have ws := FP.Core.whole_sum w4 wn
  have m : min (q + 2) (r + 2) = min q r + 2 := by omega
  have es : FP.Core.exactSum (.fin s c (q + 2)) (FP.Core.negate (.fin t d (r + 2))) = .fin (FP.Core.sumSign s (!t) (FP.Core.sumUnits s c q (!t) d r (min q r))) (FP.Core.sumUnits s c q (!t) d r (min q r)).natAbs (min q r + 2) := by
    show FP.Core.Datum.fin (FP.Core.sumSign s (!t) (FP.Core.sumUnits s c (q + 2) (!t) d (r + 2) (min (q + 2) (r + 2)))) (FP.Core.sumUnits s c (q + 2) (!t) d (r + 2) (min (q + 2) (r + 2))).natAbs (min (q + 2) (r + 2)) = _
    have eu : FP.Core.sumUnits s c (q + 2) (!t) d (r + 2) (min (q + 2) (r + 2)) = FP.Core.sumUnits s c q (!t) d r (min q r) := by
      unfold FP.Core.sumUnits FP.Core.inUnits
      rw [m, show q + 2 - (min q r + 2) = q - min q r by omega, show r + 2 - (min q r + 2) = r - min q r by omega]
    rw [eu, m]
  rw [es] at ws
  rw [← Int.sub_eq_add_neg] at ws
  obtain ⟨c', q', e1, w1⟩ := fq_round hi ws
  refine ⟨_, c', q', ?_, w1⟩
  have e2 : FP.Core.val64 (FP.dsub a b) = FP.Core.round FP.Core.b64 (FP.Core.exactSum (FP.Core.val64 a) (FP.Core.negate (FP.Core.val64 b))) := FP.Core.val64_dsub _ _
  rw [e2, e, e']
  exact e1
theorem fq_mul {b : UInt64} {i : Int} (hb : DQ i b) (hi : i.natAbs ≤ 2 ^ 53) : FP.Core.DInt i (FP.dmul (4616189618054758400 : UInt64) b) := by
  obtain ⟨s, c, q, e, w⟩ := hb
  have h1 : FP.Core.Whole 1 (.fin false (2 ^ 52) (-52)) := by
    show FP.Core.signed false (2 ^ 52 * 2 ^ (-52 : Int).toNat) = 1 * ((2 ^ (-(-52 : Int)).toNat : Nat) : Int)
    decide +kernel
  have p := FP.Core.whole_product h1 w
  rw [Int.one_mul] at p
  have ep : FP.Core.exactProduct (.fin false (2 ^ 52) (-52)) (.fin s c (q + 2)) = FP.Core.exactProduct (.fin false (2 ^ 52) (-50)) (.fin s c q) := by
    show FP.Core.Datum.fin (false != s) (2 ^ 52 * c) (-52 + (q + 2)) = .fin (false != s) (2 ^ 52 * c) (-50 + q)
    rw [show -52 + (q + 2) = -50 + q by omega]
  rw [ep] at p
  have w2 := FP.Core.whole_round FP.Core.good_b64 FP.Core.wide_b64 hi p
  have e2 : FP.Core.val64 (FP.dmul (4616189618054758400 : UInt64) b) = FP.Core.round FP.Core.b64 (FP.Core.exactProduct (FP.Core.val64 4616189618054758400) (FP.Core.val64 b)) := FP.Core.val64_dmul _ _
  unfold FP.Core.DInt
  rw [e2, fq_4, e]
  exact w2
theorem fq_cmp {a b : UInt64} {i : Int} (ha : DQ i a) (hb : DQ i b) : FP.dcmp a b = some .eq := by
  obtain ⟨s, c, q, e, w⟩ := ha
  obtain ⟨t, d, r, e', w'⟩ := hb
  have o := FP.Core.order_whole w w'
  rw [FP.Core.compare_self_int] at o
  have e2 : FP.dcmp a b = FP.Core.order (FP.Core.val64 a) (FP.Core.val64 b) := rfl
  rw [e2, e, e', ← o]
  have m : min (q + 2) (r + 2) = min q r + 2 := by omega
  show some (compare (FP.Core.signed s (FP.Core.inUnits c q (min q r))) (FP.Core.signed t (FP.Core.inUnits d r (min q r)))) = some (compare (FP.Core.signed s (FP.Core.inUnits c (q + 2) (min (q + 2) (r + 2)))) (FP.Core.signed t (FP.Core.inUnits d (r + 2) (min (q + 2) (r + 2)))))
  unfold FP.Core.inUnits
  rw [m, show q + 2 - (min q r + 2) = q - min q r by omega, show r + 2 - (min q r + 2) = r - min q r by omega]
/-- a lead, by both -/
theorem lead_eq {a S : Int32} {i : Int} (hi : i = 4 * a.toInt - S.toInt) (h : (4 * a - S).toInt = i) : DQ i (FP.ddiv (FP.i2d (4 * a - S)) (4616189618054758400 : UInt64)) ∧ DQ i (FP.dsub (FP.i2d a) (FP.ddiv (FP.i2d S) (4616189618054758400 : UInt64))) := by
  have hb : i.natAbs ≤ 2 ^ 53 := by
    rw [← h]
    have h1 := (4 * a - S).toInt_lt
    have h2 := (4 * a - S).le_toInt
    omega
  refine ⟨by rw [← h]; exact fq_div _, ?_⟩
  rw [hi] at hb ⊢
  exact fq_sub (FP.Core.i2d_int a) (fq_div S) hb
theorem lead_l {a S : Int32} (h : (4 * a - S).toInt = 4 * a.toInt - S.toInt) : FP.d2l (FP.dmul (4616189618054758400 : UInt64) (FP.dsub (FP.i2d a) (FP.ddiv (FP.i2d S) (4616189618054758400 : UInt64)))) = (4 * a - S).toInt64 := by
  have q := (lead_eq rfl h).2
  have hb : (4 * a.toInt - S.toInt).natAbs ≤ 2 ^ 53 := by
    rw [← h]
    have h1 := (4 * a - S).toInt_lt
    have h2 := (4 * a - S).le_toInt
    omega
  refine FP.Core.d2l_int ?_
  rw [Int32.toInt_toInt64, h]
  exact fq_mul q hb

/-! ===== BOTH: lead, with code and answer ===== -/
/-- the sum of all points -/
def pSum (pt : Nat → Int32) : Nat → Nat → Int32 → Int32
  | 0, _, a => a
  | d + 1, i, a => pSum pt d (i + 1) (a + pt i)
def pS4 (e : zPt) : Int32 := pSum e.1 4 0 0
/-- four leads are no greater than a number of 32 digits -/
theorem lead_b {c : Nat} {e : zPt} (h : EB c e) (hc : c ≤ 600) {p : Nat} (hp : p < 4) : (4 * e.1 p - pS4 e).toInt = 4 * (e.1 p).toInt - (pS4 e).toInt := by
  obtain ⟨a, -⟩ := h hc
  obtain ⟨z0, e0, b0⟩ := a 0 (by decide)
  obtain ⟨z1, e1, b1⟩ := a 1 (by decide)
  obtain ⟨z2, e2, b2⟩ := a 2 (by decide)
  obtain ⟨z3, e3, b3⟩ := a 3 (by decide)
  obtain ⟨z, ez, bz⟩ := a p hp
  have es : pS4 e = Int32.ofInt (z0 + z1 + z2 + z3) := by
    show 0 + e.1 0 + e.1 1 + e.1 2 + e.1 3 = _
    rw [e0, e1, e2, e3, Int32.ofInt_add, Int32.ofInt_add, Int32.ofInt_add, Int32.zero_add]
  have e4 : 4 * e.1 p - pS4 e = Int32.ofInt (4 * z - (z0 + z1 + z2 + z3)) := by
    rw [es, ez, Int32.ofInt_sub, Int32.ofInt_mul]
    rfl
  rw [e4, es, ez, Int32.toInt_ofInt_of_le (by omega) (by omega), Int32.toInt_ofInt_of_le (by omega) (by omega), Int32.toInt_ofInt_of_le (by omega) (by omega)]
section XLEAD
variable {I : Nat → Nat → Int32} {J : Nat → Nat → Int64} {A : Nat → Nat → Int32} {M : zM} {G : zG} {hp dl : Nat → Nat}
theorem x_fourLeads_4 (h : CSH M) {e : zPt} (he : CE I e) {p : Nat} (hp : p < 4) : ∀ (d n i : Nat) (v : Int32), i + d = 4 → d < n → f_X3_fourLeads_4 n 1000 (nI p) v (nI i) (cs I J A M) = some (4 * e.1 p - pSum e.1 d i v, cs I J A M) := by
  have hsp := h.2.2.2.2.2.2.2.1 _ hp
  intro d
  induction d with
  | zero =>
    intro n i v hi hn
    obtain ⟨n, rfl⟩ : ∃ m, n = m + 1 := ⟨n - 1, by omega⟩
    rw [f_X3_fourLeads_4, if_pos (le_t (x := 4) 4 i (by omega) (by omega)), gR_cs 288 h.1 h.2.1, Option.bind_some, h.seat hp, Option.bind_some, gI_cs 231 hsp.1, Option.bind_some, (he.1 p hp).1]
    rfl
  | succ d ih =>
    intro n i v hi hn
    obtain ⟨n, rfl⟩ : ∃ m, n = m + 1 := ⟨n - 1, by omega⟩
    have hi4 : i < 4 := by omega
    have hsi := h.2.2.2.2.2.2.2.1 _ hi4
    rw [f_X3_fourLeads_4, if_neg (le_f (x := 4) 4 i (by omega) (by decide)), gR_cs 288 h.1 h.2.1, Option.bind_some, h.seat hi4, Option.bind_some, gI_cs 231 hsi.1, Option.bind_some, nI_1, (he.1 i hi4).1]
    exact ih n (i + 1) _ (by omega) (by omega)
theorem x_fourLeads (h : CSH M) {e : zPt} (he : CE I e) {p : Nat} (hp : p < 4) : f_X3_fourLeads 1000 (nI p) (cs I J A M) = some (4 * e.1 p - pS4 e, cs I J A M) := x_fourLeads_4 h he hp 4 zN 0 0 rfl (by decide)
theorem x_lead (h : CSH M) {e : zPt} (he : CE I e) {p : Nat} (hp : p < 4) : f_X3_lead 1000 (nI p) (cs I J A M) = some (.inr (FP.ddiv (FP.i2d (4 * e.1 p - pS4 e)) (4616189618054758400 : UInt64)), cs I J A M) := by
  unfold f_X3_lead f_X3_lead_0
  rw [q_pl_ok hp]
  show (if mK (cs I J A M) 1000 = 9 then _ else none) = _
  rw [if_pos (show mK (cs I J A M) 1000 = 9 from h.1), x_fourLeads h he hp, Option.bind_some, if_pos (z_div4 _)]
end XLEAD
section XLEADR
variable {M : zM} {G : zG} {hp dl : Nat → Nat}
end XLEADR
section ASKL
variable {n cc : Nat} {xs : Nat → Int32} {M : zM} {G : zG} {hp dl : Nat → Nat}
end ASKL

/-! ===== BOTH: digest, with the answer ===== -/
def fo (f : Nat → Int64) : Nat → Nat → Int64 → Int64
  | 0, _, j => j
  | d + 1, i, j => fo f d (i + 1) (j * 31 + f i)
noncomputable def dg1 (G : zG) (e : zPt) (p : Nat) (j : Int64) : Int64 := fo (fun x => (opl G e p x).toInt64) 10 0 j
def dg2 (G : zG) (p : Nat) (j : Int64) : Int64 := fo (fun k => (nI (eH G p k)).toInt64) 25 0 j
def dg3 (G : zG) (p : Nat) (j : Int64) : Int64 := fo (fun k => (nI (eV G p k)).toInt64) (eN G p) 0 j
def dg4 (G : zG) (p : Nat) (j : Int64) : Int64 := fo (fun k => (nI (eR G p k)).toInt64) (eM G p) 0 j
def dg5 (G : zG) (e : zPt) (p : Nat) (j : Int64) : Int64 := (j * 31 + gW G p) * 31 + (4 * e.1 p - pS4 e).toInt64
noncomputable def dgP (G : zG) (e : zPt) (p : Nat) (j : Int64) : Int64 := dg5 G e p (dg4 G p (dg3 G p (dg2 G p (dg1 G e p j))))
noncomputable def dgA (G : zG) (e : zPt) : Nat → Nat → Int64 → Int64
  | 0, _, j => j
  | d + 1, i, j => dgA G e d (i + 1) (dgP G e i j)
noncomputable def dgV (G : zG) (e : zPt) : Int64 := dgA G e 4 0 (fo (fun x => (mny G e x).toInt64) 10 0 58317) * 31 + (bsv G).toInt64
section XDIG
variable {I : Nat → Nat → Int32} {J : Nat → Nat → Int64} {A : Nat → Nat → Int32} {M : zM} {G : zG} {e : zPt}
/-- what the class's digest comes to -/
def DX (I : Nat → Nat → Int32) (J : Nat → Nat → Int64) (M : zM) (G : zG) (V : Int64) (x : Option ((String ⊕ Int64) × zM)) : Prop := ∃ A', x = some (.inr V, cs I J A' M) ∧ CR I J A' G ∧ TB A'
theorem x_dp164 (h : CSH M) (hw : WF G) (hc : CR I J A G) (hT : TB A) (he : CE I e) {p : Nat} (hp : p < 4) (v : Int64) : DX I J M G (dg5 G e p v) (f_X3_digestPlayer_164 1000 (nI p) (1010 + 4 * p) v (cs I J A M)) := by
  obtain ⟨A1, e1, f1⟩ := q_waitsG h hc hw hp
  unfold f_X3_digestPlayer_164
  rw [if_pos (show mK (cs I J A M) 1000 = 9 from h.1), e1, Option.bind_some, if_pos (show mK (cs I J A1 M) 1000 = 9 from h.1), x_fourLeads h he hp, Option.bind_some]
  exact ⟨A1, rfl, hc.own f1, hT.eq fun b hb => f1 b (fun z => by unfold OWN at z; omega)⟩
theorem x_dp123 (h : CSH M) (hw : WF G) (hc : CR I J A G) (hT : TB A) (he : CE I e) {p : Nat} (hp : p < 4) : ∀ (d n i : Nat) (v : Int64), i + d = eM G p → d < n → DX I J M G (dg5 G e p (fo (fun k => (nI (eR G p k)).toInt64) d i v)) (f_X3_digestPlayer_123 n 1000 (nI p) (1010 + 4 * p) v (nI i) (cs I J A M)) := by
  have hsp := h.2.2.2.2.2.2.2.1 _ hp
  obtain ⟨d1, d2, d3, d4, d5, d6, d7⟩ := hc.2 _ hp
  obtain ⟨v1, v2, v3, v4⟩ := hw.2.2.2.2.2.2.2.2.2.2 _ hp
  intro d
  induction d with
  | zero =>
    intro n i v hi hn
    obtain ⟨n, rfl⟩ : ∃ m, n = m + 1 := ⟨n - 1, by omega⟩
    rw [f_X3_digestPlayer_123, gI_cs 229 hsp.1, Option.bind_some, d4, if_pos (le_t (eM G p) i (by omega) (by omega))]
    exact x_dp164 h hw hc hT he hp v
  | succ d ih =>
    intro n i v hi hn
    obtain ⟨n, rfl⟩ : ∃ m, n = m + 1 := ⟨n - 1, by omega⟩
    rw [f_X3_digestPlayer_123, gI_cs 229 hsp.1, Option.bind_some, d4, if_neg (le_f (eM G p) i (by omega) (by omega)), if_neg (le_f (x := 64) 64 i (by omega) (by decide)), gR_cs 226 hsp.1 hsp.2.2.2.1, Option.bind_some, lA_cs hsp.2.2.2.2.2.2.1 (by rw [hsp.2.2.2.2.2.2.2]; omega) (by rw [hsp.2.2.2.2.2.2.2]; decide), Option.bind_some, nI_1, d5 i (by omega)]
    exact ih n (i + 1) _ (by omega) (by omega)
theorem x_dp80 (h : CSH M) (hw : WF G) (hc : CR I J A G) (hT : TB A) (he : CE I e) {p : Nat} (hp : p < 4) : ∀ (d n i : Nat) (v : Int64), i + d = eN G p → d < n → DX I J M G (dg5 G e p (dg4 G p (fo (fun k => (nI (eV G p k)).toInt64) d i v))) (f_X3_digestPlayer_80 n 1000 (nI p) (1010 + 4 * p) v (nI i) (cs I J A M)) := by
  have hsp := h.2.2.2.2.2.2.2.1 _ hp
  obtain ⟨d1, d2, d3, d4, d5, d6, d7⟩ := hc.2 _ hp
  obtain ⟨v1, v2, v3, v4⟩ := hw.2.2.2.2.2.2.2.2.2.2 _ hp
  intro d
  induction d with
  | zero =>
    intro n i v hi hn
    obtain ⟨n, rfl⟩ : ∃ m, n = m + 1 := ⟨n - 1, by omega⟩
    rw [f_X3_digestPlayer_80, gI_cs 228 hsp.1, Option.bind_some, d2, if_pos (le_t (eN G p) i (by omega) (by omega))]
    exact x_dp123 h hw hc hT he hp (eM G p) zN 0 v (Nat.zero_add _) (by show eM G p < 130; omega)
  | succ d ih =>
    intro n i v hi hn
    obtain ⟨n, rfl⟩ : ∃ m, n = m + 1 := ⟨n - 1, by omega⟩
    rw [f_X3_digestPlayer_80, gI_cs 228 hsp.1, Option.bind_some, d2, if_neg (le_f (eN G p) i (by omega) (by omega)), if_neg (le_f (x := 3) 3 i (by omega) (by decide)), gR_cs 225 hsp.1 hsp.2.2.1, Option.bind_some, lA_cs hsp.2.2.2.2.2.1.1 (by rw [hsp.2.2.2.2.2.1.2]; omega) (by rw [hsp.2.2.2.2.2.1.2]; decide), Option.bind_some, nI_1, d3 i (by omega)]
    exact ih n (i + 1) _ (by omega) (by omega)
theorem x_dp47 (h : CSH M) (hw : WF G) (hc : CR I J A G) (hT : TB A) (he : CE I e) {p : Nat} (hp : p < 4) : ∀ (d n i : Nat) (v : Int64), i + d = 25 → d < n → DX I J M G (dg5 G e p (dg4 G p (dg3 G p (fo (fun k => (nI (eH G p k)).toInt64) d i v)))) (f_X3_digestPlayer_47 n 1000 (nI p) (1010 + 4 * p) v (nI i) (cs I J A M)) := by
  have hsp := h.2.2.2.2.2.2.2.1 _ hp
  obtain ⟨d1, -⟩ := hc.2 _ hp
  have v2 := (hw.2.2.2.2.2.2.2.2.2.2 _ hp).2.1
  intro d
  induction d with
  | zero =>
    intro n i v hi hn
    obtain ⟨n, rfl⟩ : ∃ m, n = m + 1 := ⟨n - 1, by omega⟩
    rw [f_X3_digestPlayer_47, if_pos (le_t (x := 25) 25 i (by omega) (by omega))]
    exact x_dp80 h hw hc hT he hp (eN G p) zN 0 v (Nat.zero_add _) (by show eN G p < 130; omega)
  | succ d ih =>
    intro n i v hi hn
    obtain ⟨n, rfl⟩ : ∃ m, n = m + 1 := ⟨n - 1, by omega⟩
    rw [f_X3_digestPlayer_47, if_neg (le_f (x := 25) 25 i (by omega) (by decide)), if_pos (show mK (cs I J A M) (1010 + 4 * p) = 7 from hsp.1), q_count hsp (show i < 25 by omega), Option.bind_some, nI_1, d1 i (by omega)]
    exact ih n (i + 1) _ (by omega) (by omega)
theorem tb_fc {α : Type} (hX : 4 ≤ mX M) {x : Option (α × zM)} {v : α} {A' : Nat → Nat → Int32} (k : KF (FC (cs I J A M)) x) (ex : x = some (v, cs I J A' M)) (hT : TB A) : TB A' := hT.eq fun b hb => ((k _ ex).1.2 b (by show b < mX M; omega) (fun z => by unfold own at z; omega)).2.2.2.2.2.1
theorem x_dp14 (hA : ∀ A, AT A M) (hg : RG M) (h : CSH M) (hw : WF G) (hv : WV G) (hd : WD G) (he : CE I e) {p : Nat} (hp : p < 4) : ∀ (d n i : Nat) (v : Int64) (A : Nat → Nat → Int32), i + d = 10 → d < n → CR I J A G → TB A → DX I J M G (dg5 G e p (dg4 G p (dg3 G p (dg2 G p (fo (fun x => (opl G e p x).toInt64) d i v))))) (f_X3_digestPlayer_14 n 1000 (nI p) (1010 + 4 * p) v (nI i) (cs I J A M)) := by
  have hX : 4 ≤ mX M := by have := hg.1; omega
  intro d
  induction d with
  | zero =>
    intro n i v A hi hn hc hT
    obtain ⟨n, rfl⟩ : ∃ m, n = m + 1 := ⟨n - 1, by omega⟩
    rw [f_X3_digestPlayer_14, if_pos (lt_t (x := 9) 9 i (by omega) (by omega))]
    exact x_dp47 h hw hc hT he hp 25 zN 0 v rfl (by decide)
  | succ d ih =>
    intro n i v A hi hn hc hT
    obtain ⟨n, rfl⟩ : ∃ m, n = m + 1 := ⟨n - 1, by omega⟩
    obtain ⟨A', e1, hc1⟩ := x_ofPlayer (hA A) hT h hw hv hd hc he hp (show i < 10 by omega)
    have hT1 := tb_fc hX (kc_X3_ofPlayer (M0 := cs I J A M) hg own1000 (FC.rf _)) e1 hT
    rw [f_X3_digestPlayer_14, if_neg (lt_f (x := 9) 9 i (by omega) (by decide)), if_pos (show mK (cs I J A M) 1000 = 9 from h.1), nI_1, e1]
    exact ih n (i + 1) _ A' (by omega) (by omega) hc1 hT1
theorem x_dig33 (hA : ∀ A, AT A M) (hg : RG M) (h : CSH M) (hw : WF G) (hv : WV G) (hd : WD G) (he : CE I e) : ∀ (d n i : Nat) (v : Int64) (A : Nat → Nat → Int32), i + d = 4 → d < n → CR I J A G → TB A → ∃ A', f_X3_digest_33 n 1000 v (nI i) (cs I J A M) = some (.inr (dgA G e d i v * 31 + (bsv G).toInt64), cs I J A' M) ∧ CR I J A' G := by
  intro d
  induction d with
  | zero =>
    intro n i v A hi hn hc hT
    obtain ⟨n, rfl⟩ : ∃ m, n = m + 1 := ⟨n - 1, by omega⟩
    obtain ⟨A', e1, f⟩ := x_best (J := J) hA hT h hw hc
    rw [f_X3_digest_33, if_pos (le_t (x := 4) 4 i (by omega) (by omega)), if_pos (show mK (cs I J A M) 1000 = 9 from h.1), e1, Option.bind_some]
    exact ⟨A', rfl, f⟩
  | succ d ih =>
    intro n i v A hi hn hc hT
    obtain ⟨n, rfl⟩ : ∃ m, n = m + 1 := ⟨n - 1, by omega⟩
    have hp : i < 4 := by omega
    obtain ⟨A', e1, hc1, hT1⟩ := x_dp14 hA hg h hw hv hd he hp 10 zN 0 v A rfl (by decide) hc hT
    have e2 : f_X3_digestPlayer 1000 v (nI i) (cs I J A M) = some (.inr (dgP G e i v), cs I J A' M) := by
      unfold f_X3_digestPlayer f_X3_digestPlayer_0
      rw [gR_cs 288 h.1 h.2.1, Option.bind_some, h.seat hp, Option.bind_some]
      exact e1
    rw [f_X3_digest_33, if_neg (le_f (x := 4) 4 i (by omega) (by decide)), if_pos (show mK (cs I J A M) 1000 = 9 from h.1), nI_1, e2]
    exact ih n (i + 1) _ A' (by omega) (by omega) hc1 hT1
theorem x_dig6 (hA : ∀ A, AT A M) (hg : RG M) (h : CSH M) (hw : WF G) (hv : WV G) (hd : WD G) (hL : WL G) (he : CE I e) (hc : CR I J A G) (hT : TB A) : ∀ (d n i : Nat) (v : Int64), i + d = 10 → d < n → ∃ A', f_X3_digest_6 n 1000 v (nI i) (cs I J A M) = some (.inr (dgA G e 4 0 (fo (fun x => (mny G e x).toInt64) d i v) * 31 + (bsv G).toInt64), cs I J A' M) ∧ CR I J A' G := by
  intro d
  induction d with
  | zero =>
    intro n i v hi hn
    obtain ⟨n, rfl⟩ : ∃ m, n = m + 1 := ⟨n - 1, by omega⟩
    rw [f_X3_digest_6, if_pos (lt_t (x := 9) 9 i (by omega) (by omega))]
    exact x_dig33 hA hg h hw hv hd he 4 zN 0 v A rfl (by decide) hc hT
  | succ d ih =>
    intro n i v hi hn
    obtain ⟨n, rfl⟩ : ∃ m, n = m + 1 := ⟨n - 1, by omega⟩
    rw [f_X3_digest_6, if_neg (lt_f (x := 9) 9 i (by omega) (by decide)), if_pos (show mK (cs I J A M) 1000 = 9 from h.1), nI_1, x_many h hw hL hc he (show i < 10 by omega)]
    exact ih n (i + 1) _ (by omega) (by omega)
theorem x_digest (hA : ∀ A, AT A M) (hg : RG M) (h : CSH M) (hw : WF G) (hv : WV G) (hd : WD G) (hL : WL G) (he : CE I e) (hc : CR I J A G) (hT : TB A) : ∃ A', f_X3_digest 1000 (cs I J A M) = some (.inr (dgV G e), cs I J A' M) ∧ CR I J A' G := x_dig6 hA hg h hw hv hd hL he hc hT 10 zN 0 58317 rfl (by decide)
end XDIG
theorem mI_s2 (M : zM) (a : Nat) (v w : Int32) (o : Nat) {k : Nat} (h1 : k ≠ 128) (h2 : k ≠ 129) : mI (sI (sI M 128 a v) 129 a w) k o = mI M k o := by
  show (if k = 129 ∧ o = a then w else if k = 128 ∧ o = a then v else mI M k o) = mI M k o
  rw [if_neg (fun z => h2 z.1), if_neg (fun z => h1 z.1)]
section XDIGR
variable {M M0 M1 : zM} {G : zG} {hp dl : Nat → Nat} {l d : Nat} {e : zPt}
end XDIGR
section ASKD
variable {n cc : Nat} {xs : Nat → Int32} {M : zM} {G : zG} {hp dl : Nat → Nat}
end ASKD

