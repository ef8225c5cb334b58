/-! ===== BOTH: best, with the answer ===== -/
/-- the better kind, from the kinds so far -/
def bst (g : Nat → Nat) (F : Nat → Int32) : Nat → Nat → Int32 → Int32 → Int32
  | 0, _, b, _ => b
  | d + 1, i, b, v => if g i ≠ 0 ∧ (b = -1 ∨ F i < v ∨ (F i = v ∧ g i < g b.toNatClampNeg)) then bst g F d (i + 1) (nI i) (F i) else bst g F d (i + 1) b v
/-- how far a hand is, with another count of one kind -/
noncomputable def frw (G : zG) (p k y : Nat) : Int32 := frv (eN G p) (u1 (eH G p) k y)
noncomputable def bsv (G : zG) : Int32 := if eS G 4 = 1 then bst (eH G (eS G 5)) (fun i => frw G (eS G 5) i (eH G (eS G 5) i - 1)) 25 0 (-1) 0 else -1
theorem i32_tri {a b : Int32} (h1 : ¬ b < a) (h2 : ¬ a = b) : a < b := by
  rw [Int32.lt_iff_toInt_lt] at *
  have : a.toInt ≠ b.toInt := fun z => h2 (Int32.toInt_inj.mp z)
  omega
theorem i32_as {a b : Int32} (h : b < a) : ¬ a < b ∧ ¬ a = b := by
  rw [Int32.lt_iff_toInt_lt] at *
  refine ⟨by omega, fun z => ?_⟩
  rw [z] at h
  omega
theorem i32_ne {c : Nat} (h : c < 25) : ¬ nI c = -1 := by
  have key : ∀ c, c < 25 → ¬ nI c = -1 := by decide
  exact key c h
theorem frw_g {G : zG} (hw : WF G) {p : Nat} (hp : p < 4) {k y : Nat} (hk : k < 25) (hy : y ≤ eH G p k + 1) (j : Nat) (hj : j < 25) : u1 (eH G p) k y j ≤ 5 := by
  have v1 := (hw.2.2.2.2.2.2.2.2.2.2 _ hp).1
  by_cases z : j = k
  · rw [z, u1_at]
    have := v1 k hk
    omega
  · rw [u1_ne _ _ z]
    have := v1 j hj
    omega
section XBEST
variable {I : Nat → Nat → Int32} {J : Nat → Nat → Int64} {A : Nat → Nat → Int32} {M : zM} {G : zG} {hp dl : Nat → Nat}
theorem x_farWithC (hA : AT A M) (hT : TB A) (h : CSH M) (hw : WF G) (hc : CR I J A G) {p k : Nat} (hp : p < 4) (hk : k < 25) {x : Int32} {y : Nat} (hx : nI (eH G p k) + x = nI y) (hy : y ≤ eH G p k + 1) : ∃ A', f_X3_farWith 1000 (1010 + 4 * p) (nI k) x (cs I J A M) = some (frw G p k y, cs I J A' M) ∧ CR I J A' G ∧ TB A' := by
  have hsp := h.2.2.2.2.2.2.2.1 _ hp
  obtain ⟨d1, d2, d3, d4, d5, d6, d7⟩ := hc.2 _ hp
  have v2 := (hw.2.2.2.2.2.2.2.2.2.2 _ hp).2.1
  have c1 : A (1011 + 4 * p) k + x = nI y := by rw [d1 k hk]; exact hx
  have hT1 : TB (u2 A (1011 + 4 * p) k (nI y)) := hT.eq fun b hb => u2_rw _ _ _ (by omega)
  obtain ⟨v, A2, e2, f2, m2⟩ := x_far (I := I) (J := J) hA h.2.2.2.2.2.1 (t := 1011 + 4 * p) (N := eN G p) hsp.2.2.2.2.1 (by omega) v2 (g := u1 (eH G p) k y) (fun j hj => by have := frw_g hw hp hk hy j hj; omega) hT1 (fun j hj => by
    by_cases z : j = k
    · rw [z, u2_rs, u1_at]
    · rw [u2_ro _ _ z, u1_ne _ _ z, d1 j hj])
  have ev : nI (2 * (3 - eN G p)) - nI v = frw G p k y := by
    unfold frw frv
    rw [fvl_eq m2, far_eq v2]
  rw [ev] at e2
  unfold f_X3_farWith f_X3_farWith_0
  rw [if_pos (show mK (cs I J A M) (1010 + 4 * p) = 7 from hsp.1), q_change hsp hk x, Option.bind_some, c1, gR_cs 289 h.1 h.2.2.1, Option.bind_some, gR_cs 224 hsp.1 hsp.2.1, Option.bind_some, gI_cs 228 hsp.1, Option.bind_some, if_pos (show mK (cs I J _ M) 1002 = 6 from h.2.2.2.2.2.1.1), d2, e2, Option.bind_some, if_pos (show mK (cs I J A2 M) (1010 + 4 * p) = 7 from hsp.1), q_change hsp hk (-x), Option.bind_some]
  have nb : ∀ b, ¬ OWN b → u2 A2 (1011 + 4 * p) k (A2 (1011 + 4 * p) k + -x) b = A b := fun b hb => by
    have e3 : A2 b = u2 A (1011 + 4 * p) k (nI y) b := own_frm f2 b hb
    funext j
    show (if b = 1011 + 4 * p ∧ j = k then A2 (1011 + 4 * p) k + -x else A2 b j) = A b j
    by_cases u : b = 1011 + 4 * p ∧ j = k
    · rw [if_pos u]
      obtain ⟨rfl, rfl⟩ := u
      rw [e3, u2_rs, ← c1]
      grind
    · rw [if_neg u, e3]
      exact if_neg u
  refine ⟨_, rfl, hc.own nb, hT.eq fun b hb => nb b (fun z => by unfold OWN at z; omega)⟩
theorem x_best_22 (hA : ∀ A, AT A M) (h : CSH M) (hw : WF G) {p : Nat} (hp : p < 4) : ∀ (d n i : Nat) (b v : Int32) (A : Nat → Nat → Int32), i + d = 25 → d < n → (b = -1 ∨ ∃ c, c < 25 ∧ b = nI c) → CR I J A G → TB A → ∃ A', f_X3_best_22 n 1000 (1010 + 4 * p) b v (nI i) (cs I J A M) = some (bst (eH G p) (fun i => frw G p i (eH G p i - 1)) d i b v, cs I J A' M) ∧ CR I J A' G := by
  have hsp := h.2.2.2.2.2.2.2.1 _ hp
  have v1 := (hw.2.2.2.2.2.2.2.2.2.2 _ hp).1
  intro d
  induction d with
  | zero =>
    intro n i b v A hi hn hb hc hT
    obtain ⟨n, rfl⟩ : ∃ m, n = m + 1 := ⟨n - 1, by omega⟩
    rw [f_X3_best_22, if_pos (le_t (x := 25) 25 i (by omega) (by omega))]
    exact ⟨A, rfl, hc⟩
  | succ d ih =>
    intro n i b v A hi hn hb hc hT
    obtain ⟨n, rfl⟩ : ∃ m, n = m + 1 := ⟨n - 1, by omega⟩
    have hk : i < 25 := by omega
    have vi := v1 i hk
    obtain ⟨d1, d2, d3, d4, d5, d6, d7⟩ := hc.2 _ hp
    rw [f_X3_best_22, if_neg (le_f (x := 25) 25 i (by omega) (by decide)), if_pos (show mK (cs I J A M) (1010 + 4 * p) = 7 from hsp.1), q_count hsp hk, Option.bind_some, nI_1 i, d1 i hk, bst]
    dsimp only
    by_cases g0 : eH G p i = 0
    · rw [if_pos (show nI (eH G p i) ≤ 0 by rw [g0]; decide), if_neg (fun z => z.1 g0)]
      exact ih n (i + 1) b v A (by omega) (by omega) hb hc hT
    · have hx : nI (eH G p i) + -1 = nI (eH G p i - 1) := by
        obtain ⟨j, hj⟩ : ∃ j, eH G p i = j + 1 := ⟨eH G p i - 1, by omega⟩
        rw [hj, pk_m1]
        rfl
      obtain ⟨A1, e1, hc1, hT1⟩ := x_farWithC (hA A) hT h hw hc hp hk hx (by omega)
      obtain ⟨d1', -⟩ := hc1.2 _ hp
      have go := ih n (i + 1) b v A1 (by omega) (by omega) hb hc1 hT1
      have i96 : ∃ A', f_X3_best_96 (f_X3_best_22 n) 1000 (1010 + 4 * p) (nI i) (frw G p i (eH G p i - 1)) (cs I J A1 M) = some (bst (eH G p) (fun i => frw G p i (eH G p i - 1)) d (i + 1) (nI i) (frw G p i (eH G p i - 1)), cs I J A' M) ∧ CR I J A' G := by
        unfold f_X3_best_96
        rw [nI_1]
        exact ih n (i + 1) _ _ A1 (by omega) (by omega) (Or.inr ⟨i, hk, rfl⟩) hc1 hT1
      rw [if_neg (le_f (y := 0) (eH G p i) 0 (by omega) (by omega)), if_pos (show mK (cs I J A M) 1000 = 9 from h.1), e1, Option.bind_some]
      dsimp only
      by_cases z1 : b = -1
      · rw [if_pos z1, if_pos ⟨g0, Or.inl z1⟩]
        unfold f_X3_best_71 f_X3_best_72
        rw [if_pos z1]
        exact i96
      · obtain ⟨c, hc25, rfl⟩ := hb.resolve_left z1
        have ec : (nI c).toNatClampNeg = c := nI_cl (by omega)
        have vc := v1 c hc25
        rw [if_neg z1, if_pos (show mK (cs I J A1 M) (1010 + 4 * p) = 7 from hsp.1), q_count hsp hk, Option.bind_some, if_pos (show mK (cs I J A1 M) (1010 + 4 * p) = 7 from hsp.1), q_count hsp hc25, Option.bind_some, d1' i hk, d1' c hc25, ec]
        dsimp only
        unfold f_X3_best_71 f_X3_best_72
        rw [if_neg z1, if_neg z1, nI_1]
        by_cases z2 : frw G p i (eH G p i - 1) < v
        · rw [if_pos z2, if_pos z2, if_pos (show eH G p i ≠ 0 ∧ (nI c = -1 ∨ frw G p i (eH G p i - 1) < v ∨ (frw G p i (eH G p i - 1) = v ∧ eH G p i < eH G p c)) from ⟨g0, Or.inr (Or.inl z2)⟩)]
          split <;> exact i96
        · rw [if_neg z2, if_neg z2]
          by_cases z3 : frw G p i (eH G p i - 1) = v
          · rw [if_pos z3, if_pos z3, if_pos rfl, if_neg (show ¬ (1 : Int32) = 0 by decide)]
            by_cases z4 : eH G p i < eH G p c
            · rw [if_neg (le_f (eH G p c) (eH G p i) (by omega) (by omega)), if_pos ⟨g0, Or.inr (Or.inr ⟨z3, z4⟩)⟩]
              exact i96
            · rw [if_pos (le_t (eH G p c) (eH G p i) (by omega) (by omega)), if_neg (fun z => z.2.elim z1 (fun z => z.elim z2 (fun z => z4 z.2)))]
              exact go
          · rw [if_neg z3, if_neg z3, if_neg (show ¬ (eH G p i ≠ 0 ∧ (nI c = -1 ∨ frw G p i (eH G p i - 1) < v ∨ (frw G p i (eH G p i - 1) = v ∧ eH G p i < eH G p c))) from fun z => z.2.elim z1 (fun z => z.elim z2 (fun z => z3 z.1)))]
            split <;> exact go
theorem x_best (hA : ∀ A, AT A M) (hT : TB A) (h : CSH M) (hw : WF G) (hc : CR I J A G) : ∃ A', f_X3_best 1000 (cs I J A M) = some (bsv G, cs I J A' M) ∧ CR I J A' G := by
  have ht := hw.2.2.2.2.2.1
  have w4 := hw.2.2.2.2.1
  unfold f_X3_best f_X3_best_0 bsv
  rw [gI_cs 295 h.1, Option.bind_some, hc.1.2.2.2.2.1]
  by_cases y : eS G 4 = 1
  · rw [if_pos (show nI (eS G 4) = 1 by rw [y]; rfl), if_pos y, if_pos (show mK (cs I J A M) 1000 = 9 from h.1), q_seatInTurn h ht hc.1.2.2.2.2.2.1, Option.bind_some]
    exact x_best_22 hA h hw ht 25 zN 0 (-1) 0 A rfl (by decide) (Or.inl rfl) hc hT
  · rw [if_neg (eq_f (y := 1) (eS G 4) 1 y (by omega) (by decide)), if_neg y]
    exact ⟨A, rfl, hc⟩
end XBEST
section XBESTR
variable {M M0 : zM} {G : zG} {hp dl : Nat → Nat}
theorem x_farWithR (h : RS M hp dl) (hn : RN (mI M) (mJ M) (mA M) M G hp dl) (hq : WQ G) {p k : Nat} (hp4 : p < 4) (hk : k < 25) {x : Int32} {y : Nat} (hx : nI (eH G p k) + x = nI y) (hy : y ≤ eH G p k + 1) : ∃ A', f_X6_farWith (1028 + 4 * p) (nI k) x M = some (frw G p k y, cs (mI M) (mJ M) A' M) ∧ RB 0 0 M (cs (mI M) (mJ M) A' M) G hp dl := by
  obtain ⟨n1, n2, -⟩ := hn.2.1 p hp4
  have hN3 := (hq.1.2.2.2.2.2.2.2.2.2.2 p hp4).2.1
  have hz := hq.2.2.2.2 p hp4
  have hsn := sn_u1 (eH G p) k y 25 0 (Nat.zero_le _) (by omega)
  obtain ⟨v, w', e, f, m⟩ := x_X6_farWith (I := mI M) (J := mJ M) (A := mA M) (w := mA M (hp p)) (h.ps hp4) n2.1 hN3 (g := eH G p) (g' := u1 (eH G p) k y) n1 x hk (by rw [n1 k hk, u1_at]; exact hx) (fun j hj => u1_ne _ _ hj) (fun j hj => by have := frw_g hq.1 hp4 hk hy j hj; omega) (by omega)
  rw [ur_self] at e
  refine ⟨ur (mA M) (hp p) w', ?_, h, hn.row h hp4 f, Nat.le_refl _, Nat.le_refl _⟩
  unfold frw frv
  rw [fvl_eq m]
  exact e
theorem x_best_25 (hq : WQ G) (ht : eS G 5 < 4) : ∀ (d n i : Nat) (b v : Int32) (M : zM), i + d = 25 → d < n → RB 0 0 M0 M G hp dl → (b = -1 ∨ ∃ c, c < 25 ∧ b = nI c) → ∃ M', f_X7_bestNow_25 n 1026 b v (hp (eS G 5)) (nI i) M = some (bst (eH G (eS G 5)) (fun i => frw G (eS G 5) i (eH G (eS G 5) i - 1)) d i b v, M') ∧ RB 0 0 M0 M' G hp dl := by
  have v1 := (hq.1.2.2.2.2.2.2.2.2.2.2 _ ht).1
  intro d
  induction d with
  | zero =>
    intro n i b v M hi hn hb hbb
    obtain ⟨n, rfl⟩ : ∃ m, n = m + 1 := ⟨n - 1, by omega⟩
    rw [f_X7_bestNow_25, if_pos (le_t (x := 25) 25 i (by omega) (by omega))]
    exact ⟨M, rfl, hb⟩
  | succ d ih =>
    intro n i b v M hi hn hb hbb
    obtain ⟨n, rfl⟩ : ∃ m, n = m + 1 := ⟨n - 1, by omega⟩
    obtain ⟨h, hN, hX⟩ := hb
    have hb' : RB 0 0 M0 M G hp dl := ⟨h, hN, hX⟩
    have hi25 : i < 25 := by omega
    have hh := h.2.2.1 _ ht
    have vi := v1 i hi25
    rw [f_X7_bestNow_25, if_neg (le_f (x := 25) 25 i (by omega) (by decide)), e_lA hh.1 (by rw [hh.2.1]; exact hi25) (by rw [hh.2.1]; decide), Option.bind_some, (hN.2.1 _ ht).1 i hi25, nI_1 i, bst]
    by_cases y : eH G (eS G 5) i = 0
    · rw [if_pos (show nI (eH G (eS G 5) i) = 0 by rw [y]; rfl), if_neg (fun z => z.1 y)]
      exact ih n (i + 1) b v M (by omega) (by omega) hb' hbb
    · have eits : f_X7_its 1026 M = some (1028 + 4 * eS G 5, M) := r_its (I := mI M) (J := mJ M) (A := mA M) h ht hN.1.2.1
      have hx : nI (eH G (eS G 5) i) + -1 = nI (eH G (eS G 5) i - 1) := by
        obtain ⟨j, hj⟩ : ∃ j, eH G (eS G 5) i = j + 1 := ⟨eH G (eS G 5) i - 1, by omega⟩
        rw [hj, pk_m1]
        rfl
      obtain ⟨A1, e1, b1⟩ := x_farWithR h hN hq ht hi25 hx (by omega)
      generalize cs (mI M) (mJ M) A1 M = M1 at *
      have b2 : RB 0 0 M0 M1 G hp dl := hb'.tr b1
      have hh1 := b1.1.2.2.1 _ ht
      have n1 := (b1.2.1.2.1 _ ht).1
      have k84 : ∃ M', f_X7_bestNow_84 (f_X7_bestNow_25 n) 1026 (hp (eS G 5)) (nI i) (frw G (eS G 5) i (eH G (eS G 5) i - 1)) M1 = some (bst (eH G (eS G 5)) (fun i => frw G (eS G 5) i (eH G (eS G 5) i - 1)) d (i + 1) (nI i) (frw G (eS G 5) i (eH G (eS G 5) i - 1)), M') ∧ RB 0 0 M0 M' G hp dl := by
        unfold f_X7_bestNow_84
        rw [nI_1]
        exact ih n (i + 1) (nI i) _ M1 (by omega) (by omega) b2 (Or.inr ⟨i, hi25, rfl⟩)
      rw [if_neg (eq_f (y := 0) _ 0 y (by omega) (by decide)), if_pos h.1.1, eits, Option.bind_some]
      dsimp only
      rw [if_pos (h.2.1 _ ht).1, e1, Option.bind_some]
      dsimp only
      by_cases z1 : b = -1
      · rw [if_pos z1, if_pos ⟨y, Or.inl z1⟩]
        exact k84
      · obtain ⟨c, hc, rfl⟩ := hbb.resolve_left z1
        have ec : (nI c).toNatClampNeg = c := nI_cl (by omega)
        have vc := v1 c hc
        have go := ih n (i + 1) (nI c) v M1 (by omega) (by omega) b2 (Or.inr ⟨c, hc, rfl⟩)
        rw [if_neg z1, ec]
        by_cases z2 : v < frw G (eS G 5) i (eH G (eS G 5) i - 1)
        · have z3 := i32_as z2
          rw [if_pos z2, if_neg (fun z => z.2.elim z1 (fun z => z.elim z3.1 (fun z => z3.2 z.1)))]
          exact go
        · rw [if_neg z2]
          by_cases z3 : frw G (eS G 5) i (eH G (eS G 5) i - 1) = v
          · have z5 : ¬ frw G (eS G 5) i (eH G (eS G 5) i - 1) < v := fun z => (i32_as z).2 z3.symm
            rw [if_pos z3, e_lA hh1.1 (by rw [hh1.2.1]; exact hi25) (by rw [hh1.2.1]; decide), Option.bind_some, e_lA hh1.1 (by rw [hh1.2.1]; exact hc) (by rw [hh1.2.1]; decide), Option.bind_some, n1 i hi25, n1 c hc]
            by_cases z4 : eH G (eS G 5) i < eH G (eS G 5) c
            · rw [if_pos (lt_t (eH G (eS G 5) i) (eH G (eS G 5) c) z4 (by omega)), if_pos ⟨y, Or.inr (Or.inr ⟨z3, z4⟩)⟩]
              exact k84
            · rw [if_neg (lt_f (eH G (eS G 5) i) (eH G (eS G 5) c) (by omega) (by omega)), if_neg (fun z => z.2.elim z1 (fun z => z.elim z5 (fun z => z4 z.2)))]
              exact go
          · rw [if_neg z3, if_pos ⟨y, Or.inr (Or.inl (i32_tri z2 z3))⟩]
            exact k84
theorem x_bestNow (h1 : RS M hp dl) (hn1 : RN (mI M) (mJ M) (mA M) M G hp dl) (hq : WQ G) : ∃ M', f_X7_bestNow 1026 M = some (bsv G, M') ∧ RB 0 0 M M' G hp dl := by
  have w4 := hq.1.2.2.2.2.1
  have ht : eS G 5 < 4 := hq.1.2.2.2.2.2.1
  have eits : f_X7_its 1026 M = some (1028 + 4 * eS G 5, M) := r_its (I := mI M) (J := mJ M) (A := mA M) h1 ht hn1.1.2.1
  unfold f_X7_bestNow f_X7_bestNow_0 bsv
  rw [e_gI 422 h1.1.1, Option.bind_some, hn1.1.1]
  by_cases y : eS G 4 = 1
  · rw [if_pos (show nI (eS G 4) = 1 by rw [y]; rfl), if_pos y, if_pos h1.1.1, eits, Option.bind_some]
    dsimp only
    rw [e_gR 386 (h1.2.1 _ ht).1 (h1.2.1 _ ht).2.1, Option.bind_some]
    exact x_best_25 hq ht 25 zN 0 (-1) 0 M rfl (by decide) (RB.rf h1 hn1) (Or.inl rfl)
  · rw [if_neg (eq_f (y := 1) (eS G 4) 1 y (by omega) (by decide)), if_neg y]
    exact ⟨M, rfl, RB.rf h1 hn1⟩
theorem x_bestR (h : RS M hp dl) (hn : RN (mI M) (mJ M) (mA M) M G hp dl) (hq : WQ G) : ∃ M', f_X7_best 1026 M = some (bsv G, M') ∧ RB 0 0 M M' G hp dl := by
  have hb := RB.th h hn 0
  obtain ⟨M1, e1, b1⟩ := x_bestNow (M := cs (th 0 (mI M)) (mJ M) (mA M) M) hb.1 hb.2.1 hq
  unfold f_X7_best f_X7_best_0
  rw [e_pI 416 h.1.1, Option.bind_some, if_pos (show mK (sI M 416 1026 0) 1026 = 13 from h.1.1), show f_X7_bestNow 1026 (sI M 416 1026 0) = _ from e1, Option.bind_some]
  exact ⟨_, rfl, hb.tr b1⟩
end XBESTR
section ASKB
variable {n : Nat} {xs : Nat → Int32} {M : zM} {G : zG} {hp dl : Nat → Nat}
/-- asked without a try: the same answer -/
def SEQ {β : Type} (n : Nat) (xs : Nat → Int32) (cc : Nat) (M : zM) (G : zG) (x : Option (β × zM)) (y : zM → Option (β × zM)) : Prop := ∃ v M1 M2, x = some (v, M1) ∧ ROW n xs M1 ∧ y M1 = some (v, M2) ∧ (∃ hp2 dl2, CK n xs M2 G G hp2 dl2) ∧ (WX G ∧ W9 G ∧ EK (cc + 1) M2) ∧ (mX M2 ≤ mX M + 404 ∧ mS M2 ≤ mS M + 1640)
theorem tj_best (h : CK n xs M G G hp dl) (hx : WX G) (h9 : W9 G) {cc : Nat} (ke : EK cc M) (hr : eS G 7 < 2 ^ 20) : SEQ n xs cc M G (f_X3_best 1000 M) (fun M1 => f_X7_best 1026 M1) := by
  have hw := hx.f hr
  have hA : ∀ A, AT A M := fun _ => h.1.1.2.2.2.2.2.2.2.2
  obtain ⟨A', e, hc⟩ := x_best (I := mI M) (J := mJ M) hA ke.1 h.1.1 hw h.1.2
  have e' : f_X3_best 1000 M = some (bsv G, cs (mI M) (mJ M) A' M) := e
  have fc : FC M (cs (mI M) (mJ M) A' M) := (kc_X3_best h.2.2.1.1 own1000 (FC.rf M)) _ e'
  have ck : CK n xs (cs (mI M) (mJ M) A' M) G G hp dl := h.c0 rfl rfl rfl rfl fc h.1.1 hc
  have k1 : EK cc (cs (mI M) (mJ M) A' M) := ke.fr h.x46 (kq_X3_best (FQ.rf M) _ e') (FC.ft h fc)
  have eX : mX (cs (mI M) (mJ M) A' M) = mX M := rfl
  have eS' : mS (cs (mI M) (mJ M) A' M) = mS M := rfl
  generalize cs (mI M) (mJ M) A' M = M1 at *
  obtain ⟨M2, r1, r2⟩ := x_bestR ck.2.1.1 ck.2.1.2 (hx.q hr)
  have fn := kn_X7_best ck.2.2.1.2.1 ck.fn _ r1
  have r3 := r2.2.2
  exact ⟨_, M1, M2, e', ck.row, r1, ⟨hp, dl, ck.ref hw fn r2.1 r2.2.1⟩, ⟨hx, h9, (k1.fr ck.x46 (kq_X7_best (FQ.rf M1) _ r1) (FN.ft ck fn)).w⟩, by omega⟩
end ASKB
