/-! ===== PURE, THE REFERENCE: far comes to an answer, 2 ===== -/
theorem r_isRun2 (i : Nat) (hi : i < 2 ^ 30) (M : zM) : f_X7_isRun (nI i) 2 M = some (b32 (decide (i < 18 ∧ i % 9 ≤ 7)), M) := by
  unfold f_X7_isRun f_X7_isRun_0
  rw [if_neg (nI_nn (by omega))]
  by_cases h : 18 ≤ i
  · rw [if_pos (le_t (x := 18) 18 i h (by omega)), decide_eq_false (by omega)]
    rfl
  · rw [if_neg (le_f (x := 18) 18 i (by omega) (by decide))]
    have e : zmd (nI i) 9 = nI (i % 9) := pk_rem (a := i) (d := 9) (by omega) (by decide) (by decide)
    have e2 : nI (i % 9) + 2 = nI (i % 9 + 2) := nI_add _ 2
    rw [e, e2]
    by_cases h2 : i % 9 ≤ 7
    · rw [if_neg (lt_f (x := 9) 9 (i % 9 + 2) (by omega) (by decide)), decide_eq_true ⟨by omega, h2⟩]
      rfl
    · rw [if_pos (lt_t (x := 9) 9 (i % 9 + 2) (by omega) (by omega)), decide_eq_false (by omega)]
      rfl
section RFAR2
variable {I : Nat → Nat → Int32} {J : Nat → Nat → Int64} {A : Nat → Nat → Int32} {M : zM} {h : Nat}
section STEPS
variable {T : Nat} {RC : Nat → Int32 → Int32 → Int32 → Int32 → zM → Option (Int32 × zM)} {a : Nat} {g : Nat → Nat}
theorem r_far_227 (hk : mK M h = 100) (hl : mL M h = 25) (IH : FSP I J A M h T RC) (ha : a < 25) (hg : ∀ k, k < 25 → g k < 1000) (hs : sn g 0 25 < T + 1) (hp : g a ≠ 0) : FAN I J A M h g (f_X7_far_227 RC) a := by
  have hn := r_far_251 hk hl IH ha hg hs hp
  intro s t p x w hw
  unfold f_X7_far_227
  split
  · obtain ⟨v, w1, q1, q2⟩ := r_with (c := 100) hk hl IH ha ha (i3 := -1) (Or.inr ⟨by decide, rfl⟩) s t 1 hw hg hs
    rw [q1, Option.bind_some]
    dsimp only
    rw [q_min, Option.bind_some]
    exact hn s t p _ w1 q2
  · exact hn s t p x w hw
theorem r_far_194 (hk : mK M h = 100) (hl : mL M h = 25) (IH : FSP I J A M h T RC) (ha : a < 25) (hg : ∀ k, k < 25 → g k < 1000) (hs : sn g 0 25 < T + 1) (hp : g a ≠ 0) : FAN I J A M h g (f_X7_far_194 RC) a := by
  have hn := r_far_227 hk hl IH ha hg hs hp
  intro s t p x w hw
  unfold f_X7_far_194
  rw [q_isRun3 a (by omega), Option.bind_some]
  dsimp only
  by_cases y : rw_ a = true
  · have ha18 := rw_lt y
    have e2 : nI a + 2 = nI (a + 2) := nI_add a 2
    obtain ⟨v, w1, q1, q2⟩ := r_with (b := a + 2) (c := 100) hk hl IH ha (by omega) (i3 := -1) (Or.inr ⟨by decide, rfl⟩) s (t + 1) p hw hg hs
    rw [y, if_neg (show ¬ b32 true = 0 by decide), e2, q1, Option.bind_some]
    dsimp only
    rw [q_min, Option.bind_some]
    exact hn s t p _ w1 q2
  · have y' : rw_ a = false := by cases hx : rw_ a; rfl; exact absurd hx y
    rw [y', if_pos (show b32 false = 0 from rfl)]
    exact hn s t p x w hw
theorem r_far_132 (hk : mK M h = 100) (hl : mL M h = 25) (IH : FSP I J A M h T RC) (ha : a < 25) (hg : ∀ k, k < 25 → g k < 1000) (hs : sn g 0 25 < T + 1) (hp : g a ≠ 0) : FAN I J A M h g (f_X7_far_132 RC) a := by
  have hn := r_far_194 hk hl IH ha hg hs hp
  have hn2 := r_far_227 hk hl IH ha hg hs hp
  intro s t p x w hw
  unfold f_X7_far_132
  split
  · exact hn2 s t p x w hw
  · obtain ⟨v, w1, q1, q2⟩ := r_with (c := 100) hk hl IH ha ha (i3 := -1) (Or.inr ⟨by decide, rfl⟩) s (t + 1) p hw hg hs
    rw [q1, Option.bind_some]
    dsimp only
    rw [q_min, Option.bind_some]
    dsimp only
    rw [r_isRun2 a (by omega), Option.bind_some]
    dsimp only
    by_cases y : a < 18 ∧ a % 9 ≤ 7
    · have e1 : nI a + 1 = nI (a + 1) := nI_add a 1
      obtain ⟨v2, w2, q3, q4⟩ := r_with (b := a + 1) (c := 100) hk hl IH ha (by omega) (i3 := -1) (Or.inr ⟨by decide, rfl⟩) s (t + 1) p q2 hg hs
      rw [decide_eq_true y, if_neg (show ¬ b32 true = 0 by decide), e1, q3, Option.bind_some]
      dsimp only
      rw [q_min, Option.bind_some]
      exact hn s t p _ w2 q4
    · rw [decide_eq_false y, if_pos (show b32 false = 0 from rfl)]
      exact hn s t p _ w1 q2
theorem r_far_59 (hk : mK M h = 100) (hl : mL M h = 25) (IH : FSP I J A M h T RC) (ha : a < 25) (hg : ∀ k, k < 25 → g k < 1000) (hs : sn g 0 25 < T + 1) (hp : g a ≠ 0) : FAN I J A M h g (f_X7_far_59 RC) a := by
  have hn := r_far_132 hk hl IH ha hg hs hp
  intro s t p x w hw
  unfold f_X7_far_59
  split
  · exact hn s t p x w hw
  · split
    · exact hn s t p x w hw
    · obtain ⟨v, w1, q1, q2⟩ := r_with (c := a) hk hl IH ha ha (i3 := nI a) (Or.inl ⟨ha, rfl⟩) (s + 1) t p hw hg hs
      rw [q1, Option.bind_some]
      dsimp only
      rw [q_min, Option.bind_some]
      dsimp only
      rw [q_isRun3 a (by omega), Option.bind_some]
      dsimp only
      by_cases y : rw_ a = true
      · have ha18 := rw_lt y
        have e1 : nI a + 1 = nI (a + 1) := nI_add a 1
        have e2 : nI a + 2 = nI (a + 2) := nI_add a 2
        obtain ⟨v2, w2, q3, q4⟩ := r_with (b := a + 1) (c := a + 2) hk hl IH ha (by omega) (i3 := nI (a + 2)) (Or.inl ⟨by omega, rfl⟩) (s + 1) t p q2 hg hs
        rw [y, if_neg (show ¬ b32 true = 0 by decide), e1, e2, q3, Option.bind_some]
        dsimp only
        rw [q_min, Option.bind_some]
        exact hn s t p _ w2 q4
      · have y' : rw_ a = false := by cases hx : rw_ a; rfl; exact absurd hx y
        rw [y', if_pos (show b32 false = 0 from rfl)]
        exact hn s t p _ w1 q2
end STEPS
theorem r_far_3 (hk : mK M h = 100) (hl : mL M h = 25) (RC : Nat → Int32 → Int32 → Int32 → Int32 → zM → Option (Int32 × zM)) (s t p : Int32) {g : Nat → Nat} {w : Nat → Int32} (hw : ∀ k, k < 25 → w k = nI (g k)) (hg : ∀ k, k < 25 → g k < 1000) : ∀ (d n i : Nat), i + d = 25 → d < n → ∃ a, a ≤ 25 ∧ (a < 25 → g a ≠ 0) ∧ f_X7_far_3 RC n h s t p (nI i) (cs I J (ur A h w) M) = f_X7_far_23 RC h s t p (nI a) (cs I J (ur A h w) M) := by
  intro d
  induction d with
  | zero =>
    intro n i hi hn
    obtain ⟨n, rfl⟩ : ∃ m, n = m + 1 := ⟨n - 1, by omega⟩
    exact ⟨i, by omega, fun q => by omega, by rw [f_X7_far_3, if_pos (le_t (x := 25) 25 i (by omega) (by omega))]⟩
  | succ d ih =>
    intro n i hi hn
    obtain ⟨n, rfl⟩ : ∃ m, n = m + 1 := ⟨n - 1, by omega⟩
    have hgi := hg i (by omega)
    rw [f_X7_far_3, if_neg (le_f (x := 25) 25 i (by omega) (by decide)), lA_cs hk (by omega) (by omega), Option.bind_some, ur_at, hw i (by omega)]
    by_cases z : g i = 0
    · rw [z, if_pos (show nI 0 = 0 from rfl), nI_1]
      exact ih n (i + 1) (by omega) (by omega)
    · exact ⟨i, by omega, fun _ => z, by rw [if_neg (eq_f (y := 0) (g i) 0 z (by omega) (by decide))]⟩
theorem r_farN (hk : mK M h = 100) (hl : mL M h = 25) : ∀ (T n : Nat), T ≤ n → FSP I J A M h T (f_X7_far n) := by
  intro T
  induction T with
  | zero => exact fun n hn g w hw hg hs => absurd hs (Nat.not_lt_zero _)
  | succ T ih =>
    intro n hn g w hw hg hs i hi s t p
    obtain ⟨n, rfl⟩ : ∃ m, n = m + 1 := ⟨n - 1, by omega⟩
    have IH := ih n (by omega)
    rw [f_X7_far]
    unfold f_X7_far_0
    by_cases i25 : i ≤ 25
    · obtain ⟨a, a1, a2, a3⟩ := r_far_3 (I := I) (J := J) (A := A) (M := M) hk hl (f_X7_far n) s t p hw hg (25 - i) zN i (by omega) (by show 25 - i < 130; omega)
      rw [a3]
      unfold f_X7_far_23
      by_cases a25 : a = 25
      · rw [if_pos (show nI a = 25 by rw [a25]; rfl)]
        exact ⟨_, w, rfl, fun _ _ => rfl⟩
      · have ha : a < 25 := by omega
        have h59 := r_far_59 hk hl IH ha hg hs (a2 ha)
        have fin : ∀ x, ∃ v w', f_X7_far_59 (f_X7_far n) h s t p (nI a) x (cs I J (ur A h w) M) = some (v, cs I J (ur A h w') M) ∧ ∀ k, k < 25 → w' k = w k := fun x => by
          obtain ⟨v, w', q1, q2⟩ := h59 s t p x w hw
          exact ⟨v, w', q1, fun k hk9 => (q2 k hk9).trans (hw k hk9).symm⟩
        rw [if_neg (eq_f (y := 25) a 25 a25 (by omega) (by decide))]
        split
        · split
          · exact ⟨_, w, rfl, fun _ _ => rfl⟩
          · exact fin _
        · exact fin _
    · omega
/-- far of a player comes to an answer -/
theorem r_X6_far {P l N : Nat} (hp : PS M P h l) (hN : I 162 l = nI N) {g : Nat → Nat} {w : Nat → Int32} (hw : ∀ k, k < 25 → w k = nI (g k)) (hg : ∀ k, k < 25 → g k < 1000) (hs : sn g 0 25 < 64) : ∃ v w', f_X6_far P (cs I J (ur A h w) M) = some (v, cs I J (ur A h w') M) ∧ ∀ k, k < 25 → w' k = w k := by
  obtain ⟨⟨p1, p2, p3⟩, ⟨h1, h2⟩, l1⟩ := hp
  obtain ⟨v, w', q1, q2⟩ := r_farN (I := I) (J := J) (A := A) (M := M) h1 h2 64 zR (Nat.le_refl _) g w hw hg hs 0 (by decide) (nI N) 0 0
  have q1' : f_X7_far zR h 0 (nI N) 0 0 (cs I J (ur A h w) M) = some (v, cs I J (ur A h w') M) := q1
  refine ⟨v, w', ?_, q2⟩
  unfold f_X6_far f_X6_far_0
  rw [gR_cs 386 p1 p2, Option.bind_some, gR_cs 387 p1 p3, Option.bind_some, if_pos (show mK (cs I J _ M) l = 5 from l1), r_size l1 hN, Option.bind_some]
  dsimp only
  rw [q1', Option.bind_some]
theorem r_X6_farWith {P l N c : Nat} (hp : PS M P h l) (hN : I 162 l = nI N) {g g' : Nat → Nat} {w : Nat → Int32} (hw : ∀ k, k < 25 → w k = nI (g k)) (x : Int32) (hc : c < 25) (hx : w c + x = nI (g' c)) (hgg : ∀ k, k ≠ c → g' k = g k) (hg : ∀ k, k < 25 → g' k < 1000) (hs : sn g' 0 25 < 64) : ∃ v w', f_X6_farWith P (nI c) x (cs I J (ur A h w) M) = some (v, cs I J (ur A h w') M) ∧ ∀ k, k < 25 → w' k = w k := by
  have hp' := hp
  obtain ⟨⟨p1, p2, p3⟩, ⟨h1, h2⟩, l1⟩ := hp
  obtain ⟨v, w1, q1, q2⟩ := r_X6_far (I := I) (J := J) (A := A) hp' hN (g := g') (w := u1 w c (w c + x)) (fun k hk9 => by
    by_cases y : k = c
    · rw [y, u1_at, hx]
    · rw [u1_ne _ _ y, hgg k y, hw k hk9]) hg hs
  refine ⟨v, u1 w1 c (w1 c - x), ?_, fun k hk9 => ?_⟩
  · unfold f_X6_farWith f_X6_farWith_0
    rw [gR_cs 386 p1 p2, Option.bind_some, lA_cs h1 (by omega) (by omega), Option.bind_some, ur_at, tA_cs h1 (by omega) (by omega), Option.bind_some, u2_ur, if_pos (show mK (cs I J _ M) P = 12 from p1), q1, Option.bind_some]
    dsimp only
    rw [gR_cs 386 p1 p2, Option.bind_some, lA_cs h1 (by omega) (by omega), Option.bind_some, ur_at, tA_cs h1 (by omega) (by omega), Option.bind_some, u2_ur]
  · by_cases y : k = c
    · rw [y, u1_at, q2 c hc, u1_at, Int32.add_sub_cancel]
    · rw [u1_ne _ _ y, q2 k hk9, u1_ne _ _ y]
end RFAR2
