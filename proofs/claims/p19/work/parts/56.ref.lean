/-! ===== PURE, THE REFERENCE: the value comes to an answer ===== -/
section RVAL
variable {I : Nat → Nat → Int32} {J : Nat → Nat → Int64} {A : Nat → Nat → Int32} {M : zM} {h : Nat}
theorem j_floorMod (x : Int32) (M : zM) : ∃ v, f_J9_floorMod_7cf53 x 4 M = some (v, M) := by
  unfold f_J9_floorMod_7cf53 f_J9_floorMod_7cf53_0
  rw [if_neg (show ¬ (4 : Int32) = 0 by decide)]
  split
  · exact ⟨_, rfl⟩
  · split
    · exact ⟨_, rfl⟩
    · exact ⟨_, rfl⟩
theorem r_wind (k : mK M 1026 = 13) (x : Int32) : ∃ v, f_X7_wind 1026 x M = some (v, M) := by
  unfold f_X7_wind f_X7_wind_0
  obtain ⟨v, e⟩ := j_floorMod (x - mI M 424 1026) M
  rw [e_gI 424 k, Option.bind_some, e, Option.bind_some]
  exact ⟨v, rfl⟩
theorem r_valueOfThree (k : mK M 1026 = 13) (x y : Int32) : ∃ v, f_X7_valueOfThree 1026 x y M = some (v, M) := by
  unfold f_X7_valueOfThree f_X7_valueOfThree_0
  obtain ⟨v, e⟩ := r_wind k y
  split
  · exact ⟨1, rfl⟩
  · rw [e, Option.bind_some]
    split
    · exact ⟨1, rfl⟩
    · exact ⟨0, rfl⟩
/-- a recursive call on fewer tiles comes to an answer, and leaves the hand -/
def VSP (I : Nat → Nat → Int32) (J : Nat → Nat → Int64) (A : Nat → Nat → Int32) (M : zM) (h T : Nat) (RC : Nat → Nat → Int32 → Int32 → Int32 → Int32 → zM → Option (Int32 × zM)) : Prop :=
  ∀ (g : Nat → Nat) (w : Nat → Int32), (∀ k, k < 25 → w k = nI (g k)) → (∀ k, k < 25 → g k < 1000) → sn g 0 25 < T → ∀ i2 i3 i4 i5, ∃ v w', RC 1026 h i2 i3 i4 i5 (cs I J (ur A h w) M) = some (v, cs I J (ur A h w') M) ∧ ∀ k, k < 25 → w' k = w k
/-- three from a on, up or down, in a row -/
def b3 (w : Nat → Int32) (a : Nat) (x : Int32) : Nat → Int32 := u1 (u1 (u1 w a (w a + x)) (a + 1) (w (a + 1) + x)) (a + 2) (w (a + 2) + x)
theorem b3_at (w : Nat → Int32) (a : Nat) (x : Int32) (k : Nat) : b3 w a x k = if a ≤ k ∧ k ≤ a + 2 then w k + x else w k := by
  unfold b3
  by_cases y2 : k = a + 2
  · subst y2
    rw [u1_at, if_pos (by omega)]
  · rw [u1_ne _ _ y2]
    by_cases y1 : k = a + 1
    · subst y1
      rw [u1_at, if_pos (by omega)]
    · rw [u1_ne _ _ y1]
      by_cases y0 : k = a
      · subst y0
        rw [u1_at, if_pos (by omega)]
      · rw [u1_ne _ _ y0, if_neg (by omega)]
theorem r_vs_185 (hk : mK M h = 100) (hl : mL M h = 25) (RC : Nat → Nat → Int32 → Int32 → Int32 → Int32 → zM → Option (Int32 × zM)) {a : Nat} (ha : a + 2 < 25) (v : Int32) (w : Nat → Int32) : f_X7_valueOfSets_185 RC zN h (nI a) v 0 (cs I J (ur A h w) M) = some (v, cs I J (ur A h (b3 w a 1)) M) := by
  have e0 : nI a + 0 = nI (a + 0) := nI_add a 0
  have e1 : nI a + 1 = nI (a + 1) := nI_add a 1
  have e2 : nI a + 2 = nI (a + 2) := nI_add a 2
  have f1 : (0 : Int32) + 1 = 1 := rfl
  have f2 : (1 : Int32) + 1 = 2 := rfl
  have f3 : (2 : Int32) + 1 = 3 := rfl
  rw [show zN = 126 + 1 + 1 + 1 + 1 from rfl]
  rw [f_X7_valueOfSets_185, if_neg (by decide), e0, Nat.add_zero, lA_cs hk (by omega) (by omega), Option.bind_some, ur_at, tA_cs hk (by omega) (by omega), Option.bind_some, u2_ur, f1]
  rw [f_X7_valueOfSets_185, if_neg (by decide), e1, lA_cs hk (by omega) (by omega), Option.bind_some, ur_at, tA_cs hk (by omega) (by omega), Option.bind_some, u2_ur, f2]
  rw [f_X7_valueOfSets_185, if_neg (by decide), e2, lA_cs hk (by omega) (by omega), Option.bind_some, ur_at, tA_cs hk (by omega) (by omega), Option.bind_some, u2_ur, f3]
  rw [f_X7_valueOfSets_185, if_pos (by decide), u1_ne w _ (show a + 1 ≠ a by omega), u1_ne _ _ (show a + 2 ≠ a + 1 by omega), u1_ne w _ (show a + 2 ≠ a by omega)]
  rfl
theorem r_vs_139 (hk : mK M h = 100) (hl : mL M h = 25) (RC : Nat → Nat → Int32 → Int32 → Int32 → Int32 → zM → Option (Int32 × zM)) {a : Nat} (ha : a + 2 < 25) (x y z u v : Int32) (w : Nat → Int32) : f_X7_valueOfSets_139 RC zN 1026 h x y z u (nI a) v 0 (cs I J (ur A h w) M) = (if mK (cs I J (ur A h (b3 w a (-1))) M) 1026 = 13 then (RC 1026 h x (y + 1) z u (cs I J (ur A h (b3 w a (-1))) M)).bind fun r1 => (f_J9_max_7cf53 v r1.1 r1.2).bind fun r3 => f_X7_valueOfSets_185 RC zN h (nI a) r3.1 0 r3.2 else none) := by
  have e0 : nI a + 0 = nI (a + 0) := nI_add a 0
  have e1 : nI a + 1 = nI (a + 1) := nI_add a 1
  have e2 : nI a + 2 = nI (a + 2) := nI_add a 2
  have f1 : (0 : Int32) + 1 = 1 := rfl
  have f2 : (1 : Int32) + 1 = 2 := rfl
  have f3 : (2 : Int32) + 1 = 3 := rfl
  have s1 : ∀ q : Int32, q - 1 = q + -1 := fun q => Int32.sub_eq_add_neg q 1
  rw [show f_X7_valueOfSets_139 RC zN 1026 h x y z u (nI a) v 0 (cs I J (ur A h w) M) = f_X7_valueOfSets_139 RC (126 + 1 + 1 + 1 + 1) 1026 h x y z u (nI a) v 0 (cs I J (ur A h w) M) from rfl]
  rw [f_X7_valueOfSets_139, if_neg (by decide), e0, Nat.add_zero, lA_cs hk (by omega) (by omega), Option.bind_some, ur_at, tA_cs hk (by omega) (by omega), Option.bind_some, u2_ur, f1, s1]
  rw [f_X7_valueOfSets_139, if_neg (by decide), e1, lA_cs hk (by omega) (by omega), Option.bind_some, ur_at, tA_cs hk (by omega) (by omega), Option.bind_some, u2_ur, f2, s1]
  rw [f_X7_valueOfSets_139, if_neg (by decide), e2, lA_cs hk (by omega) (by omega), Option.bind_some, ur_at, tA_cs hk (by omega) (by omega), Option.bind_some, u2_ur, f3, s1]
  rw [f_X7_valueOfSets_139, if_pos (by decide), u1_ne w _ (show a + 1 ≠ a by omega), u1_ne _ _ (show a + 2 ≠ a + 1 by omega), u1_ne w _ (show a + 2 ≠ a by omega)]
  rfl
theorem sn_lr (g : Nat → Nat) {a : Nat} (ha : a + 2 < 25) (h0 : g a ≠ 0) (h1 : g (a + 1) ≠ 0) (h2 : g (a + 2) ≠ 0) : sn (lr g a) 0 25 + 3 = sn g 0 25 := by
  unfold lr
  have e1 := sn_u1 g a (g a - 1) 25 0 (Nat.zero_le _) (by omega)
  have e2 := sn_u1 (u1 g a (g a - 1)) (a + 1) (g (a + 1) - 1) 25 0 (Nat.zero_le _) (by omega)
  have e3 := sn_u1 (u1 (u1 g a (g a - 1)) (a + 1) (g (a + 1) - 1)) (a + 2) (g (a + 2) - 1) 25 0 (Nat.zero_le _) (by omega)
  rw [u1_ne g _ (show a + 1 ≠ a by omega)] at e2
  rw [u1_ne _ _ (show a + 2 ≠ a + 1 by omega), u1_ne g _ (show a + 2 ≠ a by omega)] at e3
  omega
theorem r_vs_106 (k : mK M 1026 = 13) (hk : mK M h = 100) (hl : mL M h = 25) {T : Nat} {RC : Nat → Nat → Int32 → Int32 → Int32 → Int32 → zM → Option (Int32 × zM)} (IH : VSP I J A M h T RC) {a : Nat} (ha : a < 25) (x y z u v : Int32) {g : Nat → Nat} {w : Nat → Int32} (hw : ∀ k, k < 25 → w k = nI (g k)) (hg : ∀ k, k < 25 → g k < 1000) (hp : g a ≠ 0) (hs : sn g 0 25 < T + 1) : ∃ v' w', f_X7_valueOfSets_106 RC 1026 h x y z u (nI a) v (cs I J (ur A h w) M) = some (v', cs I J (ur A h w') M) ∧ ∀ k, k < 25 → w' k = w k := by
  unfold f_X7_valueOfSets_106
  rw [q_isRun3 a (by omega), Option.bind_some]
  dsimp only
  by_cases r : rw_ a = true
  · have ha18 := rw_lt r
    have e1 : nI a + 1 = nI (a + 1) := nI_add a 1
    have e2 : nI a + 2 = nI (a + 2) := nI_add a 2
    rw [r, if_neg (show ¬ b32 true = 0 by decide), e1, lA_cs hk (by omega) (by omega), Option.bind_some, ur_at, hw (a + 1) (by omega)]
    have g1 := hg (a + 1) (by omega)
    have g2 := hg (a + 2) (by omega)
    by_cases z1 : g (a + 1) = 0
    · exact ⟨v, w, by rw [z1, if_pos (show nI 0 = 0 from rfl)], fun _ _ => rfl⟩
    · rw [if_neg (eq_f (y := 0) (g (a + 1)) 0 z1 (by omega) (by decide)), e2, lA_cs hk (by omega) (by omega), Option.bind_some, ur_at, hw (a + 2) (by omega)]
      by_cases z2 : g (a + 2) = 0
      · exact ⟨v, w, by rw [z2, if_pos (show nI 0 = 0 from rfl)], fun _ _ => rfl⟩
      · have hb : ∀ k, k < 25 → b3 w a (-1) k = nI (lr g a k) := fun k hk9 => by
          rw [b3_at]
          by_cases q : a ≤ k ∧ k ≤ a + 2
          · rw [if_pos q, hw k hk9]
            have hgk : g k ≠ 0 ∧ lr g a k = g k - 1 := by
              rcases (show k = a ∨ k = a + 1 ∨ k = a + 2 by omega) with q | q | q
              · subst q; exact ⟨hp, lr_0 g k⟩
              · subst q; exact ⟨z1, lr_1 g a⟩
              · subst q; exact ⟨z2, lr_2 g a⟩
            obtain ⟨j, hj⟩ : ∃ j, g k = j + 1 := ⟨g k - 1, by omega⟩
            rw [hgk.2, hj, pk_m1]
            rfl
          · rw [if_neg q, lr_n g (by omega)]
            exact hw k hk9
        have hsn := sn_lr g (by omega) hp z1 z2
        obtain ⟨v1, w1, q1, q2⟩ := IH (lr g a) (b3 w a (-1)) hb (fun k hk9 => by
          have := hg k hk9
          by_cases q : a ≤ k ∧ k ≤ a + 2
          · have : lr g a k = g k - 1 := by
              rcases (show k = a ∨ k = a + 1 ∨ k = a + 2 by omega) with q | q | q
              · subst q; exact lr_0 g k
              · subst q; exact lr_1 g a
              · subst q; exact lr_2 g a
            omega
          · rw [lr_n g (by omega)]; exact this) (by omega) x (y + 1) z u
        obtain ⟨v2, q3⟩ := q_max v v1 (cs I J (ur A h w1) M)
        rw [if_neg (eq_f (y := 0) (g (a + 2)) 0 z2 (by omega) (by decide)), r_vs_139 hk hl RC (by omega), if_pos (show mK (cs I J _ M) 1026 = 13 from k), q1, Option.bind_some]
        dsimp only
        rw [q3, Option.bind_some]
        dsimp only
        rw [r_vs_185 hk hl RC (by omega)]
        refine ⟨v2, _, rfl, fun k hk9 => ?_⟩
        rw [b3_at]
        by_cases q : a ≤ k ∧ k ≤ a + 2
        · rw [if_pos q, q2 k hk9, b3_at, if_pos q, Int32.add_assoc]
          exact Int32.add_zero _
        · rw [if_neg q, q2 k hk9, b3_at, if_neg q]
  · have r' : rw_ a = false := by cases hx : rw_ a; rfl; exact absurd hx r
    exact ⟨v, w, by rw [r', if_pos (show b32 false = 0 from rfl)], fun _ _ => rfl⟩
theorem r_vs_3 (hk : mK M h = 100) (hl : mL M h = 25) (RC : Nat → Nat → Int32 → Int32 → Int32 → Int32 → zM → Option (Int32 × zM)) (x y z u : Int32) {g : Nat → Nat} {w : Nat → Int32} (hw : ∀ k, k < 25 → w k = nI (g k)) (hg : ∀ k, k < 25 → g k < 1000) : ∀ (d n i : Nat), i + d = 25 → d < n → ∃ a, a ≤ 25 ∧ (a < 25 → g a ≠ 0) ∧ f_X7_valueOfSets_3 RC n 1026 h x y z u (nI i) (cs I J (ur A h w) M) = f_X7_valueOfSets_23 RC 1026 h x y z u (nI a) (cs I J (ur A h w) M) := by
  intro d
  induction d with
  | zero =>
    intro n i hi hn
    obtain ⟨n, rfl⟩ : ∃ m, n = m + 1 := ⟨n - 1, by omega⟩
    refine ⟨i, by omega, fun q => by omega, ?_⟩
    rw [f_X7_valueOfSets_3, if_pos (le_t (x := 25) 25 i (by omega) (by omega))]
  | succ d ih =>
    intro n i hi hn
    obtain ⟨n, rfl⟩ : ∃ m, n = m + 1 := ⟨n - 1, by omega⟩
    have hgi := hg i (by omega)
    rw [f_X7_valueOfSets_3, if_neg (le_f (x := 25) 25 i (by omega) (by decide)), lA_cs hk (by omega) (by omega), Option.bind_some, ur_at, hw i (by omega)]
    by_cases z : g i = 0
    · rw [z, if_pos (show nI 0 = 0 from rfl), nI_1]
      exact ih n (i + 1) (by omega) (by omega)
    · exact ⟨i, by omega, fun _ => z, by rw [if_neg (eq_f (y := 0) (g i) 0 z (by omega) (by decide))]⟩
theorem r_valueOfSets (k : mK M 1026 = 13) (hk : mK M h = 100) (hl : mL M h = 25) : ∀ (T n : Nat), T ≤ n → VSP I J A M h T (f_X7_valueOfSets n) := by
  intro T
  induction T with
  | zero => exact fun n hn g w hw hg hs => absurd hs (Nat.not_lt_zero _)
  | succ T ih =>
    intro n hn g w hw hg hs x y z u
    obtain ⟨n, rfl⟩ : ∃ m, n = m + 1 := ⟨n - 1, by omega⟩
    have IH := ih n (by omega)
    rw [f_X7_valueOfSets]
    unfold f_X7_valueOfSets_0
    obtain ⟨a, a1, a2, a3⟩ := r_vs_3 (I := I) (J := J) (A := A) (M := M) hk hl (f_X7_valueOfSets n) x y z u hw hg 25 zN 0 rfl (by decide)
    have a3' : f_X7_valueOfSets_3 (f_X7_valueOfSets n) zN 1026 h x y z u 0 (cs I J (ur A h w) M) = f_X7_valueOfSets_23 (f_X7_valueOfSets n) 1026 h x y z u (nI a) (cs I J (ur A h w) M) := a3
    rw [a3']
    unfold f_X7_valueOfSets_23
    by_cases a25 : a = 25
    · rw [if_pos (show nI a = 25 by rw [a25]; rfl)]
      split
      · split
        · exact ⟨_, w, rfl, fun _ _ => rfl⟩
        · exact ⟨_, w, rfl, fun _ _ => rfl⟩
      · exact ⟨_, w, rfl, fun _ _ => rfl⟩
    · have ha : a < 25 := by omega
      have hp := a2 ha
      have hga := hg a ha
      rw [if_neg (eq_f (y := 25) a 25 a25 (by omega) (by decide)), lA_cs hk (by omega) (by omega), Option.bind_some, ur_at, hw a ha]
      by_cases g3 : g a < 3
      · rw [if_pos (lt_t (y := 3) (g a) 3 g3 (by decide))]
        exact r_vs_106 k hk hl IH ha x y z u (-1) hw hg hp hs
      · have em : nI (g a) - 3 = nI (g a - 3) := pk_sub (a := g a) (b := 3) (by omega)
        have eb : nI (g a - 3) + 3 = nI (g a) := (nI_add (g a - 3) 3).trans (congrArg nI (by omega))
        have hsn := sn_u1 g a (g a - 3) 25 0 (Nat.zero_le _) (by omega)
        rw [if_neg (lt_f (y := 3) (g a) 3 (by omega) (by omega)), Option.bind_some, em, tA_cs hk (by omega) (by omega), Option.bind_some, u2_ur, if_pos (show mK (cs I J _ M) 1026 = 13 from k)]
        obtain ⟨v1, q1⟩ := r_valueOfThree (M := cs I J (ur A h (u1 w a (nI (g a - 3)))) M) k (nI a) x
        obtain ⟨v2, w2, q2, q3⟩ := IH (u1 g a (g a - 3)) (u1 w a (nI (g a - 3))) (fun k hk9 => by
          by_cases q : k = a
          · rw [q, u1_at, u1_at]
          · rw [u1_ne _ _ q, u1_ne _ _ q, hw k hk9]) (fun k hk9 => by
          have := hg k hk9
          by_cases q : k = a
          · rw [q, u1_at]; omega
          · rw [u1_ne _ _ q]; exact this) (by omega) x (y + 1) (z + 1) (u + v1)
        rw [q1, Option.bind_some]
        dsimp only
        rw [if_pos (show mK (cs I J _ M) 1026 = 13 from k), q2, Option.bind_some]
        dsimp only
        have hw3 : ∀ k, k < 25 → u1 w2 a (nI (g a)) k = w k := fun k hk9 => by
          by_cases q : k = a
          · rw [q, u1_at, hw a ha]
          · rw [u1_ne _ _ q, q3 k hk9, u1_ne _ _ q]
        rw [lA_cs hk (by omega) (by omega), Option.bind_some, ur_at, q3 a ha, u1_at, eb, tA_cs hk (by omega) (by omega), Option.bind_some, u2_ur]
        obtain ⟨v4, w4, q4, q5⟩ := r_vs_106 k hk hl IH ha x y z u v2 (g := g) (w := u1 w2 a (nI (g a))) (fun k hk9 => (hw3 k hk9).trans (hw k hk9)) hg hp hs
        exact ⟨v4, w4, q4, fun k hk9 => (q5 k hk9).trans (hw3 k hk9)⟩
end RVAL
