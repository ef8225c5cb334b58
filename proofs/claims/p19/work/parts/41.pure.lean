/-! ===== PURE: how the reference parts a hand ===== -/
/-- the sum of d counts from i on -/
def sn (f : Nat → Nat) (i : Nat) : Nat → Nat
  | 0 => 0
  | d + 1 => f i + sn f (i + 1) d
theorem sn_out (g : Nat → Nat) (k v : Nat) : ∀ (d i : Nat), (k < i ∨ i + d ≤ k) → sn (u1 g k v) i d = sn g i d := by
  intro d
  induction d with
  | zero => exact fun i _ => rfl
  | succ d ih =>
    intro i h
    rw [sn, sn, u1_ne _ _ (by omega), ih (i + 1) (by omega)]
theorem sn_u1 (g : Nat → Nat) (k v : Nat) : ∀ (d i : Nat), i ≤ k → k < i + d → sn (u1 g k v) i d + g k = sn g i d + v := by
  intro d
  induction d with
  | zero => exact fun i h1 h2 => by omega
  | succ d ih =>
    intro i h1 h2
    rw [sn, sn]
    by_cases y : k = i
    · subst y
      rw [u1_at, sn_out g k v d (k + 1) (by omega)]
      omega
    · rw [u1_ne _ _ (by omega)]
      have := ih (i + 1) (by omega) (by omega)
      omega
theorem sn_ge (g : Nat → Nat) (k : Nat) : ∀ (d i : Nat), i ≤ k → k < i + d → g k ≤ sn g i d := by
  intro d
  induction d with
  | zero => exact fun i h1 h2 => by omega
  | succ d ih =>
    intro i h1 h2
    rw [sn]
    by_cases y : k = i
    · subst y; omega
    · have := ih (i + 1) (by omega) (by omega)
      omega
theorem sn_0 (g : Nat → Nat) : ∀ (d i : Nat), (∀ k, i ≤ k → k < i + d → g k = 0) → sn g i d = 0 := by
  intro d
  induction d with
  | zero => exact fun i _ => rfl
  | succ d ih =>
    intro i h
    rw [sn, h i (Nat.le_refl _) (by omega), ih (i + 1) (fun k q1 q2 => h k (by omega) (by omega))]
theorem pr_u1 (r : Nat → Nat) (i k : Nat) : pr (u1 r i (r i + 1)) k = pr r k + (if i ≤ k ∧ k ≤ i + 2 then 1 else 0) := by
  have e : ∀ j, u1 r i (r i + 1) j = r j + (if j = i then 1 else 0) := fun j => by
    by_cases y : j = i
    · subst y; rw [u1_at, if_pos rfl]
    · rw [u1_ne _ _ y, if_neg y, Nat.add_zero]
  unfold pr
  rw [e, e, e]
  by_cases q1 : 1 ≤ k
  · by_cases q2 : 2 ≤ k
    · rw [if_pos q1, if_pos q1, if_pos q2, if_pos q2]
      repeat' split
      all_goals omega
    · rw [if_pos q1, if_pos q1, if_neg q2, if_neg q2]
      repeat' split
      all_goals omega
  · have q2 : ¬ 2 ≤ k := by omega
    rw [if_neg q1, if_neg q1, if_neg q2, if_neg q2]
    repeat' split
    all_goals omega
/-- less one row -/
def lr (g : Nat → Nat) (i : Nat) : Nat → Nat := u1 (u1 (u1 g i (g i - 1)) (i + 1) (g (i + 1) - 1)) (i + 2) (g (i + 2) - 1)
theorem lr_0 (g : Nat → Nat) (i : Nat) : lr g i i = g i - 1 := by
  unfold lr
  rw [u1_ne _ _ (by omega), u1_ne _ _ (by omega), u1_at]
theorem lr_1 (g : Nat → Nat) (i : Nat) : lr g i (i + 1) = g (i + 1) - 1 := by
  unfold lr
  rw [u1_ne _ _ (by omega), u1_at]
theorem lr_2 (g : Nat → Nat) (i : Nat) : lr g i (i + 2) = g (i + 2) - 1 := by
  unfold lr
  rw [u1_at]
theorem lr_n (g : Nat → Nat) {i k : Nat} (h : k < i ∨ i + 2 < k) : lr g i k = g k := by
  unfold lr
  rw [u1_ne _ _ (by omega), u1_ne _ _ (by omega), u1_ne _ _ (by omega)]
theorem Dec_split {a : Nat} (ha : a < 25) (g : Nat → Nat) (hz : ∀ j, j < a → g j = 0) (hp : g a ≠ 0) : Dec 0 g ↔ (3 ≤ g a ∧ Dec 0 (u1 g a (g a - 3))) ∨ (rw_ a = true ∧ g (a + 1) ≠ 0 ∧ g (a + 2) ≠ 0 ∧ Dec 0 (lr g a)) := by
  constructor
  · rintro ⟨r, h1, h2⟩
    have hr0 : ∀ j, j < a → r j = 0 := fun j hj => by
      obtain ⟨t, e⟩ := h2 j (Nat.zero_le _) (by omega)
      rw [hz j hj] at e
      unfold pr at e
      omega
    obtain ⟨t, e⟩ := h2 a (Nat.zero_le _) ha
    have ep : pr r a = r a := pr_at (fun j q => ⟨(h1 j q).1, by
      by_cases y : j < a
      · exact absurd (hr0 j y) q
      · omega⟩)
    rw [ep] at e
    by_cases z : t = 0
    · have hra : r a ≠ 0 := by omega
      have hw := (h1 a hra).1
      have ha18 := rw_lt hw
      obtain ⟨r', hr'⟩ : ∃ r' : Nat → Nat, r = u1 r' a (r' a + 1) := ⟨u1 r a (r a - 1), by
        funext j
        by_cases y : j = a
        · subst y; rw [u1_at, u1_at]; omega
        · rw [u1_ne _ _ y, u1_ne _ _ y]⟩
      have hx : ∀ k, k < 25 → ∃ t, g k = 3 * t + pr r' k + (if a ≤ k ∧ k ≤ a + 2 then 1 else 0) := fun k hk => by
        obtain ⟨t, e⟩ := h2 k (Nat.zero_le _) hk
        rw [hr', pr_u1] at e
        exact ⟨t, by omega⟩
      obtain ⟨t1, e1⟩ := hx (a + 1) (by omega)
      obtain ⟨t2, e2⟩ := hx (a + 2) (by omega)
      rw [if_pos ⟨by omega, by omega⟩] at e1 e2
      refine Or.inr ⟨hw, by omega, by omega, r', fun j q => ?_, fun k _ hk => ?_⟩
      · refine ⟨(h1 j ?_).1, Nat.zero_le _⟩
        rw [hr']
        by_cases y : j = a
        · subst y; rw [u1_at]; omega
        · rw [u1_ne _ _ y]; exact q
      · obtain ⟨t, e⟩ := hx k hk
        refine ⟨t, ?_⟩
        by_cases y : k < a ∨ a + 2 < k
        · rw [lr_n g y]; rw [if_neg (by omega)] at e; exact e
        · rw [if_pos (by omega)] at e
          have y3 : k = a ∨ k = a + 1 ∨ k = a + 2 := by omega
          rcases y3 with rfl | rfl | rfl
          · rw [lr_0]; omega
          · rw [lr_1]; omega
          · rw [lr_2]; omega
    · refine Or.inl ⟨by omega, r, h1, fun k q hk => ?_⟩
      by_cases y : k = a
      · subst y
        exact ⟨t - 1, by rw [u1_at, ep]; omega⟩
      · rw [u1_ne _ _ y]; exact h2 k q hk
  · rintro (⟨h3, r, h1, h2⟩ | ⟨hw, n1, n2, r, h1, h2⟩)
    · refine ⟨r, h1, fun k q hk => ?_⟩
      obtain ⟨t, e⟩ := h2 k q hk
      by_cases y : k = a
      · subst y
        rw [u1_at] at e
        exact ⟨t + 1, by omega⟩
      · rw [u1_ne _ _ y] at e
        exact ⟨t, e⟩
    · refine ⟨u1 r a (r a + 1), fun j q => ?_, fun k q hk => ?_⟩
      · by_cases y : j = a
        · subst y; exact ⟨hw, Nat.zero_le _⟩
        · rw [u1_ne _ _ y] at q; exact h1 j q
      · obtain ⟨t, e⟩ := h2 k q hk
        rw [pr_u1]
        refine ⟨t, ?_⟩
        by_cases y : k < a ∨ a + 2 < k
        · rw [lr_n g y] at e; rw [if_neg (by omega), e]; omega
        · rw [if_pos (by omega)]
          have y3 : k = a ∨ k = a + 1 ∨ k = a + 2 := by omega
          rcases y3 with rfl | rfl | rfl
          · rw [lr_0] at e; omega
          · rw [lr_1] at e; omega
          · rw [lr_2] at e; omega
theorem q_isRun3 (i : Nat) (hi : i < 2 ^ 30) (M : zM) : f_X7_isRun (nI i) 3 M = some (b32 (rw_ i), M) := by
  unfold f_X7_isRun f_X7_isRun_0
  rw [if_neg (nI_nn (by omega))]
  by_cases h : 18 ≤ i
  · rw [if_pos (le_t (x := 18) 18 i h (by omega))]
    have e : rw_ i = false := decide_eq_false (by omega)
    rw [e]
    rfl
  · rw [if_neg (le_f (x := 18) 18 i (by omega) (by decide))]
    have e : zmd (nI i) 9 = nI (i % 9) := pk_rem (a := i) (d := 9) (by omega) (by decide) (by decide)
    have e2 : nI (i % 9) + 3 = nI (i % 9 + 3) := nI_add _ 3
    rw [e, e2]
    by_cases h2 : i % 9 ≤ 6
    · rw [if_neg (lt_f (x := 9) 9 (i % 9 + 3) (by omega) (by decide))]
      have e : rw_ i = true := decide_eq_true (by omega)
      rw [e]
      rfl
    · rw [if_pos (lt_t (x := 9) 9 (i % 9 + 3) (by omega) (by omega))]
      have e : rw_ i = false := decide_eq_false (by omega)
      rw [e]
      rfl
theorem b32_or (b : Bool) : b32 b = 0 ∨ b32 b = 1 := by cases b; exact Or.inl rfl; exact Or.inr rfl
section ARE
variable {I : Nat → Nat → Int32} {J : Nat → Nat → Int64} {A : Nat → Nat → Int32} {M : zM} {h : Nat}
/-- what a recursive call does on hands whose sets are so many -/
def ARE (I : Nat → Nat → Int32) (J : Nat → Nat → Int64) (A : Nat → Nat → Int32) (M : zM) (h S : Nat) (RC : Nat → Int32 → zM → Option (Int32 × zM)) : Prop :=
  ∀ (g : Nat → Nat) (w : Nat → Int32), (∀ k, k < 25 → w k = nI (g k)) → (∀ k, k < 25 → g k < 1000) → sn g 0 25 = 3 * S → ∃ (b : Bool) (w' : Nat → Int32), RC h (nI S) (cs I J (ur A h w) M) = some (b32 b, cs I J (ur A h w') M) ∧ (∀ k, k < 25 → w' k = w k) ∧ (b = true ↔ Dec 0 g)
theorem q_areSets_2 (hk : mK M h = 100) (hl : mL M h = 25) (RC : Nat → Int32 → zM → Option (Int32 × zM)) (S : Int32) {g : Nat → Nat} {w : Nat → Int32} (hw : ∀ k, k < 25 → w k = nI (g k)) (hg : ∀ k, k < 25 → g k < 1000) : ∀ (d n i : Nat), i + d = 25 → d < n → (∀ j, j < i → g j = 0) → ∃ a, a ≤ 25 ∧ (∀ j, j < a → g j = 0) ∧ (a < 25 → g a ≠ 0) ∧ f_X7_areSets_2 RC n h S (nI i) (cs I J (ur A h w) M) = f_X7_areSets_20 RC h S (nI a) (cs I J (ur A h w) M) := by
  intro d
  induction d with
  | zero =>
    intro n i hi hn hz
    obtain ⟨n, rfl⟩ : ∃ m, n = m + 1 := ⟨n - 1, by omega⟩
    refine ⟨i, by omega, hz, fun q => by omega, ?_⟩
    rw [f_X7_areSets_2, if_pos (le_t (x := 25) 25 i (by omega) (by omega))]
  | succ d ih =>
    intro n i hi hn hz
    obtain ⟨n, rfl⟩ : ∃ m, n = m + 1 := ⟨n - 1, by omega⟩
    have hgi := hg i (by omega)
    rw [f_X7_areSets_2, if_neg (le_f (x := 25) 25 i (by omega) (by decide)), lA_cs hk (by omega) (by omega), Option.bind_some, ur_at, hw i (by omega)]
    by_cases z : g i = 0
    · rw [z, if_pos (show nI 0 = 0 from rfl), nI_1]
      exact ih n (i + 1) (by omega) (by omega) (fun j hj => by
        by_cases y : j = i
        · rw [y]; exact z
        · exact hz j (by omega))
    · exact ⟨i, by omega, hz, fun _ => z, by rw [if_neg (eq_f (y := 0) (g i) 0 z (by omega) (by decide))]⟩
theorem q_areSets_back (hk : mK M h = 100) (hl : mL M h = 25) (RC : Nat → Int32 → zM → Option (Int32 × zM)) {a : Nat} (ha : a + 2 < 25) (b : Bool) {g : Nat → Nat} {w : Nat → Int32} (hg : ∀ k, k < 25 → g k < 1000) (h0 : g a ≠ 0) (h1 : g (a + 1) ≠ 0) (h2 : g (a + 2) ≠ 0) (hw : ∀ k, k < 25 → w k = nI (lr g a k)) : ∃ w', f_X7_areSets_139 RC zN h (nI a) (b32 b) 0 (cs I J (ur A h w) M) = some (b32 b, cs I J (ur A h w') M) ∧ ∀ k, k < 25 → w' k = nI (g k) := by
  have e0 : nI a + 0 = nI (a + 0) := nI_add a 0
  have e1 : nI a + 1 = nI (a + 1) := nI_add a 1
  have e2 : nI a + 2 = nI (a + 2) := nI_add a 2
  have f1 : (0 : Int32) + 1 = 1 := rfl
  have f2 : (1 : Int32) + 1 = 2 := rfl
  have f3 : (2 : Int32) + 1 = 3 := rfl
  refine ⟨u1 (u1 (u1 w a (w a + 1)) (a + 1) (w (a + 1) + 1)) (a + 2) (w (a + 2) + 1), ?_, fun k hk' => ?_⟩
  · rw [show zN = 126 + 1 + 1 + 1 + 1 from rfl]
    rw [f_X7_areSets_139, if_neg (by decide), e0, Nat.add_zero, lA_cs hk (by omega) (by omega), Option.bind_some, ur_at, tA_cs hk (by omega) (by omega), Option.bind_some, u2_ur, f1]
    rw [f_X7_areSets_139, if_neg (by decide), e1, lA_cs hk (by omega) (by omega), Option.bind_some, ur_at, tA_cs hk (by omega) (by omega), Option.bind_some, u2_ur, f2]
    rw [f_X7_areSets_139, if_neg (by decide), e2, lA_cs hk (by omega) (by omega), Option.bind_some, ur_at, tA_cs hk (by omega) (by omega), Option.bind_some, u2_ur, f3]
    rw [f_X7_areSets_139, if_pos (by decide), if_pos (b32_or b), u1_ne w _ (show a + 1 ≠ a by omega), u1_ne _ _ (show a + 2 ≠ a + 1 by omega), u1_ne w _ (show a + 2 ≠ a by omega)]
  · by_cases y2 : k = a + 2
    · subst y2
      have := hg (a + 2) (by omega)
      rw [u1_at, hw (a + 2) hk', lr_2, nI_1]
      exact congrArg nI (by omega)
    · rw [u1_ne _ _ y2]
      by_cases y1 : k = a + 1
      · subst y1
        rw [u1_at, hw (a + 1) hk', lr_1, nI_1]
        exact congrArg nI (by omega)
      · rw [u1_ne _ _ y1]
        by_cases y0 : k = a
        · subst y0
          rw [u1_at, hw k hk', lr_0, nI_1]
          exact congrArg nI (by omega)
        · rw [u1_ne _ _ y0, hw k hk', lr_n g (by omega)]
theorem q_areSets_73 (hk : mK M h = 100) (hl : mL M h = 25) {RC : Nat → Int32 → zM → Option (Int32 × zM)} {S : Nat} (hS : S < 1000) (IH : ARE I J A M h S RC) {a : Nat} (ha : a < 25) (b : Bool) {g : Nat → Nat} {w : Nat → Int32} (hw : ∀ k, k < 25 → w k = nI (g k)) (hg : ∀ k, k < 25 → g k < 1000) (hz : ∀ j, j < a → g j = 0) (hp : g a ≠ 0) (hs : sn g 0 25 = 3 * (S + 1)) (hb : b = true ↔ 3 ≤ g a ∧ Dec 0 (u1 g a (g a - 3))) : ∃ (b' : Bool) (w' : Nat → Int32), f_X7_areSets_73 RC h (nI (S + 1)) (nI a) (b32 b) (cs I J (ur A h w) M) = some (b32 b', cs I J (ur A h w') M) ∧ (∀ k, k < 25 → w' k = nI (g k)) ∧ (b' = true ↔ Dec 0 g) := by
  rw [Dec_split ha g hz hp]
  unfold f_X7_areSets_73
  cases b with
  | true =>
    refine ⟨true, w, ?_, hw, ⟨fun _ => Or.inl (hb.mp rfl), fun _ => rfl⟩⟩
    rw [if_neg (by decide), if_pos (b32_or _)]
  | false =>
    have hb' : ¬ (3 ≤ g a ∧ Dec 0 (u1 g a (g a - 3))) := fun q => absurd (hb.mpr q) (by decide)
    rw [if_pos (show b32 false = 0 from rfl), q_isRun3 a (by omega), Option.bind_some]
    show ∃ b' w', (if b32 (rw_ a) = 0 then _ else _) = _ ∧ _
    by_cases z1 : rw_ a = true
    · have ha18 := rw_lt z1
      have hg1 := hg (a + 1) (by omega)
      have hg2 := hg (a + 2) (by omega)
      rw [z1, if_neg (by decide), nI_1]
      show ∃ b' w', (lA 0 (cs I J (ur A h w) M) h (nI (a + 1))).bind _ = _ ∧ _
      rw [lA_cs hk (by omega) (by omega), Option.bind_some, ur_at, hw (a + 1) (by omega)]
      by_cases z2 : g (a + 1) = 0
      · refine ⟨false, w, ?_, hw, ⟨fun q => absurd q (by decide), fun q => ?_⟩⟩
        · rw [z2, if_pos (show nI 0 = 0 from rfl), if_pos (b32_or false)]
        · rcases q with q | q
          · exact absurd q hb'
          · exact absurd z2 q.2.1
      · have e2 : nI a + 2 = nI (a + 2) := nI_add a 2
        rw [if_neg (eq_f (y := 0) (g (a + 1)) 0 z2 (by omega) (by decide)), e2]
        show ∃ b' w', (lA 0 (cs I J (ur A h w) M) h (nI (a + 2))).bind _ = _ ∧ _
        rw [lA_cs hk (by omega) (by omega), Option.bind_some, ur_at, hw (a + 2) (by omega)]
        by_cases z3 : g (a + 2) = 0
        · refine ⟨false, w, ?_, hw, ⟨fun q => absurd q (by decide), fun q => ?_⟩⟩
          · rw [z3, if_pos (show nI 0 = 0 from rfl), if_pos (b32_or false)]
          · rcases q with q | q
            · exact absurd q hb'
            · exact absurd z3 q.2.2.1
        · rw [if_neg (eq_f (y := 0) (g (a + 2)) 0 z3 (by omega) (by decide))]
          show ∃ b' w', f_X7_areSets_106 RC zN h (nI (S + 1)) (nI a) 0 (cs I J (ur A h w) M) = _ ∧ _
          have e0 : nI a + 0 = nI (a + 0) := nI_add a 0
          have e1 : nI a + 1 = nI (a + 1) := nI_add a 1
          have f1 : (0 : Int32) + 1 = 1 := rfl
          have f2 : (1 : Int32) + 1 = 2 := rfl
          have f3 : (2 : Int32) + 1 = 3 := rfl
          have eS : nI (S + 1) - 1 = nI S := pk_sub (a := S + 1) (b := 1) (by omega)
          have hga := hg a ha
          have m0 : nI (g a) - 1 = nI (g a - 1) := pk_sub (a := g a) (b := 1) (by omega)
          have m1 : nI (g (a + 1)) - 1 = nI (g (a + 1) - 1) := pk_sub (a := g (a + 1)) (b := 1) (by omega)
          have m2 : nI (g (a + 2)) - 1 = nI (g (a + 2) - 1) := pk_sub (a := g (a + 2)) (b := 1) (by omega)
          rw [show zN = 126 + 1 + 1 + 1 + 1 from rfl]
          rw [f_X7_areSets_106, if_neg (by decide), e0, Nat.add_zero, lA_cs hk (by omega) (by omega), Option.bind_some, ur_at, hw a (by omega), m0, tA_cs hk (by omega) (by omega), Option.bind_some, u2_ur, f1]
          rw [f_X7_areSets_106, if_neg (by decide), e1, lA_cs hk (by omega) (by omega), Option.bind_some, ur_at, u1_ne w _ (show a + 1 ≠ a by omega), hw (a + 1) (by omega), m1, tA_cs hk (by omega) (by omega), Option.bind_some, u2_ur, f2]
          rw [f_X7_areSets_106, if_neg (by decide), e2, lA_cs hk (by omega) (by omega), Option.bind_some, ur_at, u1_ne _ _ (show a + 2 ≠ a + 1 by omega), u1_ne w _ (show a + 2 ≠ a by omega), hw (a + 2) (by omega), m2, tA_cs hk (by omega) (by omega), Option.bind_some, u2_ur, f3]
          rw [f_X7_areSets_106, if_pos (by decide), eS]
          have hs1 := sn_u1 g a (g a - 1) 25 0 (Nat.zero_le _) (by omega)
          have hs2 := sn_u1 (u1 g a (g a - 1)) (a + 1) (g (a + 1) - 1) 25 0 (Nat.zero_le _) (by omega)
          have hs3 := sn_u1 (u1 (u1 g a (g a - 1)) (a + 1) (g (a + 1) - 1)) (a + 2) (g (a + 2) - 1) 25 0 (Nat.zero_le _) (by omega)
          rw [u1_ne _ _ (show a + 1 ≠ a by omega)] at hs2
          rw [u1_ne _ _ (show a + 2 ≠ a + 1 by omega), u1_ne _ _ (show a + 2 ≠ a by omega)] at hs3
          have hsl : sn (lr g a) 0 25 = 3 * S := by
            unfold lr
            omega
          have hwl : ∀ k, k < 25 → u1 (u1 (u1 w a (nI (g a - 1))) (a + 1) (nI (g (a + 1) - 1))) (a + 2) (nI (g (a + 2) - 1)) k = nI (lr g a k) := fun k hk' => by
            by_cases y2 : k = a + 2
            · subst y2; rw [u1_at, lr_2]
            · rw [u1_ne _ _ y2]
              by_cases y1 : k = a + 1
              · subst y1; rw [u1_at, lr_1]
              · rw [u1_ne _ _ y1]
                by_cases y0 : k = a
                · subst y0; rw [u1_at, lr_0]
                · rw [u1_ne _ _ y0, hw k hk', lr_n g (by omega)]
          have hgl : ∀ k, k < 25 → lr g a k < 1000 := fun k hk' => by
            have := hg k hk'
            by_cases y : k < a ∨ a + 2 < k
            · rw [lr_n g y]; omega
            · have y3 : k = a ∨ k = a + 1 ∨ k = a + 2 := by omega
              rcases y3 with rfl | rfl | rfl
              · rw [lr_0]; omega
              · rw [lr_1]; omega
              · rw [lr_2]; omega
          obtain ⟨b2, w2, e5, e6, e7⟩ := IH (lr g a) _ hwl hgl hsl
          rw [e5, Option.bind_some]
          obtain ⟨w3, e8, e9⟩ := q_areSets_back (I := I) (J := J) (A := A) hk hl RC (a := a) (by omega) b2 (g := g) (w := w2) hg hp z2 z3 (fun k hk' => (e6 k hk').trans (hwl k hk'))
          exact ⟨b2, w3, e8, e9, e7.trans ⟨fun q => Or.inr ⟨rfl, z2, z3, q⟩, fun q => q.elim (fun q => absurd q hb') fun q => q.2.2.2⟩⟩
    · have z1' : rw_ a = false := by cases hx : rw_ a; rfl; exact absurd hx z1
      refine ⟨false, w, ?_, hw, ⟨fun q => absurd q (by decide), fun q => ?_⟩⟩
      · rw [z1', if_pos (show b32 false = 0 from rfl), if_pos (b32_or false)]
      · rcases q with q | q
        · exact absurd q hb'
        · exact absurd q.1 z1
theorem q_areSets (hk : mK M h = 100) (hl : mL M h = 25) : ∀ (S n : Nat), S < n → S < 100 → ARE I J A M h S (f_X7_areSets n) := by
  intro S
  induction S with
  | zero =>
    intro n hn _ g w hw hg hs
    obtain ⟨n, rfl⟩ : ∃ m, n = m + 1 := ⟨n - 1, by omega⟩
    rw [f_X7_areSets]
    unfold f_X7_areSets_0
    obtain ⟨a, h1, h2, h3, h4⟩ := q_areSets_2 (I := I) (J := J) (A := A) hk hl (f_X7_areSets n) (nI 0) hw hg 25 zN 0 rfl (by decide) (fun j hj => absurd hj (Nat.not_lt_zero _))
    have h4' : f_X7_areSets_2 (f_X7_areSets n) zN h (nI 0) 0 (cs I J (ur A h w) M) = f_X7_areSets_20 (f_X7_areSets n) h (nI 0) (nI a) (cs I J (ur A h w) M) := h4
    have ha : a = 25 := by
      by_cases y : a < 25
      · have := sn_ge g a 25 0 (Nat.zero_le _) (by omega)
        have := h3 y
        omega
      · omega
    subst ha
    rw [h4']
    refine ⟨true, w, ?_, fun _ _ => rfl, ⟨fun _ => ⟨fun _ => 0, fun j q => absurd rfl q, fun k _ hk' => ⟨0, by rw [h2 k hk']; unfold pr; split <;> split <;> rfl⟩⟩, fun _ => rfl⟩⟩
    unfold f_X7_areSets_20
    rw [if_pos (show nI 25 = 25 from rfl), if_pos (show nI 0 = 0 from rfl)]
    rfl
  | succ S ih =>
    intro n hn hS g w hw hg hs
    obtain ⟨n, rfl⟩ : ∃ m, n = m + 1 := ⟨n - 1, by omega⟩
    have IH := ih n (by omega) (by omega)
    rw [f_X7_areSets]
    unfold f_X7_areSets_0
    obtain ⟨a, h1, h2, h3, h4⟩ := q_areSets_2 (I := I) (J := J) (A := A) hk hl (f_X7_areSets n) (nI (S + 1)) hw hg 25 zN 0 rfl (by decide) (fun j hj => absurd hj (Nat.not_lt_zero _))
    have h4' : f_X7_areSets_2 (f_X7_areSets n) zN h (nI (S + 1)) 0 (cs I J (ur A h w) M) = f_X7_areSets_20 (f_X7_areSets n) h (nI (S + 1)) (nI a) (cs I J (ur A h w) M) := h4
    have ha : a < 25 := by
      by_cases y : a < 25
      · exact y
      · have ha' : a = 25 := by omega
        subst ha'
        have := sn_0 g 25 0 (fun k _ q => h2 k (by omega))
        omega
    have hp := h3 ha
    have hga := hg a ha
    rw [h4']
    unfold f_X7_areSets_20
    rw [if_neg (eq_f (y := 25) a 25 (by omega) (by omega) (by decide)), if_neg (eq_f (y := 0) (S + 1) 0 (by omega) (by omega) (by decide)), lA_cs hk (by omega) (by omega), Option.bind_some, ur_at, hw a ha]
    by_cases z : g a < 3
    · rw [if_pos (lt_t (y := 3) (g a) 3 z (by decide))]
      obtain ⟨b', w', e1, e2, e3⟩ := q_areSets_73 (I := I) (J := J) (A := A) hk hl (by omega) IH ha false hw hg h2 hp hs ⟨fun q => absurd q (by decide), fun q => by omega⟩
      exact ⟨b', w', e1, fun k hk' => (e2 k hk').trans (hw k hk').symm, e3⟩
    · have e3' : nI (g a) - 3 = nI (g a - 3) := pk_sub (a := g a) (b := 3) (by omega)
      have eS : nI (S + 1) - 1 = nI S := pk_sub (a := S + 1) (b := 1) (by omega)
      rw [if_neg (lt_f (y := 3) (g a) 3 (by omega) (by omega)), Option.bind_some, e3', tA_cs hk (by omega) (by omega), Option.bind_some, u2_ur, eS]
      have hs1 := sn_u1 g a (g a - 3) 25 0 (Nat.zero_le _) (by omega)
      obtain ⟨b1, w1, e5, e6, e7⟩ := IH (u1 g a (g a - 3)) (u1 w a (nI (g a - 3))) (fun k hk' => by
        by_cases y : k = a
        · subst y; rw [u1_at, u1_at]
        · rw [u1_ne _ _ y, u1_ne _ _ y, hw k hk']) (fun k hk' => by
        have := hg k hk'
        by_cases y : k = a
        · subst y; rw [u1_at]; omega
        · rw [u1_ne _ _ y]; omega) (by omega)
      rw [e5, Option.bind_some]
      show ∃ b' w', (lA 0 (cs I J (ur A h w1) M) h (nI a)).bind _ = _ ∧ _
      have ea : nI (g a - 3) + 3 = nI (g a) := by
        rw [show (3 : Int32) = nI 3 from rfl, nI_add]
        exact congrArg nI (by omega)
      rw [lA_cs hk (by omega) (by omega), Option.bind_some, ur_at, e6 a ha, u1_at, ea]
      show ∃ b' w', (tA (cs I J (ur A h w1) M) h (nI a) (nI (g a))).bind _ = _ ∧ _
      rw [tA_cs hk (by omega) (by omega), Option.bind_some, u2_ur]
      have hw2 : ∀ k, k < 25 → u1 w1 a (nI (g a)) k = nI (g k) := fun k hk' => by
        by_cases y : k = a
        · subst y; rw [u1_at]
        · rw [u1_ne _ _ y, e6 k hk', u1_ne _ _ y, hw k hk']
      obtain ⟨b', w', q1, q2, q3⟩ := q_areSets_73 (I := I) (J := J) (A := A) hk hl (by omega) IH ha b1 hw2 hg h2 hp hs ⟨fun q => ⟨by omega, e7.mp q⟩, fun q => e7.mpr q.2⟩
      exact ⟨b', w', q1, fun k hk' => (q2 k hk').trans (hw k hk').symm, q3⟩
end ARE
/-! ===== PURE: how far a hand is, by the class: it comes to an answer, the rows stay but its own ===== -/
/-- the three small tables, as rows ahead of the law -/
def AT (A : Nat → Nat → Int32) (M : zM) : Prop := ∀ b, 1 ≤ b → b ≤ 3 → mK M b = 200 ∧ mL M b = 5
theorem i32_back (a x : Int32) : (a + (-1) * x) + 1 * x = a := by grind
theorem q_max (x y : Int32) (M : zM) : ∃ v, f_J9_max_7cf53 x y M = some (v, M) := by
  unfold f_J9_max_7cf53 f_J9_max_7cf53_0
  by_cases h : x < y
  · exact ⟨y, by rw [if_pos h]⟩
  · exact ⟨x, by rw [if_neg h]⟩
theorem q_min (x y : Int32) (M : zM) : f_J9_min_7cf53 x y M = some (if y < x then y else x, M) := by
  unfold f_J9_min_7cf53 f_J9_min_7cf53_0
  by_cases h : y < x
  · rw [if_pos h, if_pos h]
  · rw [if_neg h, if_neg h]
section FAR
variable {I : Nat → Nat → Int32} {J : Nat → Nat → Int64} {A : Nat → Nat → Int32} {M : zM} {q : Nat}
theorem q_fits_86 (hA : AT A M) (hk : mK M q = 100) {f : Nat} (hf : f < 5) (x y : Int32) (w : Nat → Int32) : ∃ b, f_X0_fits_86 (nI f) x y (cs I J (ur A q w) M) = some (b32 b, cs I J (ur A q w) M) := by
  have h2 := hA 2 (by decide) (by decide)
  have h3 := hA 3 (by decide) (by decide)
  unfold f_X0_fits_86
  rw [lA_ex h2.1 (by omega) (by omega), Option.bind_some]
  split
  · exact ⟨false, rfl⟩
  · rw [lA_ex h3.1 (by omega) (by omega), Option.bind_some]
    split
    · exact ⟨false, rfl⟩
    · exact ⟨true, rfl⟩
theorem q_fits_68 (hA : AT A M) (hk : mK M q = 100) (hl : mL M q = 25) {l e f : Nat} (he : e ≤ 25) (hle : l < 25) (hf : f < 5) (x : Int32) (w : Nat → Int32) : ∃ b, f_X0_fits_68 q (nI l) (nI e) (nI f) x (cs I J (ur A q w) M) = some (b32 b, cs I J (ur A q w) M) := by
  unfold f_X0_fits_68
  have e2 : nI l + 2 = nI (l + 2) := nI_add l 2
  rw [e2]
  by_cases z : e ≤ l + 2
  · rw [if_pos (le_t e (l + 2) z (by omega))]
    exact q_fits_86 hA hk hf _ _ w
  · rw [if_neg (le_f e (l + 2) (by omega) (by omega)), lA_cs hk (by omega) (by omega), Option.bind_some]
    exact q_fits_86 hA hk hf _ _ w
theorem q_fits (hA : AT A M) (hk : mK M q = 100) (hl : mL M q = 25) {l e f : Nat} (he : e ≤ 25) (hle : l < 25) (hf : f < 5) (w : Nat → Int32) : ∃ b, f_X0_fits q (nI l) (nI e) (nI f) (cs I J (ur A q w) M) = some (b32 b, cs I J (ur A q w) M) := by
  have h1 := hA 1 (by decide) (by decide)
  have h2 := hA 2 (by decide) (by decide)
  have h3 := hA 3 (by decide) (by decide)
  unfold f_X0_fits f_X0_fits_0
  rw [if_neg (nI_nn (by omega))]
  by_cases z : e ≤ l
  · exact ⟨false, by rw [if_pos (le_t e l z (by omega))]; rfl⟩
  · have e1 : nI l + 1 = nI (l + 1) := nI_1 l
    rw [if_neg (le_f e l (by omega) (by omega)), gL_cs hk hl, Option.bind_some, if_neg (lt_f 25 e he (by decide)), lA_cs hk (by omega) (by omega), Option.bind_some, lA_ex h1.1 (by omega) (by omega), Option.bind_some]
    split
    · rw [lA_ex h2.1 (by omega) (by omega), Option.bind_some, lA_ex h3.1 (by omega) (by omega), Option.bind_some]
      split
      · exact ⟨true, rfl⟩
      · split
        · rw [e1]
          by_cases z1 : e ≤ l + 1
          · rw [if_pos (le_t e (l + 1) z1 (by omega))]
            exact q_fits_68 hA hk hl he hle hf _ w
          · rw [if_neg (le_f e (l + 1) (by omega) (by omega)), lA_cs hk (by omega) (by omega), Option.bind_some]
            exact q_fits_68 hA hk hl he hle hf _ w
        · exact ⟨false, rfl⟩
    · exact ⟨false, rfl⟩
/-- a part put on, or taken off -/
def chg (A : Nat → Nat → Int32) (l f : Nat) (by_ : Int32) (w : Nat → Int32) : Nat → Int32 := fun k => if k = l then w k + by_ * A 1 f else if k = l + 1 then w k + by_ * A 2 f else if k = l + 2 then w k + by_ * A 3 f else w k
theorem chg_back (A : Nat → Nat → Int32) (l f : Nat) (w w1 : Nat → Int32) (h : ∀ k, k < 25 → w1 k = chg A l f (-1) w k) : ∀ k, k < 25 → chg A l f 1 w1 k = w k := fun k hk => by
  have e := h k hk
  unfold chg at e ⊢
  by_cases y : k = l
  · rw [if_pos y] at e ⊢
    rw [e]; exact i32_back _ _
  · rw [if_neg y] at e ⊢
    by_cases y1 : k = l + 1
    · rw [if_pos y1] at e ⊢
      rw [e]; exact i32_back _ _
    · rw [if_neg y1] at e ⊢
      by_cases y2 : k = l + 2
      · rw [if_pos y2] at e ⊢
        rw [e]; exact i32_back _ _
      · rw [if_neg y2] at e ⊢
        exact e
theorem q_changePart_47 (hA : AT A M) (hk : mK M q = 100) (hl : mL M q = 25) (hq : 1000 ≤ q) {l f : Nat} (hle : l < 25) (hf : f < 5) (b : Int32) (w w0 : Nat → Int32) (hw : ∀ k, k < 25 → w k = if k = l + 2 then w0 k else chg A l f b w0 k) : ∃ w', f_X0_changePart_47 q (nI l) (nI f) b (cs I J (ur A q w) M) = some ((), cs I J (ur A q w') M) ∧ ∀ k, k < 25 → w' k = chg A l f b w0 k := by
  have h3 := hA 3 (by decide) (by decide)
  have e2 : nI l + 2 = nI (l + 2) := nI_add l 2
  unfold f_X0_changePart_47
  rw [gL_cs hk hl, Option.bind_some, e2]
  by_cases z : 25 ≤ l + 2
  · refine ⟨w, by rw [if_pos (le_t 25 (l + 2) z (by omega))], fun k hk' => ?_⟩
    rw [hw k hk', if_neg (by omega)]
  · rw [if_neg (le_f 25 (l + 2) (by omega) (by decide)), lA_cs hk (by omega) (by omega), Option.bind_some, lA_ex h3.1 (by omega) (by omega), Option.bind_some, ur_at, ur_ne A f w (by omega), tA_cs hk (by omega) (by omega), Option.bind_some, u2_ur]
    refine ⟨_, rfl, fun k hk' => ?_⟩
    by_cases y : k = l + 2
    · subst y
      rw [u1_at, hw (l + 2) hk', if_pos rfl]
      unfold chg
      rw [if_neg (by omega), if_neg (by omega), if_pos rfl]
    · rw [u1_ne _ _ y, hw k hk', if_neg y]
theorem q_changePart (hA : AT A M) (hk : mK M q = 100) (hl : mL M q = 25) (hq : 1000 ≤ q) {l f : Nat} (hle : l < 25) (hf : f < 5) (b : Int32) (w : Nat → Int32) : ∃ w', f_X0_changePart q (nI l) (nI f) b (cs I J (ur A q w) M) = some ((), cs I J (ur A q w') M) ∧ ∀ k, k < 25 → w' k = chg A l f b w k := by
  have h1 := hA 1 (by decide) (by decide)
  have h2 := hA 2 (by decide) (by decide)
  have e1 : nI l + 1 = nI (l + 1) := nI_1 l
  unfold f_X0_changePart f_X0_changePart_0
  rw [if_neg (nI_nn (by omega)), gL_cs hk hl, Option.bind_some, if_pos (lt_t l 25 hle (by decide)), lA_cs hk (by omega) (by omega), Option.bind_some, lA_ex h1.1 (by omega) (by omega), Option.bind_some, ur_at, ur_ne A f w (by omega), tA_cs hk (by omega) (by omega), Option.bind_some, u2_ur, gL_cs hk hl, Option.bind_some, e1]
  by_cases z : 25 ≤ l + 1
  · rw [if_pos (le_t 25 (l + 1) z (by omega))]
    refine q_changePart_47 hA hk hl hq hle hf b _ w (fun k hk' => ?_)
    rw [if_neg (by omega)]
    unfold chg
    by_cases y : k = l
    · rw [if_pos y, y, u1_at]
    · rw [if_neg y, if_neg (by omega), if_neg (by omega), u1_ne _ _ y]
  · rw [if_neg (le_f 25 (l + 1) (by omega) (by decide)), lA_cs hk (by omega) (by omega), Option.bind_some, lA_ex h2.1 (by omega) (by omega), Option.bind_some, ur_at, ur_ne A f _ (by omega), tA_cs hk (by omega) (by omega), Option.bind_some, u2_ur]
    refine q_changePart_47 hA hk hl hq hle hf b _ w (fun k hk' => ?_)
    by_cases y1 : k = l + 1
    · subst y1
      rw [u1_at, if_neg (by omega)]
      unfold chg
      rw [if_neg (by omega), if_pos rfl, u1_ne _ _ (by omega)]
    · rw [u1_ne _ _ y1]
      by_cases y : k = l
      · subst y
        rw [u1_at, if_neg (by omega)]
        unfold chg
        rw [if_pos rfl]
      · rw [u1_ne _ _ y]
        by_cases y2 : k = l + 2
        · rw [if_pos y2]
        · rw [if_neg y2]
          unfold chg
          rw [if_neg y, if_neg y1, if_neg y2]
/-- the rest row is as it was -/
def MOST (I : Nat → Nat → Int32) (J : Nat → Nat → Int64) (A : Nat → Nat → Int32) (M : zM) (q p : Nat) (RC : Nat → Int32 → Int32 → Int32 → zM → Option (Int32 × zM)) : Prop :=
  ∀ (f e : Nat) (w : Nat → Int32), f < 26 → e ≤ 25 → ∃ (v : Int32) (w' : Nat → Int32), RC q (nI f) (nI e) (nI p) (cs I J (ur A q w) M) = some (v, cs I J (ur A q w') M) ∧ ∀ k, k < 25 → w' k = w k
theorem q_most_38 (hA : AT A M) (hk : mK M q = 100) (hl : mL M q = 25) (hq : 1000 ≤ q) {RC : Nat → Int32 → Int32 → Int32 → zM → Option (Int32 × zM)} {p : Nat} (hp : p < 3) (IH : MOST I J A M q p RC) (K21 : Nat → Int32 → Int32 → Int32 → Int32 → zM → Option (Int32 × zM)) {e k0 : Nat} (he : e ≤ 25) (hk0 : k0 < 25) (w : Nat → Int32)
    (hK : ∀ (v : Int32) (w1 : Nat → Int32), (∀ k, k < 25 → w1 k = w k) → ∃ (v' : Int32) (w' : Nat → Int32), K21 q (nI e) (nI (p + 1)) v (nI (k0 + 1)) (cs I J (ur A q w1) M) = some (v', cs I J (ur A q w') M) ∧ ∀ k, k < 25 → w' k = w k) :
    ∀ (d n f : Nat) (v : Int32) (w1 : Nat → Int32), f + d = 5 → d < n → (∀ k, k < 25 → w1 k = w k) → ∃ (v' : Int32) (w' : Nat → Int32), f_X0_most_38 RC K21 n q (nI e) (nI (p + 1)) v (nI k0) (nI f) (cs I J (ur A q w1) M) = some (v', cs I J (ur A q w') M) ∧ ∀ k, k < 25 → w' k = w k := by
  intro d
  induction d with
  | zero =>
    intro n f v w1 hf hn hw
    obtain ⟨n, rfl⟩ : ∃ m, n = m + 1 := ⟨n - 1, by omega⟩
    rw [f_X0_most_38, if_pos (le_t (x := 5) 5 f (by omega) (by omega)), nI_1]
    exact hK v w1 hw
  | succ d ih =>
    intro n f v w1 hf hn hw
    obtain ⟨n, rfl⟩ : ∃ m, n = m + 1 := ⟨n - 1, by omega⟩
    rw [f_X0_most_38, if_neg (le_f (x := 5) 5 f (by omega) (by decide))]
    obtain ⟨b, eb⟩ := q_fits (I := I) (J := J) hA hk hl he hk0 (show f < 5 by omega) w1
    rw [eb, Option.bind_some]
    show ∃ v' w', (if b32 b = 0 then _ else _) = _ ∧ _
    cases b with
    | false =>
      rw [if_pos (show b32 false = 0 from rfl), nI_1]
      exact ih n (f + 1) v w1 (by omega) (by omega) hw
    | true =>
      rw [if_neg (show ¬ b32 true = 0 by decide)]
      obtain ⟨w2, e2, h2⟩ := q_changePart (I := I) (J := J) hA hk hl hq hk0 (show f < 5 by omega) (-1) w1
      show ∃ v' w', (f_X0_changePart q (nI k0) (nI f) (-1) (cs I J (ur A q w1) M)).bind _ = _ ∧ _
      rw [e2, Option.bind_some]
      have fin : ∀ x : Int32, ∃ (v' : Int32) (w' : Nat → Int32), f_X0_most_76 RC K21 (f_X0_most_38 RC K21 n) q (nI e) (nI (p + 1)) v (nI k0) (nI f) x (cs I J (ur A q w2) M) = some (v', cs I J (ur A q w') M) ∧ ∀ k, k < 25 → w' k = w k := fun x => by
        have ep : nI (p + 1) - 1 = nI p := pk_sub (a := p + 1) (b := 1) (by omega)
        unfold f_X0_most_76
        rw [ep]
        obtain ⟨v3, w3, e3, h3⟩ := IH k0 e w2 (by omega) he
        rw [e3, Option.bind_some]
        obtain ⟨v4, e4⟩ := q_max v (x + v3) (cs I J (ur A q w3) M)
        show ∃ v' w', (f_J9_max_7cf53 v (x + v3) (cs I J (ur A q w3) M)).bind _ = _ ∧ _
        rw [e4, Option.bind_some]
        obtain ⟨w5, e5, h5⟩ := q_changePart (I := I) (J := J) hA hk hl hq hk0 (show f < 5 by omega) 1 w3
        show ∃ v' w', (f_X0_changePart q (nI k0) (nI f) 1 (cs I J (ur A q w3) M)).bind _ = _ ∧ _
        rw [e5, Option.bind_some, nI_1]
        exact ih n (f + 1) v4 w5 (by omega) (by omega) (fun k hk' => (h5 k hk').trans ((chg_back A k0 f w1 w3 (fun k hk' => (h3 k hk').trans (h2 k hk')) k hk').trans (hw k hk')))
      split
      · exact fin 1
      · exact fin 2
theorem q_most_21 (hA : AT A M) (hk : mK M q = 100) (hl : mL M q = 25) (hq : 1000 ≤ q) {RC : Nat → Int32 → Int32 → Int32 → zM → Option (Int32 × zM)} {p : Nat} (hp : p < 3) (IH : MOST I J A M q p RC) {e : Nat} (he : e ≤ 25) (w : Nat → Int32) : ∀ (d n k0 : Nat) (v : Int32) (w1 : Nat → Int32), k0 + d = 26 → d < n → (∀ k, k < 25 → w1 k = w k) → ∃ (v' : Int32) (w' : Nat → Int32), f_X0_most_21 RC n q (nI e) (nI (p + 1)) v (nI k0) (cs I J (ur A q w1) M) = some (v', cs I J (ur A q w') M) ∧ ∀ k, k < 25 → w' k = w k := by
  intro d
  induction d with
  | zero =>
    intro n k0 v w1 hi hn hw
    obtain ⟨n, rfl⟩ : ∃ m, n = m + 1 := ⟨n - 1, by omega⟩
    exact ⟨v, w1, by rw [f_X0_most_21, if_pos (le_t e k0 (by omega) (by omega))], hw⟩
  | succ d ih =>
    intro n k0 v w1 hi hn hw
    obtain ⟨n, rfl⟩ : ∃ m, n = m + 1 := ⟨n - 1, by omega⟩
    by_cases z : e ≤ k0
    · exact ⟨v, w1, by rw [f_X0_most_21, if_pos (le_t e k0 z (by omega))], hw⟩
    · rw [f_X0_most_21, if_neg (le_f e k0 (by omega) (by omega))]
      split
      · exact ⟨v, w1, rfl, hw⟩
      · exact q_most_38 hA hk hl hq hp IH (f_X0_most_21 RC n) he (by omega) w (fun v w1 h => ih n (k0 + 1) v w1 (by omega) (by omega) h) 5 zN 0 v w1 rfl (by decide) hw
theorem q_most (hA : AT A M) (hk : mK M q = 100) (hl : mL M q = 25) (hq : 1000 ≤ q) : ∀ (p n : Nat), p < n → p ≤ 3 → MOST I J A M q p (f_X0_most n) := by
  intro p
  induction p with
  | zero =>
    intro n hn _ f e w hf he
    obtain ⟨n, rfl⟩ : ∃ m, n = m + 1 := ⟨n - 1, by omega⟩
    refine ⟨0, w, ?_, fun _ _ => rfl⟩
    rw [f_X0_most]
    unfold f_X0_most_0
    rw [if_pos (le_t (y := 0) 0 0 (by omega) (by decide))]
  | succ p ih =>
    intro n hn hp f e w hf he
    obtain ⟨n, rfl⟩ : ∃ m, n = m + 1 := ⟨n - 1, by omega⟩
    rw [f_X0_most]
    unfold f_X0_most_0
    rw [if_neg (le_f (y := 0) (p + 1) 0 (by omega) (by omega)), if_neg (lt_f (x := 3) 3 (p + 1) (by omega) (by decide)), if_pos (le_t (x := 0) 0 f (by omega) (by omega))]
    exact q_most_21 hA hk hl hq (by omega) (ih n (by omega) (by omega)) he w (26 - f) zN f 0 w (by omega) (by show 26 - f < 130; omega) (fun _ _ => rfl)
end FAR
/-! ===== PURE: far by the class: it comes to an answer, and writes its own five rows alone ===== -/
/-- the rows from q to q + 4 apart -/
def FRM (q : Nat) (A A' : Nat → Nat → Int32) : Prop := ∀ b, b < q ∨ q + 4 < b → A' b = A b
theorem FRM.rf {q : Nat} (A : Nat → Nat → Int32) : FRM q A A := fun _ _ => rfl
theorem FRM.tr {q : Nat} {A B C : Nat → Nat → Int32} (h1 : FRM q A B) (h2 : FRM q B C) : FRM q A C := fun b h => (h2 b h).trans (h1 b h)
theorem FRM.u2 {q b i : Nat} {v : Int32} {A B : Nat → Nat → Int32} (h : FRM q A B) (hb : q ≤ b) (hb2 : b ≤ q + 4) : FRM q A (u2 B b i v) := fun c hc => by
  rw [← h c hc]
  funext j
  exact if_neg (fun z => by have := z.1; omega)
theorem FRM.ur {q b : Nat} {w : Nat → Int32} {A B : Nat → Nat → Int32} (h : FRM q A B) (hb : q ≤ b) (hb2 : b ≤ q + 4) : FRM q A (ur B b w) := fun c hc => by
  rw [← h c hc]
  funext j
  exact if_neg (fun z => by omega)
/-- the object that parts hands, and its five rows -/
def PB (M : zM) (a q : Nat) : Prop := mK M a = 6 ∧ mR M 192 a = some q ∧ mR M 193 a = some (q + 1) ∧ mR M 194 a = some (q + 2) ∧ mR M 195 a = some (q + 3) ∧ mR M 196 a = some (q + 4) ∧ (mK M q = 100 ∧ mL M q = 25) ∧ (∀ i, 1 ≤ i → i ≤ 4 → mK M (q + i) = 100 ∧ mL M (q + i) = 4) ∧ 1000 ≤ q
theorem PB.pa {M : zM} {a q : Nat} (h : PB M a q) : PA M a q := ⟨h.1, h.2.1, h.2.2.2.2.2.2.1⟩
section FARB
variable {I : Nat → Nat → Int32} {J : Nat → Nat → Int64} {A : Nat → Nat → Int32} {M : zM} {a q : Nat}
theorem q_mostF (hA : AT A M) (h : PB M a q) {p f e : Nat} (hp : p ≤ 3) (hf : f < 26) (he : e ≤ 25) (A1 : Nat → Nat → Int32) : ∃ (v : Int32) (A2 : Nat → Nat → Int32), f_X0_most zR q (nI f) (nI e) (nI p) (cs I J A1 M) = some (v, cs I J A2 M) ∧ FRM q A1 A2 := by
  obtain ⟨v, w', e1, -⟩ := q_most (I := I) (J := J) (A := A1) (M := M) (show AT A1 M from hA) h.2.2.2.2.2.2.1.1 h.2.2.2.2.2.2.1.2 h.2.2.2.2.2.2.2.2 p zR (by show p < 64; omega) hp f e (A1 q) hf he
  rw [ur_self] at e1
  exact ⟨v, _, e1, (FRM.rf A1).ur (Nat.le_refl _) (by omega)⟩
theorem q_joinParts_90 (h : PB M a q) {p : Nat} (hp : p ≤ 3) (x y : Int32) (A1 : Nat → Nat → Int32) : ∃ A2, f_X0_joinParts_90 a (nI p) x y (cs I J A1 M) = some ((), cs I J A2 M) ∧ FRM q A1 A2 := by
  obtain ⟨h1, h2, h3, h4, h5, h6, h7, h8, h9⟩ := h
  have r1 := h8 1 (by decide) (by decide)
  have r2 := h8 2 (by decide) (by decide)
  unfold f_X0_joinParts_90
  rw [gR_cs 193 h1 h3, Option.bind_some, tA_cs r1.1 (by omega) (by omega), Option.bind_some, gR_cs 194 h1 h4, Option.bind_some, tA_cs r2.1 (by omega) (by omega), Option.bind_some]
  exact ⟨_, rfl, ((FRM.rf A1).u2 (by omega) (by omega)).u2 (by omega) (by omega)⟩
theorem q_joinParts_7 (h : PB M a q) {p : Nat} (hp : p ≤ 3) : ∀ (d n i : Nat) (x y : Int32) (A1 : Nat → Nat → Int32), i + d = p + 1 → d < n → ∃ A2, f_X0_joinParts_7 n a (nI p) x y (nI i) (cs I J A1 M) = some ((), cs I J A2 M) ∧ FRM q A1 A2 := by
  have hh := h
  obtain ⟨h1, h2, h3, h4, h5, h6, h7, h8, h9⟩ := h
  have r1 := h8 1 (by decide) (by decide)
  have r2 := h8 2 (by decide) (by decide)
  have r3 := h8 3 (by decide) (by decide)
  have r4 := h8 4 (by decide) (by decide)
  intro d
  induction d with
  | zero =>
    intro n i x y A1 hi hn
    obtain ⟨n, rfl⟩ : ∃ m, n = m + 1 := ⟨n - 1, by omega⟩
    rw [f_X0_joinParts_7, if_pos (lt_t p i (by omega) (by omega))]
    exact q_joinParts_90 hh hp x y A1
  | succ d ih =>
    intro n i x y A1 hi hn
    obtain ⟨n, rfl⟩ : ∃ m, n = m + 1 := ⟨n - 1, by omega⟩
    have es : nI p - nI i = nI (p - i) := pk_sub (by omega)
    obtain ⟨v1, m1⟩ := q_max x (A1 (q + 1) i + A1 (q + 3) (p - i)) (cs I J A1 M)
    obtain ⟨v2, m2⟩ := q_max y (A1 (q + 2) i + A1 (q + 3) (p - i)) (cs I J A1 M)
    obtain ⟨v3, m3⟩ := q_max v2 (A1 (q + 1) i + A1 (q + 4) (p - i)) (cs I J A1 M)
    rw [f_X0_joinParts_7, if_neg (lt_f p i (by omega) (by omega)), if_neg (lt_f (x := 3) 3 p hp (by decide)), gR_cs 193 h1 h3, Option.bind_some, lA_cs r1.1 (by omega) (by omega), Option.bind_some, gR_cs 195 h1 h5, Option.bind_some, es, lA_cs r3.1 (by omega) (by omega), Option.bind_some, m1, Option.bind_some]
    show ∃ A2, (gR 6 2 (cs I J A1 M) a).bind _ = _ ∧ _
    rw [gR_cs 194 h1 h4, Option.bind_some]
    show ∃ A2, (lA 0 (cs I J A1 M) (q + 2) (nI i)).bind _ = _ ∧ _
    rw [lA_cs r2.1 (by omega) (by omega), Option.bind_some]
    show ∃ A2, (gR 6 3 (cs I J A1 M) a).bind _ = _ ∧ _
    rw [gR_cs 195 h1 h5, Option.bind_some]
    show ∃ A2, (lA 0 (cs I J A1 M) (q + 3) (nI (p - i))).bind _ = _ ∧ _
    rw [lA_cs r3.1 (by omega) (by omega), Option.bind_some]
    show ∃ A2, (f_J9_max_7cf53 y (A1 (q + 2) i + A1 (q + 3) (p - i)) (cs I J A1 M)).bind _ = _ ∧ _
    rw [m2, Option.bind_some]
    show ∃ A2, (gR 6 1 (cs I J A1 M) a).bind _ = _ ∧ _
    rw [gR_cs 193 h1 h3, Option.bind_some]
    show ∃ A2, (lA 0 (cs I J A1 M) (q + 1) (nI i)).bind _ = _ ∧ _
    rw [lA_cs r1.1 (by omega) (by omega), Option.bind_some]
    show ∃ A2, (gR 6 4 (cs I J A1 M) a).bind _ = _ ∧ _
    rw [gR_cs 196 h1 h6, Option.bind_some]
    show ∃ A2, (lA 0 (cs I J A1 M) (q + 4) (nI (p - i))).bind _ = _ ∧ _
    rw [lA_cs r4.1 (by omega) (by omega), Option.bind_some]
    show ∃ A2, (f_J9_max_7cf53 v2 (A1 (q + 1) i + A1 (q + 4) (p - i)) (cs I J A1 M)).bind _ = _ ∧ _
    rw [m3, Option.bind_some, nI_1]
    exact ih n (i + 1) v1 v3 A1 (by omega) (by omega)
theorem q_joinParts (h : PB M a q) {p : Nat} (hp : p ≤ 3) (A1 : Nat → Nat → Int32) : ∃ A2, f_X0_joinParts a (nI p) (cs I J A1 M) = some ((), cs I J A2 M) ∧ FRM q A1 A2 :=
  q_joinParts_7 h hp (p + 1) zN 0 0 0 A1 (by omega) (by show p + 1 < 130; omega)
theorem q_join_166 (h : PB M a q) : ∀ (d n : Nat) (x : Int32) (A1 : Nat → Nat → Int32), d ≤ 4 → x + 1 = nI d → d < n → ∃ A2, f_X0_join_166 n a x (cs I J A1 M) = some ((), cs I J A2 M) ∧ FRM q A1 A2 := by
  intro d
  induction d with
  | zero =>
    intro n x A1 hd hx hn
    obtain ⟨n, rfl⟩ : ∃ m, n = m + 1 := ⟨n - 1, by omega⟩
    have e : x = -1 := by
      have e2 : x + 1 = 0 := hx
      grind
    subst e
    exact ⟨A1, by rw [f_X0_join_166, if_pos (by decide)], FRM.rf A1⟩
  | succ d ih =>
    intro n x A1 hd hx hn
    obtain ⟨n, rfl⟩ : ∃ m, n = m + 1 := ⟨n - 1, by omega⟩
    have e : x = nI d := by
      rw [← nI_1] at hx
      grind
    subst e
    rw [f_X0_join_166, if_neg (nI_nn (by omega)), if_pos (show mK (cs I J A1 M) a = 6 from h.1)]
    obtain ⟨A2, e2, h2⟩ := q_joinParts (I := I) (J := J) h (show d ≤ 3 by omega) A1
    rw [e2, Option.bind_some]
    obtain ⟨A3, e3, h3⟩ := ih n (nI d + -1) A2 (by omega) (by grind) (by omega)
    exact ⟨A3, e3, h2.tr h3⟩
theorem q_join_159 (h : PB M a q) {p : Nat} (hp : p ≤ 3) (A1 : Nat → Nat → Int32) : ∃ A2, f_X0_join_159 a (nI p) (cs I J A1 M) = some ((), cs I J A2 M) ∧ FRM q A1 A2 := by
  unfold f_X0_join_159
  rw [q_min, Option.bind_some, if_neg (lt_f (x := 3) 3 p hp (by decide))]
  exact q_join_166 h (p + 1) zN (nI p) A1 (by omega) (nI_1 p) (by show p + 1 < 130; omega)
theorem q_join_142 (h : PB M a q) (K : Nat → Int32 → Int32 → Int32 → Int32 → zM → Option (Unit × zM)) (x y z : Int32) {k : Nat} (hk : k < 25) (hK : ∀ A1, ∃ A2, K a x y z (nI (k + 1)) (cs I J A1 M) = some ((), cs I J A2 M) ∧ FRM q A1 A2) (A1 : Nat → Nat → Int32) : ∃ A2, f_X0_join_142 K a x y z (nI k) (cs I J A1 M) = some ((), cs I J A2 M) ∧ FRM q A1 A2 := by
  obtain ⟨h1, h2, h3, h4, h5, h6, h7, h8, h9⟩ := h
  unfold f_X0_join_142
  rw [gR_cs 192 h1 h2, Option.bind_some, lA_cs h7.1 (by omega) (by omega), Option.bind_some, tA_cs h7.1 (by omega) (by omega), Option.bind_some, nI_1]
  obtain ⟨A2, e2, f2⟩ := hK (u2 A1 q k (A1 q k + 2))
  exact ⟨A2, e2, ((FRM.rf A1).u2 (Nat.le_refl _) (by omega)).tr f2⟩
theorem q_join_94 (hA : AT A M) (h : PB M a q) (K : Nat → Int32 → Int32 → Int32 → Int32 → zM → Option (Unit × zM)) {f e p k : Nat} (hf : f < 26) (he : e ≤ 25) (hp : p ≤ 3) (hk : k < 25) (hK : ∀ A1, ∃ A2, K a (nI f) (nI e) (nI p) (nI (k + 1)) (cs I J A1 M) = some ((), cs I J A2 M) ∧ FRM q A1 A2) : ∀ (d n i : Nat) (A1 : Nat → Nat → Int32), i + d = p + 1 → d < n → ∃ A2, f_X0_join_94 K n a (nI f) (nI e) (nI p) (nI k) (nI i) (cs I J A1 M) = some ((), cs I J A2 M) ∧ FRM q A1 A2 := by
  have hh := h
  obtain ⟨h1, h2, h3, h4, h5, h6, h7, h8, h9⟩ := h
  have r4 := h8 4 (by decide) (by decide)
  intro d
  induction d with
  | zero =>
    intro n i A1 hi hn
    obtain ⟨n, rfl⟩ : ∃ m, n = m + 1 := ⟨n - 1, by omega⟩
    rw [f_X0_join_94, if_pos (lt_t p i (by omega) (by omega))]
    exact q_join_142 hh K _ _ _ hk hK A1
  | succ d ih =>
    intro n i A1 hi hn
    obtain ⟨n, rfl⟩ : ∃ m, n = m + 1 := ⟨n - 1, by omega⟩
    rw [f_X0_join_94, if_neg (lt_f p i (by omega) (by omega)), if_neg (lt_f (x := 3) 3 i (by omega) (by decide)), gR_cs 196 h1 h6, Option.bind_some, Option.bind_some, lA_cs r4.1 (by omega) (by omega), Option.bind_some, gR_cs 192 h1 h2, Option.bind_some]
    obtain ⟨v, A2, e2, f2⟩ := q_mostF (I := I) (J := J) hA hh (show i ≤ 3 by omega) hf he A1
    rw [e2, Option.bind_some]
    obtain ⟨v1, m1⟩ := q_max (A1 (q + 4) i) (1 + v) (cs I J A2 M)
    show ∃ A3, (f_J9_max_7cf53 (A1 (q + 4) i) (1 + v) (cs I J A2 M)).bind _ = _ ∧ _
    rw [m1, Option.bind_some]
    show ∃ A3, (tA (cs I J A2 M) (q + 4) (nI i) v1).bind _ = _ ∧ _
    rw [tA_cs r4.1 (by omega) (by omega), Option.bind_some, nI_1]
    obtain ⟨A3, e3, f3⟩ := ih n (i + 1) (u2 A2 (q + 4) i v1) (by omega) (by omega)
    exact ⟨A3, e3, (f2.u2 (by omega) (Nat.le_refl _)).tr f3⟩
theorem q_join_56 (hA : AT A M) (h : PB M a q) {f e p : Nat} (hf : f < 26) (he : e ≤ 25) (hp : p ≤ 3) : ∀ (d n k : Nat) (A1 : Nat → Nat → Int32), k + d = 26 → d < n → ∃ A2, f_X0_join_56 n a (nI f) (nI e) (nI p) (nI k) (cs I J A1 M) = some ((), cs I J A2 M) ∧ FRM q A1 A2 := by
  have hh := h
  obtain ⟨h1, h2, h3, h4, h5, h6, h7, h8, h9⟩ := h
  intro d
  induction d with
  | zero =>
    intro n k A1 hi hn
    obtain ⟨n, rfl⟩ : ∃ m, n = m + 1 := ⟨n - 1, by omega⟩
    rw [f_X0_join_56, if_pos (le_t e k (by omega) (by omega))]
    exact q_join_159 hh hp A1
  | succ d ih =>
    intro n k A1 hi hn
    obtain ⟨n, rfl⟩ : ∃ m, n = m + 1 := ⟨n - 1, by omega⟩
    by_cases z : e ≤ k
    · rw [f_X0_join_56, if_pos (le_t e k z (by omega))]
      exact q_join_159 hh hp A1
    · rw [f_X0_join_56, if_neg (le_f e k (by omega) (by omega)), if_neg (le_f (x := 25) 25 k (by omega) (by decide)), gR_cs 192 h1 h2, Option.bind_some, lA_cs h7.1 (by omega) (by omega), Option.bind_some]
      split
      · rw [nI_1]
        exact ih n (k + 1) A1 (by omega) (by omega)
      · rw [Option.bind_some, lA_cs h7.1 (by omega) (by omega), Option.bind_some, tA_cs h7.1 (by omega) (by omega), Option.bind_some]
        obtain ⟨A2, e2, f2⟩ := q_join_94 (I := I) (J := J) hA hh (f_X0_join_56 n) (f := f) (e := e) (p := p) (k := k) hf he hp (by omega) (fun A1 => ih n (k + 1) A1 (by omega) (by omega)) (p + 1) zN 0 (u2 A1 q k (A1 q k - 2)) (by omega) (by show p + 1 < 130; omega)
        exact ⟨A2, e2, ((FRM.rf A1).u2 (Nat.le_refl _) (by omega)).tr f2⟩
theorem q_join_3 (hA : AT A M) (h : PB M a q) {f e p : Nat} (hf : f < 26) (he : e ≤ 25) (hp : p ≤ 3) : ∀ (d n i : Nat) (A1 : Nat → Nat → Int32), i + d = p + 1 → d < n → ∃ A2, f_X0_join_3 n a (nI f) (nI e) (nI p) (nI i) (cs I J A1 M) = some ((), cs I J A2 M) ∧ FRM q A1 A2 := by
  have hh := h
  obtain ⟨h1, h2, h3, h4, h5, h6, h7, h8, h9⟩ := h
  have r3 := h8 3 (by decide) (by decide)
  have r4 := h8 4 (by decide) (by decide)
  intro d
  induction d with
  | zero =>
    intro n i A1 hi hn
    obtain ⟨n, rfl⟩ : ∃ m, n = m + 1 := ⟨n - 1, by omega⟩
    rw [f_X0_join_3, if_pos (lt_t p i (by omega) (by omega))]
    exact q_join_56 hA hh hf he hp (26 - f) zN f A1 (by omega) (by show 26 - f < 130; omega)
  | succ d ih =>
    intro n i A1 hi hn
    obtain ⟨n, rfl⟩ : ∃ m, n = m + 1 := ⟨n - 1, by omega⟩
    rw [f_X0_join_3, if_neg (lt_f p i (by omega) (by omega)), if_neg (lt_f (x := 3) 3 i (by omega) (by decide)), gR_cs 195 h1 h5, Option.bind_some, gR_cs 192 h1 h2, Option.bind_some]
    obtain ⟨v, A2, e2, f2⟩ := q_mostF (I := I) (J := J) hA hh (show i ≤ 3 by omega) hf he A1
    rw [e2, Option.bind_some]
    show ∃ A3, (tA (cs I J A2 M) (q + 3) (nI i) v).bind _ = _ ∧ _
    rw [tA_cs r3.1 (by omega) (by omega), Option.bind_some, gR_cs 196 h1 h6, Option.bind_some, gR_cs 195 h1 h5, Option.bind_some, lA_cs r3.1 (by omega) (by omega), Option.bind_some, tA_cs r4.1 (by omega) (by omega), Option.bind_some, nI_1]
    obtain ⟨A3, e3, f3⟩ := ih n (i + 1) _ (by omega) (by omega)
    exact ⟨A3, e3, ((f2.u2 (by omega) (by omega)).u2 (by omega) (Nat.le_refl _)).tr f3⟩
theorem q_join (hA : AT A M) (h : PB M a q) {f e p : Nat} (hf : f < 26) (he : e ≤ 25) (hp : p ≤ 3) (A1 : Nat → Nat → Int32) : ∃ A2, f_X0_join a (nI f) (nI e) (nI p) (cs I J A1 M) = some ((), cs I J A2 M) ∧ FRM q A1 A2 :=
  q_join_3 hA h hf he hp (p + 1) zN 0 A1 (by omega) (by show p + 1 < 130; omega)
theorem q_far_29 (hA : AT A M) (h : PB M a q) {p : Nat} (hp : p ≤ 3) : ∀ (d n i : Nat) (A1 : Nat → Nat → Int32), i + d = 4 → d < n → ∃ v A2, f_X0_far_29 n a (nI p) (nI i) (cs I J A1 M) = some (v, cs I J A2 M) ∧ FRM q A1 A2 := by
  have hh := h
  obtain ⟨h1, h2, h3, h4, h5, h6, h7, h8, h9⟩ := h
  have r1 := h8 1 (by decide) (by decide)
  have r2 := h8 2 (by decide) (by decide)
  intro d
  induction d with
  | zero =>
    intro n i A1 hi hn
    obtain ⟨n, rfl⟩ : ∃ m, n = m + 1 := ⟨n - 1, by omega⟩
    rw [f_X0_far_29, if_pos (lt_t (x := 3) 3 i (by omega) (by omega)), if_pos (show mK (cs I J A1 M) a = 6 from h1)]
    obtain ⟨A2, e2, f2⟩ := q_join (I := I) (J := J) hA hh (f := 0) (e := 9) (p := p) (by decide) (by decide) hp A1
    have e2' : f_X0_join a 0 9 (nI p) (cs I J A1 M) = some ((), cs I J A2 M) := e2
    rw [e2', Option.bind_some, if_pos (show mK (cs I J A2 M) a = 6 from h1)]
    obtain ⟨A3, e3, f3⟩ := q_join (I := I) (J := J) hA hh (f := 9) (e := 18) (p := p) (by decide) (by decide) hp A2
    have e3' : f_X0_join a 9 18 (nI p) (cs I J A2 M) = some ((), cs I J A3 M) := e3
    show ∃ v A2', (f_X0_join a 9 18 (nI p) (cs I J A2 M)).bind _ = _ ∧ _
    rw [e3', Option.bind_some, if_pos (show mK (cs I J A3 M) a = 6 from h1)]
    obtain ⟨A4, e4, f4⟩ := q_join (I := I) (J := J) hA hh (f := 18) (e := 25) (p := p) (by decide) (by decide) hp A3
    have e4' : f_X0_join a 18 25 (nI p) (cs I J A3 M) = some ((), cs I J A4 M) := e4
    show ∃ v A2', (f_X0_join a 18 25 (nI p) (cs I J A3 M)).bind _ = _ ∧ _
    rw [e4', Option.bind_some]
    show ∃ v A2', (gR 6 2 (cs I J A4 M) a).bind _ = _ ∧ _
    rw [gR_cs 194 h1 h4, Option.bind_some]
    show ∃ v A2', (lA 0 (cs I J A4 M) (q + 2) (nI p)).bind _ = _ ∧ _
    rw [lA_cs r2.1 (by omega) (by omega), Option.bind_some]
    exact ⟨_, A4, rfl, f2.tr (f3.tr f4)⟩
  | succ d ih =>
    intro n i A1 hi hn
    obtain ⟨n, rfl⟩ : ∃ m, n = m + 1 := ⟨n - 1, by omega⟩
    rw [f_X0_far_29, if_neg (lt_f (x := 3) 3 i (by omega) (by decide)), gR_cs 193 h1 h3, Option.bind_some, tA_cs r1.1 (by omega) (by omega), Option.bind_some, gR_cs 194 h1 h4, Option.bind_some, tA_cs r2.1 (by omega) (by omega), Option.bind_some, nI_1]
    obtain ⟨v, A2, e2, f2⟩ := ih n (i + 1) _ (by omega) (by omega)
    exact ⟨v, A2, e2, (((FRM.rf A1).u2 (by omega) (by omega)).u2 (by omega) (by omega)).tr f2⟩
theorem q_far (hA : AT A M) (h : PB M a q) {t N : Nat} (ht : mK M t = 100 ∧ mL M t = 25) (htq : t ≠ q) (hN : N ≤ 3) (A1 : Nat → Nat → Int32) : ∃ v A2, f_X0_far a t (nI N) (cs I J A1 M) = some (v, cs I J A2 M) ∧ FRM q A1 A2 := by
  unfold f_X0_far f_X0_far_0
  have e : (3 : Int32) - nI N = nI (3 - N) := pk_sub (a := 3) (b := N) hN
  rw [if_pos (le_t (x := 0) 0 N (Nat.zero_le _) (by omega)), if_pos (le_t (y := 3) N 3 hN (by decide)), e]
  unfold f_X0_far_20
  rw [if_pos (show mK (cs I J A1 M) a = 6 from h.1)]
  obtain ⟨w', e1, -⟩ := q_copy (I := I) (J := J) (A := A1) h.pa ht htq (A1 q)
  rw [ur_self] at e1
  rw [e1, Option.bind_some]
  obtain ⟨v, A2, e2, f2⟩ := q_far_29 (I := I) (J := J) hA h (show 3 - N ≤ 3 by omega) 4 zN 0 (ur A1 q w') rfl (by decide)
  exact ⟨v, A2, e2, ((FRM.rf A1).ur (Nat.le_refl _) (by omega)).tr f2⟩
end FARB
/-! ===== PURE: the class as a whole: its shape, what it asks itself ===== -/
/-- the class's objects and rows, by their places -/
def CSH (M : zM) : Prop := mK M 1000 = 9 ∧ mR M 288 1000 = some 1001 ∧ mR M 289 1000 = some 1002 ∧ mR M 290 1000 = some 1008 ∧ (mK M 1001 = 111 ∧ mL M 1001 = 4 ∧ ∀ p, p < 4 → mQ M 1001 p = some (1010 + 4 * p)) ∧ PB M 1002 1003 ∧ (mK M 1008 = 8 ∧ mR M 256 1008 = some 1009 ∧ mK M 1009 = 100 ∧ mL M 1009 = 25) ∧ (∀ p, p < 4 → SE M (1010 + 4 * p) (1011 + 4 * p) (1012 + 4 * p) (1013 + 4 * p)) ∧ (∀ b, 1 ≤ b → b ≤ 3 → mK M b = 200 ∧ mL M b = 5)
theorem sm_nI (f : Nat → Int32) (g : Nat → Nat) : ∀ (d i : Nat), (∀ k, i ≤ k → k < i + d → f k = nI (g k)) → sm f i d = nI (sn g i d) := by
  intro d
  induction d with
  | zero => exact fun i _ => rfl
  | succ d ih =>
    intro i h
    rw [sm, sn, h i (Nat.le_refl _) (by omega), ih (i + 1) (fun k q1 q2 => h k (by omega) (by omega)), nI_add]
theorem u2_back {α : Type} (A : Nat → Nat → α) (t k : Nat) (v w : α) (h : w = A t k) : u2 (u2 A t k v) t k w = A := by
  funext i j
  unfold u2
  by_cases q : i = t ∧ j = k
  · rw [if_pos q, h, q.1, q.2]
  · rw [if_neg q, if_neg q]
theorem u2_ur_ne {α : Type} (A : Nat → Nat → α) {t q : Nat} (k : Nat) (v : α) (w : Nat → α) (h : t ≠ q) : u2 (ur A q w) t k v = ur (u2 A t k v) q w := by
  funext i j
  unfold u2 ur
  by_cases y : i = t ∧ j = k
  · rw [if_pos y, if_neg (by omega)]
    exact (if_pos y).symm
  · rw [if_neg y]
    by_cases z : i = q
    · rw [if_pos z, if_pos z]
    · rw [if_neg z, if_neg z]
      exact (if_neg y).symm
/-- the waits, as a set -/
def wt : Nat → Nat → (Nat → Nat) → Int64 → Int64
  | 0, _, _, acc => acc
  | d + 1, i, g, acc => wt d (i + 1) g (if cmp 25 0 (u1 g i (g i + 1)) = true then acc ||| ((1 : Int64) <<< ((nI i).toInt64 &&& 63)) else acc)
/-- the waits of a hand with so many sets -/
def wts (N : Nat) (g : Nat → Nat) : Int64 := if sn g 0 25 + 3 * N = 10 then wt 25 0 g 0 else 0
section CLS
variable {I : Nat → Nat → Int32} {J : Nat → Nat → Int64} {A : Nat → Nat → Int32} {M : zM}
theorem lQ_cs {b i v t : Nat} (ht : t < 3) (hk : mK M b = 110 + t) (hi : i < mL M b) (hL : mL M b < 2 ^ 31) (hv : mQ M b i = some v) : lQ t (cs I J A M) b (nI i) = some v := by
  have e : lQ t (cs I J A M) b (nI i) = mQ M b (nI i).toNatClampNeg := if_pos ⟨Or.inl ⟨hk, ht⟩, nI_oob hi hL⟩
  rw [e, nI_cl (by omega), hv]
theorem CSH.seat (h : CSH M) {p : Nat} (hp : p < 4) : lQ 1 (cs I J A M) 1001 (nI p) = some (1010 + 4 * p) := lQ_cs (by decide) h.2.2.2.2.1.1 (by rw [h.2.2.2.2.1.2.1]; exact hp) (by rw [h.2.2.2.2.1.2.1]; decide) (h.2.2.2.2.1.2.2 p hp)
theorem q_seatInTurn (h : CSH M) {p : Nat} (hp : p < 4) (ht : I 296 1000 = nI p) : f_X3_seatInTurn 1000 (cs I J A M) = some (1010 + 4 * p, cs I J A M) := by
  unfold f_X3_seatInTurn f_X3_seatInTurn_0
  rw [gI_cs 296 h.1, Option.bind_some, ht, if_neg (nI_nn (by omega)), Option.bind_some, if_neg (le_f (x := 4) 4 p (by omega) (by decide)), gR_cs 288 h.1 h.2.1, Option.bind_some, Option.bind_some, h.seat hp, Option.bind_some]
theorem q_waitsOf_16 (h : CSH M) {p : Nat} (hp : p < 4) {g : Nat → Nat} (hw : ∀ k, k < 25 → A (1011 + 4 * p) k = nI (g k)) (hg : ∀ k, k < 25 → g k < 900) : ∀ (d n i : Nat) (acc : Int64) (w : Nat → Int32), i + d = 25 → d < n → ∃ w', f_X3_waitsOf_16 n 1000 (1010 + 4 * p) acc (nI i) (cs I J (ur A 1003 w) M) = some (wt d i g acc, cs I J (ur A 1003 w') M) := by
  have hs := h.2.2.2.2.2.2.2.1 p hp
  have hpb := h.2.2.2.2.2.1
  have ht : mK M (1011 + 4 * p) = 100 ∧ mL M (1011 + 4 * p) = 25 := hs.2.2.2.2.1
  intro d
  induction d with
  | zero =>
    intro n i acc w hi hn
    obtain ⟨n, rfl⟩ : ∃ m, n = m + 1 := ⟨n - 1, by omega⟩
    refine ⟨w, ?_⟩
    rw [f_X3_waitsOf_16, if_pos (le_t (x := 25) 25 i (by omega) (by omega)), wt]
  | succ d ih =>
    intro n i acc w hi hn
    obtain ⟨n, rfl⟩ : ∃ m, n = m + 1 := ⟨n - 1, by omega⟩
    have hgi := hg i (by omega)
    have et : ur A 1003 w (1011 + 4 * p) i = nI (g i) := (ur_ne A i w (by omega)).trans (hw i (by omega))
    rw [f_X3_waitsOf_16, if_neg (le_f (x := 25) 25 i (by omega) (by decide)), if_pos (show mK (cs I J (ur A 1003 w) M) (1010 + 4 * p) = 7 from hs.1), q_change hs (by omega) 1, Option.bind_some, et, nI_1]
    show ∃ w', (gR 9 1 (cs I J _ M) 1000).bind _ = _
    rw [gR_cs 289 h.1 h.2.2.1, Option.bind_some]
    show ∃ w', (gR 7 0 (cs I J _ M) (1010 + 4 * p)).bind _ = _
    rw [gR_cs 224 hs.1 hs.2.1, Option.bind_some, if_pos (show mK (cs I J _ M) 1002 = 6 from hpb.1), u2_ur_ne A i (nI (g i + 1)) w (by omega)]
    obtain ⟨w1, e1⟩ := q_complete (I := I) (J := J) (A := ur (u2 A (1011 + 4 * p) i (nI (g i + 1))) 1003 w) (M := M) (a := 1002) (q := 1003) (t := 1011 + 4 * p) (g := u1 g i (g i + 1)) hpb.pa ht (by omega) (fun k hk => by
      rw [ur_ne _ k w (by omega)]
      by_cases y : k = i
      · rw [y, u1_at]; exact if_pos ⟨rfl, rfl⟩
      · rw [u1_ne _ _ y, ← hw k hk]; exact if_neg (fun z => y z.2)) (fun k hk => by
      by_cases y : k = i
      · rw [y, u1_at]; omega
      · rw [u1_ne _ _ y]; have := hg k hk; omega)
    rw [ur_ur] at e1
    show ∃ w', (f_X0_complete 1002 (1011 + 4 * p) (cs I J (ur (u2 A (1011 + 4 * p) i (nI (g i + 1))) 1003 w) M)).bind _ = _
    rw [e1, Option.bind_some, wt]
    have back : ∀ a2 : Int64, ∃ w', f_X3_waitsOf_51 (f_X3_waitsOf_16 n) 1000 (1010 + 4 * p) a2 (nI i) (cs I J (ur (u2 A (1011 + 4 * p) i (nI (g i + 1))) 1003 w1) M) = some (wt d (i + 1) g a2, cs I J (ur A 1003 w') M) := fun a2 => by
      unfold f_X3_waitsOf_51
      have e2 : ur (u2 A (1011 + 4 * p) i (nI (g i + 1))) 1003 w1 (1011 + 4 * p) i = nI (g i + 1) := (ur_ne _ i w1 (by omega)).trans (if_pos ⟨rfl, rfl⟩)
      rw [if_pos (show mK (cs I J _ M) (1010 + 4 * p) = 7 from hs.1), q_change hs (by omega) (-1), Option.bind_some, e2, pk_m1, u2_ur_ne _ i _ w1 (by omega), u2_back A (1011 + 4 * p) i _ _ (hw i (by omega)).symm, nI_1]
      exact ih n (i + 1) a2 w1 (by omega) (by omega)
    show ∃ w', (if b32 (cmp 25 0 (u1 g i (g i + 1))) = 0 then _ else _) = _
    by_cases y : cmp 25 0 (u1 g i (g i + 1)) = true
    · rw [y, if_neg (show ¬ b32 true = 0 by decide), if_pos rfl]
      exact back _
    · have y' : cmp 25 0 (u1 g i (g i + 1)) = false := by cases hx : cmp 25 0 (u1 g i (g i + 1)); rfl; exact absurd hx y
      rw [y', if_pos (show b32 false = 0 from rfl), if_neg (by decide)]
      exact back _
theorem q_sizeN {a t s r : Nat} (h : SE M a t s r) {g : Nat → Nat} {N : Nat} (hw : ∀ k, k < 25 → A t k = nI (g k)) (hN : I 228 a = nI N) : f_X1_size a (cs I J A M) = some (nI (sn g 0 25 + 3 * N), cs I J A M) := by
  rw [q_size h, hN, sm_nI (A t) g 25 0 (fun k _ q => hw k (by omega)), show (3 : Int32) = nI 3 from rfl, pk_mul, nI_add]
theorem q_waitsOf (h : CSH M) {p : Nat} (hp : p < 4) {g : Nat → Nat} {N : Nat} (hw : ∀ k, k < 25 → A (1011 + 4 * p) k = nI (g k)) (hg : ∀ k, k < 25 → g k < 900) (hs9 : sn g 0 25 < 10000) (hN : I 228 (1010 + 4 * p) = nI N) (hN3 : N ≤ 3) : ∃ w', f_X3_waitsOf 1000 (1010 + 4 * p) (cs I J A M) = some (wts N g, cs I J (ur A 1003 w') M) := by
  have hs := h.2.2.2.2.2.2.2.1 p hp
  unfold f_X3_waitsOf f_X3_waitsOf_0
  rw [if_pos (show mK (cs I J A M) (1010 + 4 * p) = 7 from hs.1), q_sizeN hs hw hN, Option.bind_some]
  unfold wts
  by_cases y : sn g 0 25 + 3 * N = 10
  · show ∃ w', (if nI (sn g 0 25 + 3 * N) = 10 then _ else _) = _
    rw [y, if_pos (show nI 10 = 10 from rfl), if_pos rfl]
    obtain ⟨w', e⟩ := q_waitsOf_16 (I := I) (J := J) (A := A) h hp hw hg 25 zN 0 0 (A 1003) rfl (by decide)
    rw [ur_self] at e
    exact ⟨w', e⟩
  · refine ⟨A 1003, ?_⟩
    rw [ur_self, if_neg (eq_f (y := 10) (sn g 0 25 + 3 * N) 10 y (by omega) (by decide)), if_neg y]
theorem lg_cmp_0 (x y : Int64) : lg_cmp x y = 0 ↔ x = y := by
  unfold lg_cmp
  repeat' split
  all_goals first | (constructor <;> intro h <;> first | assumption | rfl | (exact absurd h (by decide)) | grind) | grind
theorem q_tilesLeft (h : CSH M) {r d f : Nat} (hr : I 298 1000 = nI r) (hr2 : r < 2 ^ 31) (hd : I 293 1000 = nI d) (hf : I 294 1000 = nI f) (hdf : d + f ≤ 60) : f_X3_tilesLeft 1000 (cs I J A M) = some (nI (if r = 0 then 0 else 60 - d - f), cs I J A M) := by
  unfold f_X3_tilesLeft f_X3_tilesLeft_0
  rw [gI_cs 298 h.1, Option.bind_some, hr]
  by_cases y : r = 0
  · subst y
    rw [if_pos (show nI 0 = 0 from rfl), if_pos rfl]
    rfl
  · rw [if_neg (eq_f (y := 0) r 0 y hr2 (by decide)), gI_cs 293 h.1, Option.bind_some, gI_cs 294 h.1, Option.bind_some, hd, hf, if_neg y]
    have e1 : (60 : Int32) - nI d = nI (60 - d) := pk_sub (a := 60) (b := d) (by omega)
    rw [e1, pk_sub (by omega)]
theorem q_canDraw (h : CSH M) {r d f : Nat} (hr : I 298 1000 = nI r) (hr2 : r < 2 ^ 31) (hd : I 293 1000 = nI d) (hf : I 294 1000 = nI f) (hdf : d + f ≤ 60) : f_X3_canDraw 1000 (cs I J A M) = some (b32 (decide (r ≠ 0 ∧ 24 < 60 - d - f)), cs I J A M) := by
  unfold f_X3_canDraw f_X3_canDraw_0
  rw [if_pos (show mK (cs I J A M) 1000 = 9 from h.1), q_tilesLeft h hr hr2 hd hf hdf, Option.bind_some]
  show (if nI (if r = 0 then 0 else 60 - d - f) ≤ 24 then _ else _) = _
  by_cases y : r ≠ 0 ∧ 24 < 60 - d - f
  · rw [decide_eq_true y, if_neg y.1, if_neg (le_f (y := 24) (60 - d - f) 24 y.2 (by omega))]
    rfl
  · rw [decide_eq_false y, if_pos (le_t (y := 24) (if r = 0 then 0 else 60 - d - f) 24 (by split <;> omega) (by decide))]
    rfl
theorem q_fourAllowed (h : CSH M) {r d f : Nat} (hr : I 298 1000 = nI r) (hr2 : r < 2 ^ 31) (hd : I 293 1000 = nI d) (hf : I 294 1000 = nI f) (hdf : d + f ≤ 60) : f_X3_fourAllowed 1000 (cs I J A M) = some (b32 (decide (f < 4 ∧ r ≠ 0 ∧ 24 < 60 - d - f)), cs I J A M) := by
  unfold f_X3_fourAllowed f_X3_fourAllowed_0
  rw [gI_cs 294 h.1, Option.bind_some, hf]
  by_cases y : 4 ≤ f
  · rw [if_pos (le_t (x := 4) 4 f y (by omega)), decide_eq_false (by omega)]
    rfl
  · rw [if_neg (le_f (x := 4) 4 f (by omega) (by decide)), if_pos (show mK (cs I J A M) 1000 = 9 from h.1), q_canDraw h hr hr2 hd hf hdf, Option.bind_some]
    show (if b32 (decide (r ≠ 0 ∧ 24 < 60 - d - f)) = 0 then _ else _) = _
    by_cases z : r ≠ 0 ∧ 24 < 60 - d - f
    · rw [decide_eq_true z, decide_eq_true (by omega), if_neg (show ¬ b32 true = 0 by decide)]
      rfl
    · rw [decide_eq_false z, decide_eq_false (by omega), if_pos (show b32 false = 0 from rfl)]
      rfl
theorem q_kindAt (h : CSH M) {st sh : Nat} (h1 : I 291 1000 = nI st) (h2 : I 292 1000 = nI sh) (hst : st < 100) (hsh : sh < 100) {t : Nat} (ht : t < 100) : f_X3_kindAt 1000 (nI t) (cs I J A M) = some (nI ((st * t + sh) % 100 / 4), cs I J A M) := by
  have hm : st * t < 100 * 100 := Nat.mul_lt_mul'' hst ht
  unfold f_X3_kindAt f_X3_kindAt_0
  rw [gI_cs 291 h.1, Option.bind_some, gI_cs 292 h.1, Option.bind_some, h1, h2, pk_mul, nI_add]
  have e1 : zmd (nI (st * t + sh)) 100 = nI ((st * t + sh) % 100) := pk_rem (a := st * t + sh) (d := 100) (by omega) (by decide) (by decide)
  have e2 : nI ((st * t + sh) % 100) / 4 = nI ((st * t + sh) % 100 / 4) := pk_div (a := (st * t + sh) % 100) (d := 4) (by omega) (by decide) (by decide)
  rw [e1, e2]
theorem q_readyWithout (h : CSH M) {p : Nat} (hp : p < 4) {g : Nat → Nat} {N k : Nat} (hw : ∀ k, k < 25 → A (1011 + 4 * p) k = nI (g k)) (hg : ∀ k, k < 25 → g k < 900) (hs9 : sn g 0 25 < 10000) (hN : I 228 (1010 + 4 * p) = nI N) (hN3 : N ≤ 3) (hk : k < 25) (hgk : g k ≠ 0) : ∃ w', f_X3_readyWithout 1000 (1010 + 4 * p) (nI k) (cs I J A M) = some (b32 (decide (wts N (u1 g k (g k - 1)) ≠ 0)), cs I J (ur A 1003 w') M) := by
  have hs := h.2.2.2.2.2.2.2.1 p hp
  have em : nI (g k) + -1 = nI (g k - 1) := by
    obtain ⟨j, hj⟩ : ∃ j, g k = j + 1 := ⟨g k - 1, by omega⟩
    rw [hj, pk_m1]
    rfl
  have hsn := sn_u1 g k (g k - 1) 25 0 (Nat.zero_le _) (by omega)
  unfold f_X3_readyWithout f_X3_readyWithout_0
  rw [if_pos (show mK (cs I J A M) (1010 + 4 * p) = 7 from hs.1), q_change hs hk (-1), Option.bind_some, if_pos (show mK (cs I J _ M) 1000 = 9 from h.1), hw k hk, em]
  obtain ⟨w', e⟩ := q_waitsOf (I := I) (J := J) (A := u2 A (1011 + 4 * p) k (nI (g k - 1))) (M := M) h hp (g := u1 g k (g k - 1)) (N := N) (fun j hj => by
    by_cases y : j = k
    · rw [y, u1_at]; exact if_pos ⟨rfl, rfl⟩
    · rw [u1_ne _ _ y, ← hw j hj]; exact if_neg (fun z => y z.2)) (fun j hj => by
    have := hg j hj
    by_cases y : j = k
    · rw [y, u1_at]; have := hg k hk; omega
    · rw [u1_ne _ _ y]; omega) (by omega) hN hN3
  show ∃ w', (f_X3_waitsOf 1000 (1010 + 4 * p) (cs I J (u2 A (1011 + 4 * p) k (nI (g k - 1))) M)).bind _ = _
  rw [e, Option.bind_some]
  have back : ∀ b : Bool, f_X3_readyWithout_21 (1010 + 4 * p) (nI k) (b32 b) (cs I J (ur (u2 A (1011 + 4 * p) k (nI (g k - 1))) 1003 w') M) = some (b32 b, cs I J (ur A 1003 w') M) := fun b => by
    unfold f_X3_readyWithout_21
    have e2 : ur (u2 A (1011 + 4 * p) k (nI (g k - 1))) 1003 w' (1011 + 4 * p) k = nI (g k - 1) := (ur_ne _ k w' (by omega)).trans (if_pos ⟨rfl, rfl⟩)
    rw [if_pos (show mK (cs I J _ M) (1010 + 4 * p) = 7 from hs.1), q_change hs hk 1, Option.bind_some, if_pos (b32_or b), e2, nI_1, u2_ur_ne _ k _ w' (by omega), u2_back A (1011 + 4 * p) k _ _ (by rw [hw k hk]; exact congrArg nI (by omega))]
  refine ⟨w', ?_⟩
  show (if lg_cmp (wts N (u1 g k (g k - 1))) 0 = 0 then _ else _) = _
  by_cases y : wts N (u1 g k (g k - 1)) = 0
  · rw [if_pos ((lg_cmp_0 _ _).mpr y), decide_eq_false (fun z => z y)]
    exact back false
  · rw [if_neg (fun z => y ((lg_cmp_0 _ _).mp z)), decide_eq_true y]
    exact back true
end CLS
/-! ===== PURE: the value by the class: it comes to an answer, and writes its own row alone ===== -/
def VA (M : zM) (a v : Nat) : Prop := mK M a = 8 ∧ mR M 256 a = some v ∧ mK M v = 100 ∧ mL M v = 25
section VAL
variable {I : Nat → Nat → Int32} {J : Nat → Nat → Int64} {A : Nat → Nat → Int32} {M : zM} {a v b t s r N : Nat}
theorem q_gather_2 (h : VA M a v) (hs : SE M b t s r) (hv : v ≠ t ∧ v ≠ s) (hN : I 228 b = nI N) (hN3 : N ≤ 3) : ∀ (d n i : Nat) (w : Nat → Int32), i + d = 25 → d < n → ∃ w', f_X2_gather_2 n a b (nI i) (cs I J (ur A v w) M) = some ((), cs I J (ur A v w') M) := by
  obtain ⟨h1, h2, h3, h4⟩ := h
  intro d
  induction d with
  | zero =>
    intro n i w hi hn
    obtain ⟨n, rfl⟩ : ∃ m, n = m + 1 := ⟨n - 1, by omega⟩
    exact ⟨w, by rw [f_X2_gather_2, if_pos (le_t (x := 25) 25 i (by omega) (by omega))]⟩
  | succ d ih =>
    intro n i w hi hn
    obtain ⟨n, rfl⟩ : ∃ m, n = m + 1 := ⟨n - 1, by omega⟩
    rw [f_X2_gather_2, if_neg (le_f (x := 25) 25 i (by omega) (by decide)), gR_cs 256 h1 h2, Option.bind_some, if_pos (show mK (cs I J _ M) b = 7 from hs.1), q_count hs (by omega), Option.bind_some, if_pos (show mK (cs I J _ M) b = 7 from hs.1)]
    show ∃ w', (f_X1_inSets b (nI i) (cs I J (ur A v w) M)).bind _ = _
    rw [q_inSets hs hN hN3, Option.bind_some, tA_cs h3 (by omega) (by omega), Option.bind_some, u2_ur, nI_1]
    exact ih n (i + 1) _ (by omega) (by omega)
theorem q_gather (h : VA M a v) (hs : SE M b t s r) (hv : v ≠ t ∧ v ≠ s) (hN : I 228 b = nI N) (hN3 : N ≤ 3) : ∃ w', f_X2_gather a b (cs I J A M) = some ((), cs I J (ur A v w') M) := by
  obtain ⟨w', e⟩ := q_gather_2 (J := J) (A := A) h hs hv hN hN3 25 zN 0 (A v) rfl (by decide)
  rw [ur_self] at e
  exact ⟨w', e⟩
theorem q_anyOf_2 (h : VA M a v) (e : Nat) (he : e ≤ 25) : ∀ (d n i : Nat), i + d = 26 → d < n → ∃ x, f_X2_anyOf_2 n a (nI e) (nI i) (cs I J A M) = some (x, cs I J A M) := by
  obtain ⟨h1, h2, h3, h4⟩ := h
  intro d
  induction d with
  | zero =>
    intro n i hi hn
    obtain ⟨n, rfl⟩ : ∃ m, n = m + 1 := ⟨n - 1, by omega⟩
    exact ⟨0, by rw [f_X2_anyOf_2, if_neg (nI_nn (by omega)), if_pos (le_t e i (by omega) (by omega))]⟩
  | succ d ih =>
    intro n i hi hn
    obtain ⟨n, rfl⟩ : ∃ m, n = m + 1 := ⟨n - 1, by omega⟩
    by_cases z : e ≤ i
    · exact ⟨0, by rw [f_X2_anyOf_2, if_neg (nI_nn (by omega)), if_pos (le_t e i z (by omega))]⟩
    · rw [f_X2_anyOf_2, if_neg (nI_nn (by omega)), if_neg (le_f e i (by omega) (by omega)), if_neg (le_f (x := 25) 25 i (by omega) (by decide)), gR_cs 256 h1 h2, Option.bind_some, lA_cs h3 (by omega) (by omega), Option.bind_some]
      split
      · rw [nI_1]
        exact ih n (i + 1) (by omega) (by omega)
      · exact ⟨1, rfl⟩
theorem q_anyOf (h : VA M a v) (f e : Nat) (he : e ≤ 25) (hf : f ≤ 26) : ∃ x, f_X2_anyOf a (nI f) (nI e) (cs I J A M) = some (x, cs I J A M) :=
  q_anyOf_2 h e he (26 - f) zN f (by omega) (by show 26 - f < 130; omega)
theorem q_ofOneSuit (h : VA M a v) : ∃ x, f_X2_ofOneSuit a (cs I J A M) = some (x, cs I J A M) := by
  obtain ⟨x1, e1⟩ := q_anyOf (I := I) (J := J) (A := A) h 0 9 (by decide) (by decide)
  obtain ⟨x2, e2⟩ := q_anyOf (I := I) (J := J) (A := A) h 9 18 (by decide) (by decide)
  obtain ⟨x3, e3⟩ := q_anyOf (I := I) (J := J) (A := A) h 18 25 (by decide) (by decide)
  have e1' : f_X2_anyOf a 0 9 (cs I J A M) = some (x1, cs I J A M) := e1
  have e2' : f_X2_anyOf a 9 18 (cs I J A M) = some (x2, cs I J A M) := e2
  have e3' : f_X2_anyOf a 18 25 (cs I J A M) = some (x3, cs I J A M) := e3
  unfold f_X2_ofOneSuit f_X2_ofOneSuit_0
  rw [if_pos (show mK (cs I J A M) a = 8 from h.1), e1', Option.bind_some, if_pos (show mK (cs I J A M) a = 8 from h.1)]
  show ∃ x, (f_X2_anyOf a 9 18 (cs I J A M)).bind _ = _
  rw [e2', Option.bind_some]
  show ∃ x, (if x1 = x2 then _ else _) = _
  split
  · exact ⟨0, rfl⟩
  · rw [if_pos (show mK (cs I J A M) a = 8 from h.1)]
    show ∃ x, (f_X2_anyOf a 18 25 (cs I J A M)).bind _ = _
    rw [e3', Option.bind_some]
    show ∃ x, (if x3 = 0 then _ else _) = _
    split
    · exact ⟨4, rfl⟩
    · exact ⟨2, rfl⟩
theorem q_setOf (h : VA M a v) (x : Int32) : ∃ y, f_X2_setOf a x (cs I J A M) = some (y, cs I J A M) := by
  obtain ⟨h1, h2, h3, h4⟩ := h
  unfold f_X2_setOf f_X2_setOf_0
  split
  · exact ⟨0, rfl⟩
  · rename_i z1
    split
    · exact ⟨0, rfl⟩
    · rename_i z2
      rcases pk_ix x (n := 25) (by decide) with q | q | ⟨j, q1, rfl⟩
      · exact absurd (Int32.lt_trans q (by decide)) z1
      · exact absurd q z2
      · rw [gR_cs 256 h1 h2, Option.bind_some, lA_cs h3 (by omega) (by omega), Option.bind_some]
        split
        · exact ⟨0, rfl⟩
        · exact ⟨1, rfl⟩
theorem q_woEnds (h : VA M a v) : ∀ (d n i : Nat), i + d = 25 → d < n → ∃ x, f_X2_withoutEndsAndHonours_2 n a (nI i) (cs I J A M) = some (x, cs I J A M) := by
  obtain ⟨h1, h2, h3, h4⟩ := h
  intro d
  induction d with
  | zero =>
    intro n i hi hn
    obtain ⟨n, rfl⟩ : ∃ m, n = m + 1 := ⟨n - 1, by omega⟩
    exact ⟨1, by rw [f_X2_withoutEndsAndHonours_2, if_pos (le_t (x := 25) 25 i (by omega) (by omega))]⟩
  | succ d ih =>
    intro n i hi hn
    obtain ⟨n, rfl⟩ : ∃ m, n = m + 1 := ⟨n - 1, by omega⟩
    have k29 : ∀ y : Int32, ∃ x, f_X2_withoutEndsAndHonours_29 (f_X2_withoutEndsAndHonours_2 n) a (nI i) y (cs I J A M) = some (x, cs I J A M) := fun y => by
      unfold f_X2_withoutEndsAndHonours_29
      rw [gR_cs 256 h1 h2, Option.bind_some, lA_cs h3 (by omega) (by omega), Option.bind_some, nI_1]
      split
      · exact ih n (i + 1) (by omega) (by omega)
      · split
        · exact ⟨0, rfl⟩
        · split
          · exact ih n (i + 1) (by omega) (by omega)
          · exact ⟨0, rfl⟩
    rw [f_X2_withoutEndsAndHonours_2, if_neg (le_f (x := 25) 25 i (by omega) (by decide))]
    split
    · exact k29 1
    · split
      · exact k29 1
      · exact k29 0
theorem q_woRows (hs : SE M b t s r) (hN : I 228 b = nI N) (hN3 : N ≤ 3) : ∀ (d n i : Nat) (y : Int32), i + d = 25 → d < n → ∃ x, f_X2_withoutRows_4 n b y (nI i) (cs I J A M) = some (x, cs I J A M) := by
  intro d
  induction d with
  | zero =>
    intro n i y hi hn
    obtain ⟨n, rfl⟩ : ∃ m, n = m + 1 := ⟨n - 1, by omega⟩
    rw [f_X2_withoutRows_4, if_pos (le_t (x := 25) 25 i (by omega) (by omega))]
    split
    · obtain ⟨x, e, -, -⟩ := q_rowLies (J := J) (A := A) hs hN hN3
      rw [if_pos (show mK (cs I J A M) b = 7 from hs.1), e, Option.bind_some]
      show ∃ z, (if x = 0 then _ else _) = _
      split
      · exact ⟨1, rfl⟩
      · exact ⟨0, rfl⟩
    · exact ⟨0, rfl⟩
  | succ d ih =>
    intro n i y hi hn
    obtain ⟨n, rfl⟩ : ∃ m, n = m + 1 := ⟨n - 1, by omega⟩
    rw [f_X2_withoutRows_4, if_neg (le_f (x := 25) 25 i (by omega) (by decide)), if_pos (show mK (cs I J A M) b = 7 from hs.1), q_count hs (by omega), Option.bind_some, nI_1]
    show ∃ z, (if zmd (A t i) 3 = 1 then _ else _) = _
    split
    · exact ⟨0, rfl⟩
    · split
      · exact ih n (i + 1) _ (by omega) (by omega)
      · exact ih n (i + 1) _ (by omega) (by omega)
theorem q_value_144 (h : VA M a v) (x y : Int32) : ∃ z, f_X2_value_144 a x y (cs I J A M) = some (z, cs I J A M) := by
  unfold f_X2_value_144
  obtain ⟨z, e⟩ := q_ofOneSuit (I := I) (J := J) (A := A) h
  rw [if_pos (show mK (cs I J A M) a = 8 from h.1), e, Option.bind_some, q_min, Option.bind_some]
  exact ⟨_, rfl⟩
theorem q_value_127 (h : VA M a v) (hs : SE M b t s r) (hN : I 228 b = nI N) (hN3 : N ≤ 3) (x y : Int32) : ∃ z, f_X2_value_127 a b x y (cs I J A M) = some (z, cs I J A M) := by
  unfold f_X2_value_127 f_X2_withoutRows f_X2_withoutRows_0
  obtain ⟨z, e⟩ := q_woRows (J := J) (A := A) hs hN hN3 25 zN 0 0 rfl (by decide)
  have e' : f_X2_withoutRows_4 zN b 0 0 (cs I J A M) = some (z, cs I J A M) := e
  rw [e', Option.bind_some]
  show ∃ u, (if z = 0 then _ else _) = _
  split
  · exact q_value_144 h _ _
  · exact q_value_144 h _ _
theorem q_value_75 (h : VA M a v) (hs : SE M b t s r) (hN : I 228 b = nI N) (hN3 : N ≤ 3) (wd : Int32) : ∀ (d n i : Nat) (y : Int32), i + d = 25 → d < n → ∃ z, f_X2_value_75 n a b wd y (nI i) (cs I J A M) = some (z, cs I J A M) := by
  intro d
  induction d with
  | zero =>
    intro n i y hi hn
    obtain ⟨n, rfl⟩ : ∃ m, n = m + 1 := ⟨n - 1, by omega⟩
    obtain ⟨x1, e1⟩ := q_setOf (I := I) (J := J) (A := A) h (18 + wd)
    obtain ⟨x2, e2⟩ := q_woEnds (I := I) (J := J) (A := A) h 25 zN 0 rfl (by decide)
    have e2' : f_X2_withoutEndsAndHonours a (cs I J A M) = some (x2, cs I J A M) := e2
    rw [f_X2_value_75, if_pos (le_t (x := 25) 25 i (by omega) (by omega)), if_pos (show mK (cs I J A M) a = 8 from h.1), e1, Option.bind_some, if_pos (show mK (cs I J A M) a = 8 from h.1)]
    show ∃ u, (f_X2_withoutEndsAndHonours a (cs I J A M)).bind _ = _
    rw [e2', Option.bind_some]
    show ∃ u, (if x2 = 0 then _ else _) = _
    split
    · exact q_value_127 h hs hN hN3 _ _
    · exact q_value_127 h hs hN hN3 _ _
  | succ d ih =>
    intro n i y hi hn
    obtain ⟨n, rfl⟩ : ∃ m, n = m + 1 := ⟨n - 1, by omega⟩
    obtain ⟨x1, e1⟩ := q_setOf (I := I) (J := J) (A := A) h (nI i)
    rw [f_X2_value_75, if_neg (le_f (x := 25) 25 i (by omega) (by decide)), if_pos (show mK (cs I J A M) a = 8 from h.1), e1, Option.bind_some, nI_1]
    exact ih n (i + 1) _ (by omega) (by omega)
theorem q_value_68 (h : VA M a v) (hs : SE M b t s r) (hN : I 228 b = nI N) (hN3 : N ≤ 3) (wd x y : Int32) : ∃ z, f_X2_value_68 a b wd x y (cs I J A M) = some (z, cs I J A M) :=
  q_value_75 h hs hN hN3 wd 3 zN 22 _ rfl (by decide)
theorem q_value_43 (h : VA M a v) (hs : SE M b t s r) (hN : I 228 b = nI N) (hN3 : N ≤ 3) (lk wd x y : Int32) : ∃ z, f_X2_value_43 a b lk wd x y (cs I J A M) = some (z, cs I J A M) := by
  have h' := h
  obtain ⟨h1, h2, h3, h4⟩ := h
  unfold f_X2_value_43
  split
  · exact q_value_68 h' hs hN hN3 _ _ _
  · rename_i z1
    split
    · exact q_value_68 h' hs hN hN3 _ _ _
    · rename_i z2
      rcases pk_ix lk (n := 25) (by decide) with q | q | ⟨j, q1, rfl⟩
      · exact absurd q z1
      · exact absurd q z2
      · rw [gR_cs 256 h1 h2, Option.bind_some, lA_cs h3 (by omega) (by omega), Option.bind_some]
        exact q_value_68 h' hs hN hN3 _ _ _
theorem q_value_22 (h : VA M a v) (hs : SE M b t s r) (hN : I 228 b = nI N) (hN3 : N ≤ 3) (al lk wd x y : Int32) : ∃ z, f_X2_value_22 a b al lk wd x y (cs I J A M) = some (z, cs I J A M) := by
  unfold f_X2_value_22
  split
  · exact q_value_43 h hs hN hN3 _ _ _ _
  · rw [if_pos (show mK (cs I J A M) b = 7 from hs.1), q_openSets hs hN hN3, Option.bind_some]
    show ∃ u, (if sm (fun j => if A s j / 100 = 3 then 0 else 1) 0 N = 0 then _ else _) = _
    split
    · exact q_value_43 h hs hN hN3 _ _ _ _
    · exact q_value_43 h hs hN hN3 _ _ _ _
theorem q_value (h : VA M a v) (hs : SE M b t s r) (hv : v ≠ t ∧ v ≠ s) (hN : I 228 b = nI N) (hN3 : N ≤ 3) (al lk wd : Int32) : ∃ z w', f_X2_value a b al lk wd (cs I J A M) = some (z, cs I J (ur A v w') M) := by
  unfold f_X2_value f_X2_value_0
  obtain ⟨w', e⟩ := q_gather (J := J) (A := A) h hs hv hN hN3
  rw [if_pos (show mK (cs I J A M) a = 8 from h.1), e, Option.bind_some]
  show ∃ z w'', (gI 7 6 (cs I J (ur A v w') M) b).bind _ = _
  rw [gI_cs 230 hs.1, Option.bind_some]
  split
  · obtain ⟨z, e2⟩ := q_value_22 (J := J) (A := ur A v w') h hs hN hN3 al lk wd 0 1
    exact ⟨z, w', e2⟩
  · obtain ⟨z, e2⟩ := q_value_22 (J := J) (A := ur A v w') h hs hN hN3 al lk wd 1 1
    exact ⟨z, w', e2⟩
end VAL
