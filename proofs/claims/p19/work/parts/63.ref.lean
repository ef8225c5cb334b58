/-! ===== PURE, THE REFERENCE: far comes to an answer ===== -/
theorem sn_lt (f g : Nat → Nat) (a : Nat) : ∀ (d i : Nat), (∀ k, f k ≤ g k) → i ≤ a → a < i + d → f a < g a → sn f i d < sn g i d := by
  intro d
  induction d with
  | zero => intro i _ h1 h2 _; omega
  | succ d ih =>
    intro i hle h1 h2 h3
    have hi := hle i
    rw [sn, sn]
    by_cases y : a = i
    · have : sn f (i + 1) d ≤ sn g (i + 1) d := by
        have mono : ∀ d i, sn f i d ≤ sn g i d := by
          intro d
          induction d with
          | zero => exact fun i => Nat.le_refl _
          | succ d ih2 => intro i; rw [sn, sn]; exact Nat.add_le_add (hle i) (ih2 (i + 1))
        exact mono d (i + 1)
      rw [y] at h3
      omega
    · have := ih (i + 1) hle (by omega) (by omega) h3
      omega
/-- how many of three are it -/
def ct3 (a b c k : Nat) : Nat := (if k = a then 1 else 0) + (if k = b then 1 else 0) + (if k = c then 1 else 0)
theorem ct3_le (a b c k : Nat) : ct3 a b c k ≤ 3 := by
  unfold ct3
  repeat' split
  all_goals omega
theorem dn3 (w : Nat → Int32) (a b c k : Nat) (hk : k < 25) (x : Nat) (hx : w k = nI x) : (if c < 25 then u1 (u1 (u1 w a (w a - 1)) b (u1 w a (w a - 1) b - 1)) c (u1 (u1 w a (w a - 1)) b (u1 w a (w a - 1) b - 1) c - 1) k else u1 (u1 w a (w a - 1)) b (u1 w a (w a - 1) b - 1) k) = nI x - nI (ct3 a b c k) := by
  have n0 : nI 0 = 0 := rfl
  have n1 : nI 1 = 1 := rfl
  have n2 : nI 2 = 2 := rfl
  have n3 : nI 3 = 3 := rfl
  unfold ct3 u1
  by_cases h1 : k = a <;> by_cases h2 : k = b <;> by_cases h3 : k = c <;> by_cases h4 : c < 25 <;> simp only [h4, if_true, if_false] <;> first | (subst h1; subst h2; subst h3) | (subst h1; subst h2) | (subst h1; subst h3) | (subst h2; subst h3) | subst h1 | subst h2 | subst h3 | skip
  all_goals simp_all
  all_goals grind
theorem up3 (w : Nat → Int32) (a b c k : Nat) (hk : k < 25) (x : Nat) (hx : w k = nI x - nI (ct3 a b c k)) : (if c < 25 then u1 (u1 (u1 w a (w a + 1)) b (u1 w a (w a + 1) b + 1)) c (u1 (u1 w a (w a + 1)) b (u1 w a (w a + 1) b + 1) c + 1) k else u1 (u1 w a (w a + 1)) b (u1 w a (w a + 1) b + 1) k) = nI x := by
  have n0 : nI 0 = 0 := rfl
  have n1 : nI 1 = 1 := rfl
  have n2 : nI 2 = 2 := rfl
  have n3 : nI 3 = 3 := rfl
  unfold ct3 at hx
  unfold u1
  by_cases h1 : k = a <;> by_cases h2 : k = b <;> by_cases h3 : k = c <;> by_cases h4 : c < 25 <;> simp only [h4, if_true, if_false] <;> first | (subst h1; subst h2; subst h3) | (subst h1; subst h2) | (subst h1; subst h3) | (subst h2; subst h3) | subst h1 | subst h2 | subst h3 | skip
  all_goals simp_all
  all_goals grind
section RFAR
variable {I : Nat → Nat → Int32} {J : Nat → Nat → Int64} {A : Nat → Nat → Int32} {M : zM} {h : Nat}
/-- a recursive call on fewer tiles comes to an answer, and leaves the hand -/
def FSP (I : Nat → Nat → Int32) (J : Nat → Nat → Int64) (A : Nat → Nat → Int32) (M : zM) (h T : Nat) (RC : Nat → Int32 → Int32 → Int32 → Int32 → zM → Option (Int32 × zM)) : Prop :=
  ∀ (g : Nat → Nat) (w : Nat → Int32), (∀ k, k < 25 → w k = nI (g k)) → (∀ k, k < 25 → g k < 1000) → sn g 0 25 < T → ∀ i, i < 26 → ∀ s t p, ∃ v w', RC h (nI i) s t p (cs I J (ur A h w) M) = some (v, cs I J (ur A h w') M) ∧ ∀ k, k < 25 → w' k = w k
theorem r_with_77 (hk : mK M h = 100) (hl : mL M h = 25) (RC : Nat → Int32 → Int32 → Int32 → Int32 → zM → Option (Int32 × zM)) {a b c : Nat} (ha : a < 25) (hb : b < 25) {i3 : Int32} (h3 : (c < 25 ∧ i3 = nI c) ∨ (¬ c < 25 ∧ i3 = -1)) (v : Int32) {g : Nat → Nat} {R : Nat → Int32} (hR : ∀ k, k < 25 → R k = nI (g k) - nI (ct3 a b c k)) : ∃ w', f_X7_with_77 RC h (nI a) (nI b) i3 v (cs I J (ur A h R) M) = some (v, cs I J (ur A h w') M) ∧ ∀ k, k < 25 → w' k = nI (g k) := by
  unfold f_X7_with_77
  rw [lA_cs hk (by omega) (by omega), Option.bind_some, ur_at, tA_cs hk (by omega) (by omega), Option.bind_some, u2_ur, lA_cs hk (by omega) (by omega), Option.bind_some, ur_at, tA_cs hk (by omega) (by omega), Option.bind_some, u2_ur]
  rcases h3 with ⟨c1, rfl⟩ | ⟨c1, rfl⟩
  · have ne : ¬ nI c = -1 := fun z => by
      have e2 : nI c < 0 := by rw [z]; decide
      exact nI_nn (by omega) e2
    refine ⟨u1 (u1 (u1 R a (R a + 1)) b (u1 R a (R a + 1) b + 1)) c (u1 (u1 R a (R a + 1)) b (u1 R a (R a + 1) b + 1) c + 1), ?_, fun k hk9 => ?_⟩
    · rw [if_neg ne, lA_cs hk (by omega) (by omega), Option.bind_some, ur_at, tA_cs hk (by omega) (by omega), Option.bind_some, u2_ur]
    · have e := up3 R a b c k hk9 (g k) (hR k hk9)
      rw [if_pos c1] at e
      exact e
  · refine ⟨u1 (u1 R a (R a + 1)) b (u1 R a (R a + 1) b + 1), by rw [if_pos rfl], fun k hk9 => ?_⟩
    have e := up3 R a b c k hk9 (g k) (hR k hk9)
    rw [if_neg c1] at e
    exact e
theorem r_with_26 (hk : mK M h = 100) (hl : mL M h = 25) {T : Nat} {RC : Nat → Int32 → Int32 → Int32 → Int32 → zM → Option (Int32 × zM)} (IH : FSP I J A M h T RC) {a b c : Nat} (ha : a < 25) (hb : b < 25) {i3 : Int32} (h3 : (c < 25 ∧ i3 = nI c) ∨ (¬ c < 25 ∧ i3 = -1)) (s t p : Int32) {g : Nat → Nat} {R : Nat → Int32} (hR : ∀ k, k < 25 → R k = nI (g k) - nI (ct3 a b c k)) (hg : ∀ k, k < 25 → g k < 1000) (hs : sn g 0 25 < T + 1) : ∃ v w', f_X7_with_26 RC h (nI a) (nI b) i3 s t p (cs I J (ur A h R) M) = some (v, cs I J (ur A h w') M) ∧ ∀ k, k < 25 → w' k = nI (g k) := by
  have e53 : ∃ v w', f_X7_with_53 RC h (nI a) (nI b) i3 s t p (cs I J (ur A h R) M) = some (v, cs I J (ur A h w') M) ∧ ∀ k, k < 25 → w' k = nI (g k) := by
    unfold f_X7_with_53 f_X7_with_54
    rw [if_pos rfl]
    exact ⟨6, r_with_77 hk hl RC ha hb h3 6 hR⟩
  have pos : ∀ k, k < 25 → ¬ R k < 0 → ct3 a b c k ≤ g k := fun k hk9 hn => Nat.le_of_not_lt fun q => hn (by
    rw [hR k hk9]
    exact pk_sneg (by have := ct3_le a b c k; omega) q)
  have e49 : ¬ R a < 0 → ¬ R b < 0 → (c < 25 → ¬ R c < 0) → ∃ v w', f_X7_with_49 RC h (nI a) (nI b) i3 s t p (cs I J (ur A h R) M) = some (v, cs I J (ur A h w') M) ∧ ∀ k, k < 25 → w' k = nI (g k) := fun p1 p2 p3 => by
    have hle : ∀ k, k < 25 → ct3 a b c k ≤ g k := fun k hk9 => by
      by_cases y1 : k = a
      · exact pos k hk9 (y1 ▸ p1)
      · by_cases y2 : k = b
        · exact pos k hk9 (y2 ▸ p2)
        · by_cases y3 : k = c
          · exact pos k hk9 (by rw [y3]; exact p3 (by omega))
          · unfold ct3
            rw [if_neg y1, if_neg y2, if_neg y3]
            exact Nat.zero_le _
    have hct : 1 ≤ ct3 a b c a := by
      unfold ct3
      rw [if_pos rfl]
      omega
    have hlt := sn_lt (fun k => g k - ct3 a b c k) g a 25 0 (fun k => Nat.sub_le _ _) (Nat.zero_le _) (by omega) (by have := hle a ha; show g a - ct3 a b c a < g a; omega)
    obtain ⟨v, w', q1, q2⟩ := IH (fun k => g k - ct3 a b c k) R (fun k hk9 => by rw [hR k hk9, pk_sub (hle k hk9)]) (fun k hk9 => by have := hg k hk9; show g k - _ < 1000; omega) (by omega) a (by omega) s t p
    unfold f_X7_with_49 f_X7_with_54
    rw [if_neg (show ¬ (1 : Int32) = 0 by decide), q1, Option.bind_some]
    exact ⟨v, r_with_77 hk hl RC ha hb h3 v (fun k hk9 => (q2 k hk9).trans (hR k hk9))⟩
  unfold f_X7_with_26
  rw [lA_cs hk (by omega) (by omega), Option.bind_some, ur_at]
  by_cases y1 : R a < 0
  · rw [if_pos y1]; exact e53
  · rw [if_neg y1, lA_cs hk (by omega) (by omega), Option.bind_some, ur_at]
    by_cases y2 : R b < 0
    · rw [if_pos y2]; exact e53
    · rw [if_neg y2]
      rcases h3 with ⟨c1, rfl⟩ | ⟨c1, rfl⟩
      · have ne : ¬ nI c = -1 := fun z => by
          have e2 : nI c < 0 := by rw [z]; decide
          exact nI_nn (by omega) e2
        rw [if_neg ne, lA_cs hk (by omega) (by omega), Option.bind_some, ur_at]
        by_cases y3 : R c < 0
        · rw [if_pos y3]; exact e53
        · rw [if_neg y3]; exact e49 y1 y2 (fun _ => y3)
      · rw [if_pos rfl]
        exact e49 y1 y2 (fun q => absurd q c1)
theorem r_with (hk : mK M h = 100) (hl : mL M h = 25) {T : Nat} {RC : Nat → Int32 → Int32 → Int32 → Int32 → zM → Option (Int32 × zM)} (IH : FSP I J A M h T RC) {a b c : Nat} (ha : a < 25) (hb : b < 25) {i3 : Int32} (h3 : (c < 25 ∧ i3 = nI c) ∨ (¬ c < 25 ∧ i3 = -1)) (s t p : Int32) {g : Nat → Nat} {w : Nat → Int32} (hw : ∀ k, k < 25 → w k = nI (g k)) (hg : ∀ k, k < 25 → g k < 1000) (hs : sn g 0 25 < T + 1) : ∃ v w', f_X7_with RC h (nI a) (nI b) i3 s t p (cs I J (ur A h w) M) = some (v, cs I J (ur A h w') M) ∧ ∀ k, k < 25 → w' k = nI (g k) := by
  unfold f_X7_with f_X7_with_0
  rw [lA_cs hk (by omega) (by omega), Option.bind_some, ur_at, tA_cs hk (by omega) (by omega), Option.bind_some, u2_ur, lA_cs hk (by omega) (by omega), Option.bind_some, ur_at, tA_cs hk (by omega) (by omega), Option.bind_some, u2_ur]
  have h3' := h3
  rcases h3 with ⟨c1, rfl⟩ | ⟨c1, rfl⟩
  · have ne : ¬ nI c = -1 := fun z => by
      have e2 : nI c < 0 := by rw [z]; decide
      exact nI_nn (by omega) e2
    rw [if_neg ne, lA_cs hk (by omega) (by omega), Option.bind_some, ur_at, tA_cs hk (by omega) (by omega), Option.bind_some, u2_ur]
    refine r_with_26 hk hl IH ha hb h3' s t p (fun k hk9 => ?_) hg hs
    have e := dn3 w a b c k hk9 (g k) (hw k hk9)
    rw [if_pos c1] at e
    exact e
  · rw [if_pos rfl]
    refine r_with_26 hk hl IH ha hb h3' s t p (fun k hk9 => ?_) hg hs
    have e := dn3 w a b c k hk9 (g k) (hw k hk9)
    rw [if_neg c1] at e
    exact e
/-- any of the later steps comes to an answer -/
def FAN (I : Nat → Nat → Int32) (J : Nat → Nat → Int64) (A : Nat → Nat → Int32) (M : zM) (h : Nat) (g : Nat → Nat) (f : Nat → Int32 → Int32 → Int32 → Int32 → Int32 → zM → Option (Int32 × zM)) (a : Nat) : Prop :=
  ∀ (s t p x : Int32) (w : Nat → Int32), (∀ k, k < 25 → w k = nI (g k)) → ∃ v w', f h s t p (nI a) x (cs I J (ur A h w) M) = some (v, cs I J (ur A h w') M) ∧ ∀ k, k < 25 → w' k = nI (g k)
theorem r_far_251 (hk : mK M h = 100) (hl : mL M h = 25) {T : Nat} {RC : Nat → Int32 → Int32 → Int32 → Int32 → zM → Option (Int32 × zM)} (IH : FSP I J A M h T RC) {a : Nat} (ha : a < 25) {g : Nat → Nat} (hg : ∀ k, k < 25 → g k < 1000) (hs : sn g 0 25 < T + 1) (hp : g a ≠ 0) : FAN I J A M h g (f_X7_far_251 RC) a := by
  intro s t p x w hw
  unfold f_X7_far_251
  have em : nI (g a) - 1 = nI (g a - 1) := pk_sub (a := g a) (b := 1) (Nat.pos_of_ne_zero hp)
  have eb : nI (g a - 1) + 1 = nI (g a) := (nI_add (g a - 1) 1).trans (congrArg nI (by omega))
  have hsn := sn_u1 g a (g a - 1) 25 0 (Nat.zero_le _) (by omega)
  obtain ⟨v, w1, q1, q2⟩ := IH (u1 g a (g a - 1)) (u1 w a (nI (g a - 1))) (fun k hk9 => by
    by_cases y : k = a
    · rw [y, u1_at, u1_at]
    · rw [u1_ne _ _ y, u1_ne _ _ y, hw k hk9]) (fun k hk9 => by
    have := hg k hk9
    by_cases y : k = a
    · rw [y, u1_at]; have := hg a ha; omega
    · rw [u1_ne _ _ y]; exact this) (by omega) a (by omega) s t p
  rw [lA_cs hk (by omega) (by omega), Option.bind_some, ur_at, hw a ha, em, tA_cs hk (by omega) (by omega), Option.bind_some, u2_ur, q1, Option.bind_some]
  dsimp only
  rw [q_min, Option.bind_some]
  dsimp only
  rw [lA_cs hk (by omega) (by omega), Option.bind_some, ur_at, q2 a ha, u1_at, eb, tA_cs hk (by omega) (by omega), Option.bind_some, u2_ur]
  refine ⟨_, u1 w1 a (nI (g a)), rfl, fun k hk9 => ?_⟩
  by_cases y : k = a
  · rw [y, u1_at]
  · rw [u1_ne _ _ y, q2 k hk9, u1_ne _ _ y, hw k hk9]
end RFAR
