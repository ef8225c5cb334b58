/-! ===== PURE: far by the reference, exactly ===== -/
theorem pus_ge {q : Nat × Nat} {L : List (Nat × Nat)} (h : q ∈ L) (k : Nat) : ptn q k ≤ pus L k := by
  obtain ⟨L', -, b, -⟩ := prm h
  rw [b k]
  exact Nat.le_add_right _ _
theorem pu_s (l : Nat) : pu (some l) l = 2 := if_pos rfl
section SQS
variable {n m a base j : Nat} {g : Nat → Nat} {X v : Nat}
theorem MB.shift {i b : Nat} (h0 : ∀ k, i ≤ k → k < a → g k = 0) (hia : i ≤ a) (ha : a ≤ 25) (x : MB n m a 25 g b) : MB n m i 25 g b := by
  obtain ⟨⟨L, h, y, z⟩, w⟩ := x
  refine ⟨⟨L, h, ⟨y.1, y.2.1, fun q hq => ⟨(y.2.2.1 q hq).1, Nat.le_trans hia (y.2.2.1 q hq).2.1, (y.2.2.1 q hq).2.2⟩, fun l hl => ⟨Nat.le_trans hia (y.2.2.2.1 l hl).1, (y.2.2.2.1 l hl).2⟩, y.2.2.2.2⟩, z⟩, fun L h y => w L h ⟨y.1, y.2.1, fun q hq => ⟨(y.2.2.1 q hq).1, ?_, (y.2.2.1 q hq).2.2⟩, fun l hl => ⟨?_, (y.2.2.2.1 l hl).2⟩, y.2.2.2.2⟩⟩
  · have h1 := y.2.2.1 q hq
    refine Nat.le_of_not_lt fun c => ?_
    have h2 := h0 q.1 h1.2.1 c
    have h3 := y.2.2.2.2 q.1 (by omega)
    have h4 := pus_ge hq q.1
    have h5 : ptn q q.1 = ptk q.2 0 := ptn_0 q.1 q.2
    have h6 := ptk_0 q.2
    omega
  · have h1 := y.2.2.2.1 l hl
    refine Nat.le_of_not_lt fun c => ?_
    have h2 := h0 l h1.1 c
    have h3 := y.2.2.2.2 l (by omega)
    rw [hl, pu_s] at h3
    omega
/-- the best so far: with a part of a form below j at a, or (past the forms) the pair there -/
def SQ (n m a base j : Nat) (g : Nat → Nat) (X : Nat) : Prop := (∃ L h, OB n m a 25 g L h ∧ base + (pvl L + pv h) = X) ∧ ∀ L h, OB n m a 25 g L h → ((∃ q, q ∈ L ∧ q.1 = a ∧ q.2 < j) ∨ (5 < j ∧ h = some a)) → base + (pvl L + pv h) ≤ X
theorem SQ.le (x : SQ n m a base j g X) : X ≤ base + (2 * n + m) ∧ base ≤ X := by
  obtain ⟨⟨L, h, y, rfl⟩, -⟩ := x
  have := y.le
  omega
theorem SQ.init (n m a base : Nat) (g : Nat → Nat) : SQ n m a base 0 g base := ⟨⟨[], none, OB.nil g _ _ _ _, rfl⟩, fun L h _ z => by
  rcases z with ⟨q, _, _, q3⟩ | ⟨z, _⟩
  · exact absurd q3 (Nat.not_lt_zero _)
  · exact absurd z (by decide)⟩
theorem SQ.skip (hj : j < 5) (z : ∀ L h, OB n m a 25 g L h → ∀ q, q ∈ L → q.1 = a → q.2 ≠ j) (x : SQ n m a base j g X) : SQ n m a base (j + 1) g X :=
  ⟨x.1, fun L h y c => x.2 L h y (Or.inl (by
    rcases c with ⟨q, q1, q2, q3⟩ | ⟨c, _⟩
    · have := z L h y q q1 q2
      exact ⟨q, q1, q2, by omega⟩
    · omega))⟩
theorem SQ.n0 (hn : n = 0) {i : Nat} (hi : i ≤ 5) (x : SQ n m a base j g X) : SQ n m a base i g X :=
  ⟨x.1, fun L h y c => by
    rcases c with ⟨q, q1, _, _⟩ | ⟨c, _⟩
    · have e := List.eq_nil_of_length_eq_zero (Nat.le_zero.mp (hn ▸ y.1))
      subst e
      exact absurd q1 List.not_mem_nil
    · omega⟩
theorem SQ.no (hj : j < 5) (z : ¬ (pok (a, j) ∧ ∀ k, k < 25 → ptn (a, j) k ≤ g k)) (x : SQ n m a base j g X) : SQ n m a base (j + 1) g X :=
  x.skip hj fun L h y q q1 q2 q3 => by
    obtain ⟨l, f⟩ := q
    have e1 : l = a := q2
    have e2 : f = j := q3
    subst e1; subst e2
    exact z ⟨(y.2.2.1 _ q1).1, fun k hk => Nat.le_trans (Nat.le_trans (pus_ge q1 k) (Nat.le_add_right _ _)) (y.2.2.2.2 k hk)⟩
theorem SQ.take (hj : j < 5) (ha : a < 25) (hn : n ≠ 0) (hp : pok (a, j)) (hu : ∀ k, k < 25 → ptn (a, j) k ≤ g k) (w : MB (n - 1) m a 25 (fun k => g k - ptn (a, j) k) v) (x : SQ n m a base j g X) : SQ n m a base (j + 1) g (max X (base + pvf j + v)) := by
  refine ⟨?_, fun L h y c => ?_⟩
  · by_cases c : X ≤ base + pvf j + v
    · rw [Nat.max_eq_right c]
      obtain ⟨⟨L, h, y, z⟩, -⟩ := w
      refine ⟨(a, j) :: L, h, ⟨?_, y.2.1, fun q hq => ?_, y.2.2.2.1, fun k hk => ?_⟩, ?_⟩
      · rw [List.length_cons]; have := y.1; omega
      · rcases List.mem_cons.mp hq with rfl | hq
        · exact ⟨hp, Nat.le_refl _, ha⟩
        · exact y.2.2.1 q hq
      · have h1 := y.2.2.2.2 k hk
        have h1 : pus L k + pu h k ≤ g k - ptn (a, j) k := h1
        have h2 := hu k hk
        rw [pus]
        omega
      · rw [pvl]
        show base + (pvf j + pvl L + pv h) = _
        omega
    · rw [Nat.max_eq_left (by omega)]
      exact x.1
  · rcases c with ⟨q, q1, q2, q3⟩ | ⟨c, _⟩
    · by_cases e2 : q.2 = j
      · obtain ⟨l, f⟩ := q
        have e1 : l = a := q2
        have e2 : f = j := e2
        subst e1; subst e2
        obtain ⟨L', a1, b1, c1, d1⟩ := prm q1
        have ob : OB (n - 1) m l 25 (fun k => g k - ptn (l, f) k) L' h := ⟨by have := y.1; omega, y.2.1, fun r hr => y.2.2.1 r (d1 r hr), y.2.2.2.1, fun k hk => by
          have h1 := y.2.2.2.2 k hk
          rw [b1 k] at h1
          show pus L' k + pu h k ≤ g k - ptn (l, f) k
          omega⟩
        have h2 := w.2 L' h ob
        have a1 : pvl L = pvf f + pvl L' := a1
        have := Nat.le_max_right X (base + pvf f + v)
        omega
      · exact Nat.le_trans (x.2 L h y (Or.inl ⟨q, q1, q2, by omega⟩)) (Nat.le_max_left _ _)
    · omega
theorem SQ.pairNo (z : m = 0 ∨ g a < 2) (ha : a < 25) (x : SQ n m a base 5 g X) : SQ n m a base 6 g X :=
  ⟨x.1, fun L h y c => by
    rcases c with ⟨q, q1, q2, q3⟩ | ⟨_, c⟩
    · exact x.2 L h y (Or.inl ⟨q, q1, q2, (y.2.2.1 q q1).1.1⟩)
    · subst c
      have h1 := y.2.1
      have h2 := y.2.2.2.2 a ha
      rw [pu_s] at h2
      have h3 : pv (some a) = 1 := rfl
      omega⟩
theorem SQ.pair (hm : m ≠ 0) (ha : a < 25) (h2 : 2 ≤ g a) (w : MB n 0 a 25 (u1 g a (g a - 2)) v) (x : SQ n m a base 5 g X) : SQ n m a base 6 g (max X (base + 1 + v)) := by
  have pk : ∀ k, pu (some a) k = if k = a then 2 else 0 := fun k => by
    unfold pu
    by_cases y : k = a
    · rw [if_pos y, if_pos (by rw [y])]
    · rw [if_neg y, if_neg (fun z => y (Option.some.inj z).symm)]
  refine ⟨?_, fun L h y c => ?_⟩
  · by_cases c : X ≤ base + 1 + v
    · rw [Nat.max_eq_right c]
      obtain ⟨⟨L, h, y, z⟩, -⟩ := w
      have hn := pv_0 y.2.1
      subst hn
      refine ⟨L, some a, ⟨y.1, Nat.pos_of_ne_zero hm, y.2.2.1, fun l hl => by cases hl; exact ⟨Nat.le_refl _, ha⟩, fun k hk => ?_⟩, ?_⟩
      · have h1 := y.2.2.2.2 k hk
        have h1 : pus L k + 0 ≤ u1 g a (g a - 2) k := h1
        rw [pk]
        by_cases c : k = a
        · subst c
          rw [u1_at] at h1
          rw [if_pos rfl]
          omega
        · rw [u1_ne _ _ c] at h1
          rw [if_neg c]
          exact h1
      · have z : pvl L + 0 = v := z
        show base + (pvl L + 1) = _
        omega
    · rw [Nat.max_eq_left (by omega)]
      exact x.1
  · rcases c with ⟨q, q1, q2, q3⟩ | ⟨_, c⟩
    · exact Nat.le_trans (x.2 L h y (Or.inl ⟨q, q1, q2, (y.2.2.1 q q1).1.1⟩)) (Nat.le_max_left _ _)
    · subst c
      have ob : OB n 0 a 25 (u1 g a (g a - 2)) L none := ⟨y.1, Nat.le_refl _, y.2.2.1, fun l hl => (by cases hl), fun k hk => by
        have h1 := y.2.2.2.2 k hk
        rw [pk] at h1
        show pus L k + 0 ≤ _
        by_cases c : k = a
        · subst c
          rw [if_pos rfl] at h1
          rw [u1_at]
          omega
        · rw [if_neg c] at h1
          rw [u1_ne _ _ c]
          exact h1⟩
      have h3 := w.2 L none ob
      have h3 : pvl L + 0 ≤ v := h3
      have h4 : pv (some a) = 1 := rfl
      have := Nat.le_max_right X (base + 1 + v)
      omega
theorem SQ.drop (ha : a < 25) (h1 : g a ≠ 0) (w : MB n m a 25 (u1 g a (g a - 1)) v) (x : SQ n m a base 6 g X) : ∃ b, max X (base + v) = base + b ∧ MB n m a 25 g b := by
  have up : ∀ L h, OB n m a 25 (u1 g a (g a - 1)) L h → OB n m a 25 g L h := fun L h y => y.gg fun k hk => by
    by_cases c : k = a
    · subst c; rw [u1_at]; omega
    · rw [u1_ne _ _ c]; exact Nat.le_refl _
  have hx := x.le
  refine ⟨max X (base + v) - base, by omega, ?_, fun L h y => ?_⟩
  · by_cases c : X ≤ base + v
    · obtain ⟨⟨L, h, y, z⟩, -⟩ := w
      refine ⟨L, h, up L h y, ?_⟩
      rw [Nat.max_eq_right c]
      omega
    · obtain ⟨L, h, y, z⟩ := x.1
      refine ⟨L, h, y, ?_⟩
      rw [Nat.max_eq_left (by omega)]
      omega
  · by_cases c : (∃ q, q ∈ L ∧ q.1 = a ∧ q.2 < 6) ∨ (5 < 6 ∧ h = some a)
    · have := x.2 L h y c
      have := Nat.le_max_left X (base + v)
      omega
    · have hlo : ∀ q, q ∈ L → a + 1 ≤ q.1 := fun q hq => by
        have h2 := y.2.2.1 q hq
        by_cases e : q.1 = a
        · exact absurd (Or.inl ⟨q, hq, e, by have := h2.1.1; omega⟩) c
        · omega
      have hh : ∀ l, h = some l → l ≠ a := fun l hl e => c (Or.inr ⟨by decide, by rw [hl, e]⟩)
      have ob : OB n m a 25 (u1 g a (g a - 1)) L h := ⟨y.1, y.2.1, y.2.2.1, y.2.2.2.1, fun k hk => by
        by_cases e : k = a
        · subst e
          rw [pus_lo (Nat.lt_succ_self _) hlo, pu_o hh]
          exact Nat.zero_le _
        · rw [u1_ne _ _ e]
          exact y.2.2.2.2 k hk⟩
      have := w.2 L h ob
      have := Nat.le_max_right X (base + v)
      omega
end SQS
theorem x_min6 {X Y : Nat} (hX : X < 8) (hY : Y < 8) (M : zM) : f_J9_min_7cf53 (6 - nI X) (6 - nI Y) M = some (6 - nI (max X Y), M) := by
  have key : ∀ X, X < 8 → ∀ Y, Y < 8 → (if (6 : Int32) - nI Y < 6 - nI X then (6 : Int32) - nI Y else 6 - nI X) = 6 - nI (max X Y) := by decide
  rw [q_min, key X hX Y hY]
theorem cq_0 (a k : Nat) : ct3 a a a k = ptn (a, 0) k := by
  by_cases y0 : k = a
  · subst y0; rw [ptn_0]; unfold ct3; rw [if_pos rfl]; rfl
  · have : ptn (a, 0) k = 0 := by
      unfold ptn
      split
      · rename_i z
        show ptk 0 (k - a) = 0
        unfold ptk
        rw [if_pos rfl, if_neg (by have z : a ≤ k := z; omega)]
      · rfl
    rw [this]; unfold ct3; rw [if_neg y0]
theorem cq_1 (a k : Nat) : ct3 a (a + 1) (a + 2) k = ptn (a, 1) k := by
  unfold ct3
  by_cases y0 : k = a
  · subst y0; rw [ptn_0, if_pos rfl, if_neg (by omega), if_neg (by omega)]; rfl
  · by_cases y1 : k = a + 1
    · subst y1; rw [ptn_1, if_neg (by omega), if_pos rfl, if_neg (by omega)]; rfl
    · by_cases y2 : k = a + 2
      · subst y2; rw [ptn_2, if_neg (by omega), if_neg (by omega), if_pos rfl]; rfl
      · rw [ptn_o a 1 y0 y1 y2, if_neg y0, if_neg y1, if_neg y2]
theorem cq_2 (a k : Nat) (hk : k < 25) : ct3 a a 100 k = ptn (a, 2) k := by
  unfold ct3
  rw [if_neg (show ¬ k = 100 by omega)]
  by_cases y0 : k = a
  · subst y0; rw [ptn_0, if_pos rfl]; rfl
  · by_cases y1 : k = a + 1
    · subst y1; rw [ptn_1, if_neg (by omega)]; rfl
    · by_cases y2 : k = a + 2
      · subst y2; rw [ptn_2, if_neg (by omega)]; rfl
      · rw [ptn_o a 2 y0 y1 y2, if_neg y0]
theorem cq_3 (a k : Nat) (hk : k < 25) : ct3 a (a + 1) 100 k = ptn (a, 3) k := by
  unfold ct3
  rw [if_neg (show ¬ k = 100 by omega)]
  by_cases y0 : k = a
  · subst y0; rw [ptn_0, if_pos rfl, if_neg (by omega)]; rfl
  · by_cases y1 : k = a + 1
    · subst y1; rw [ptn_1, if_neg (by omega), if_pos rfl]; rfl
    · by_cases y2 : k = a + 2
      · subst y2; rw [ptn_2, if_neg (by omega), if_neg (by omega)]; rfl
      · rw [ptn_o a 3 y0 y1 y2, if_neg y0, if_neg y1]
theorem cq_4 (a k : Nat) (hk : k < 25) : ct3 a (a + 2) 100 k = ptn (a, 4) k := by
  unfold ct3
  rw [if_neg (show ¬ k = 100 by omega)]
  by_cases y0 : k = a
  · subst y0; rw [ptn_0, if_pos rfl, if_neg (by omega)]; rfl
  · by_cases y1 : k = a + 1
    · subst y1; rw [ptn_1, if_neg (by omega), if_neg (by omega)]; rfl
    · by_cases y2 : k = a + 2
      · subst y2; rw [ptn_2, if_neg (by omega), if_pos rfl]; rfl
      · rw [ptn_o a 4 y0 y1 y2, if_neg y0, if_neg y2]
section XRF
variable {I : Nat → Nat → Int32} {J : Nat → Nat → Int64} {A : Nat → Nat → Int32} {M : zM} {h : Nat}
/-- a recursive call on fewer tiles: its answer -/
def FSPX (I : Nat → Nat → Int32) (J : Nat → Nat → Int64) (A : Nat → Nat → Int32) (M : zM) (h T : Nat) (RC : Nat → Int32 → Int32 → Int32 → Int32 → zM → Option (Int32 × zM)) : Prop :=
  ∀ (g : Nat → Nat) (w : Nat → Int32), (∀ k, k < 25 → w k = nI (g k)) → (∀ k, k < 25 → g k < 1000) → sn g 0 25 < T → ∀ i, i < 26 → ∀ s u p : Nat, s + u ≤ 3 → p ≤ 1 → ∃ b w', RC h (nI i) (nI s) (nI u) (nI p) (cs I J (ur A h w) M) = some (6 - nI (2 * s + u + p + b), cs I J (ur A h w') M) ∧ (∀ k, k < 25 → w' k = w k) ∧ MB (3 - s - u) (1 - p) i 25 g b
/-- what the try of a part gives -/
def WTH (n m a base : Nat) (g t : Nat → Nat) (Y : Nat) : Prop := (¬ (∀ k, k < 25 → t k ≤ g k) ∧ Y = 0) ∨ ((∀ k, k < 25 → t k ≤ g k) ∧ ∃ v, Y = base + v ∧ MB n m a 25 (fun k => g k - t k) v)
theorem x_with_26 (hk : mK M h = 100) (hl : mL M h = 25) {T : Nat} {RC : Nat → Int32 → Int32 → Int32 → Int32 → zM → Option (Int32 × zM)} (IH : FSPX I J A M h T RC) {a b c : Nat} (ha : a < 25) (hb : b < 25) {i3 : Int32} (h3 : (c < 25 ∧ i3 = nI c) ∨ (¬ c < 25 ∧ i3 = -1)) {s t p : Nat} (hst : s + t ≤ 3) (hp : p ≤ 1) {g : Nat → Nat} {R : Nat → Int32} (hR : ∀ k, k < 25 → R k = nI (g k) - nI (ct3 a b c k)) (hg : ∀ k, k < 25 → g k < 1000) (hs : sn g 0 25 < T + 1) : ∃ Y w', f_X7_with_26 RC h (nI a) (nI b) i3 (nI s) (nI t) (nI p) (cs I J (ur A h R) M) = some (6 - nI Y, cs I J (ur A h w') M) ∧ (∀ k, k < 25 → w' k = nI (g k)) ∧ WTH (3 - s - t) (1 - p) a (2 * s + t + p) g (ct3 a b c) Y := by
  have neg : ∀ k, k < 25 → R k < 0 → ¬ (∀ k, k < 25 → ct3 a b c k ≤ g k) := fun k hk9 hn z => by
    rw [hR k hk9, pk_sub (z k hk9)] at hn
    exact nI_nn (by have := hg k hk9; omega) hn
  have e53 : ¬ (∀ k, k < 25 → ct3 a b c k ≤ g k) → ∃ Y w', f_X7_with_53 RC h (nI a) (nI b) i3 (nI s) (nI t) (nI p) (cs I J (ur A h R) M) = some (6 - nI Y, cs I J (ur A h w') M) ∧ (∀ k, k < 25 → w' k = nI (g k)) ∧ WTH (3 - s - t) (1 - p) a (2 * s + t + p) g (ct3 a b c) Y := fun z => by
    unfold f_X7_with_53 f_X7_with_54
    rw [if_pos rfl]
    obtain ⟨w', q1, q2⟩ := r_with_77 (I := I) (J := J) (A := A) hk hl RC ha hb h3 6 hR
    exact ⟨0, w', q1, q2, Or.inl ⟨z, rfl⟩⟩
  have pos : ∀ k, k < 25 → ¬ R k < 0 → ct3 a b c k ≤ g k := fun k hk9 hn => Nat.le_of_not_lt fun q => hn (by
    rw [hR k hk9]
    exact pk_sneg (by have := ct3_le a b c k; omega) q)
  have e49 : ¬ R a < 0 → ¬ R b < 0 → (c < 25 → ¬ R c < 0) → ∃ Y w', f_X7_with_49 RC h (nI a) (nI b) i3 (nI s) (nI t) (nI p) (cs I J (ur A h R) M) = some (6 - nI Y, cs I J (ur A h w') M) ∧ (∀ k, k < 25 → w' k = nI (g k)) ∧ WTH (3 - s - t) (1 - p) a (2 * s + t + p) g (ct3 a b c) Y := fun p1 p2 p3 => by
    have hle : ∀ k, k < 25 → ct3 a b c k ≤ g k := fun k hk9 => by
      by_cases y1 : k = a
      · exact pos k hk9 (y1 ▸ p1)
      · by_cases y2 : k = b
        · exact pos k hk9 (y2 ▸ p2)
        · by_cases y3 : k = c
          · exact pos k hk9 (by rw [y3]; exact p3 (by omega))
          · unfold ct3
            rw [if_neg y1, if_neg y2, if_neg y3]
            exact Nat.zero_le _
    have hct : 1 ≤ ct3 a b c a := by
      unfold ct3
      rw [if_pos rfl]
      omega
    have hlt := sn_lt (fun k => g k - ct3 a b c k) g a 25 0 (fun k => Nat.sub_le _ _) (Nat.zero_le _) (by omega) (by have := hle a ha; show g a - ct3 a b c a < g a; omega)
    obtain ⟨v, w', q1, q2, q3⟩ := IH (fun k => g k - ct3 a b c k) R (fun k hk9 => by rw [hR k hk9, pk_sub (hle k hk9)]) (fun k hk9 => by have := hg k hk9; show g k - _ < 1000; omega) (by omega) a (by omega) s t p hst hp
    unfold f_X7_with_49 f_X7_with_54
    rw [if_neg (show ¬ (1 : Int32) = 0 by decide), q1, Option.bind_some]
    obtain ⟨w2, q4, q5⟩ := r_with_77 (I := I) (J := J) (A := A) hk hl RC ha hb h3 (6 - nI (2 * s + t + p + v)) (fun k hk9 => (q2 k hk9).trans (hR k hk9))
    exact ⟨_, w2, q4, q5, Or.inr ⟨hle, v, rfl, q3⟩⟩
  unfold f_X7_with_26
  rw [lA_cs hk (by omega) (by omega), Option.bind_some, ur_at]
  by_cases y1 : R a < 0
  · rw [if_pos y1]; exact e53 (neg a ha y1)
  · rw [if_neg y1, lA_cs hk (by omega) (by omega), Option.bind_some, ur_at]
    by_cases y2 : R b < 0
    · rw [if_pos y2]; exact e53 (neg b hb y2)
    · rw [if_neg y2]
      rcases h3 with ⟨c1, rfl⟩ | ⟨c1, rfl⟩
      · have ne : ¬ nI c = -1 := fun z => by
          have e2 : nI c < 0 := by rw [z]; decide
          exact nI_nn (by omega) e2
        rw [if_neg ne, lA_cs hk (by omega) (by omega), Option.bind_some, ur_at]
        by_cases y3 : R c < 0
        · rw [if_pos y3]; exact e53 (neg c c1 y3)
        · rw [if_neg y3]; exact e49 y1 y2 (fun _ => y3)
      · rw [if_pos rfl]
        exact e49 y1 y2 (fun q => absurd q c1)
theorem x_with (hk : mK M h = 100) (hl : mL M h = 25) {T : Nat} {RC : Nat → Int32 → Int32 → Int32 → Int32 → zM → Option (Int32 × zM)} (IH : FSPX I J A M h T RC) {a b c : Nat} (ha : a < 25) (hb : b < 25) {i3 : Int32} (h3 : (c < 25 ∧ i3 = nI c) ∨ (¬ c < 25 ∧ i3 = -1)) {s t p : Nat} (hst : s + t ≤ 3) (hp : p ≤ 1) {g : Nat → Nat} {w : Nat → Int32} (hw : ∀ k, k < 25 → w k = nI (g k)) (hg : ∀ k, k < 25 → g k < 1000) (hs : sn g 0 25 < T + 1) : ∃ Y w', f_X7_with RC h (nI a) (nI b) i3 (nI s) (nI t) (nI p) (cs I J (ur A h w) M) = some (6 - nI Y, cs I J (ur A h w') M) ∧ (∀ k, k < 25 → w' k = nI (g k)) ∧ WTH (3 - s - t) (1 - p) a (2 * s + t + p) g (ct3 a b c) Y := by
  unfold f_X7_with f_X7_with_0
  rw [lA_cs hk (by omega) (by omega), Option.bind_some, ur_at, tA_cs hk (by omega) (by omega), Option.bind_some, u2_ur, lA_cs hk (by omega) (by omega), Option.bind_some, ur_at, tA_cs hk (by omega) (by omega), Option.bind_some, u2_ur]
  have h3' := h3
  rcases h3 with ⟨c1, rfl⟩ | ⟨c1, rfl⟩
  · have ne : ¬ nI c = -1 := fun z => by
      have e2 : nI c < 0 := by rw [z]; decide
      exact nI_nn (by omega) e2
    rw [if_neg ne, lA_cs hk (by omega) (by omega), Option.bind_some, ur_at, tA_cs hk (by omega) (by omega), Option.bind_some, u2_ur]
    refine x_with_26 hk hl IH ha hb h3' hst hp (fun k hk9 => ?_) hg hs
    have e := dn3 w a b c k hk9 (g k) (hw k hk9)
    rw [if_pos c1] at e
    exact e
  · rw [if_pos rfl]
    refine x_with_26 hk hl IH ha hb h3' hst hp (fun k hk9 => ?_) hg hs
    have e := dn3 w a b c k hk9 (g k) (hw k hk9)
    rw [if_neg c1] at e
    exact e
/-- a later step: its answer -/
def FANX (I : Nat → Nat → Int32) (J : Nat → Nat → Int64) (A : Nat → Nat → Int32) (M : zM) (h : Nat) (g : Nat → Nat) (f : Nat → Int32 → Int32 → Int32 → Int32 → Int32 → zM → Option (Int32 × zM)) (a s t p j : Nat) : Prop :=
  ∀ (X : Nat) (w : Nat → Int32), (∀ k, k < 25 → w k = nI (g k)) → SQ (3 - s - t) (1 - p) a (2 * s + t + p) j g X → ∃ b w', f h (nI s) (nI t) (nI p) (nI a) (6 - nI X) (cs I J (ur A h w) M) = some (6 - nI (2 * s + t + p + b), cs I J (ur A h w') M) ∧ (∀ k, k < 25 → w' k = nI (g k)) ∧ MB (3 - s - t) (1 - p) a 25 g b
section XSTEPS
variable {T : Nat} {RC : Nat → Int32 → Int32 → Int32 → Int32 → zM → Option (Int32 × zM)} {a s t p : Nat} {g : Nat → Nat}
theorem SQ.l8 {n m a base j X : Nat} (x : SQ n m a base j g X) (h : base + (2 * n + m) ≤ 7) : X < 8 := by
  have := x.le
  omega
theorem x_far_251 (hk : mK M h = 100) (hl : mL M h = 25) (IH : FSPX I J A M h T RC) (ha : a < 25) (hst : s + t ≤ 3) (hp1 : p ≤ 1) (hg : ∀ k, k < 25 → g k < 1000) (hs : sn g 0 25 < T + 1) (hp : g a ≠ 0) : FANX I J A M h g (f_X7_far_251 RC) a s t p 6 := by
  intro X w hw hX
  unfold f_X7_far_251
  have em : nI (g a) - 1 = nI (g a - 1) := pk_sub (a := g a) (b := 1) (Nat.pos_of_ne_zero hp)
  have eb : nI (g a - 1) + 1 = nI (g a) := (nI_add (g a - 1) 1).trans (congrArg nI (by omega))
  have hsn := sn_u1 g a (g a - 1) 25 0 (Nat.zero_le _) (by omega)
  obtain ⟨v, w1, q1, q2, q3⟩ := IH (u1 g a (g a - 1)) (u1 w a (nI (g a - 1))) (fun k hk9 => by
    by_cases y : k = a
    · rw [y, u1_at, u1_at]
    · rw [u1_ne _ _ y, u1_ne _ _ y, hw k hk9]) (fun k hk9 => by
    have := hg k hk9
    by_cases y : k = a
    · rw [y, u1_at]; have := hg a ha; omega
    · rw [u1_ne _ _ y]; exact this) (by omega) a (by omega) s t p hst hp1
  have l1 := q3.le
  have l2 := hX.l8 (by omega)
  obtain ⟨b, e3, m3⟩ := hX.drop ha hp q3
  rw [lA_cs hk (by omega) (by omega), Option.bind_some, ur_at, hw a ha, em, tA_cs hk (by omega) (by omega), Option.bind_some, u2_ur, q1, Option.bind_some]
  dsimp only
  rw [x_min6 l2 (by omega), Option.bind_some, e3]
  dsimp only
  rw [lA_cs hk (by omega) (by omega), Option.bind_some, ur_at, q2 a ha, u1_at, eb, tA_cs hk (by omega) (by omega), Option.bind_some, u2_ur]
  refine ⟨b, u1 w1 a (nI (g a)), rfl, fun k hk9 => ?_, m3⟩
  by_cases y : k = a
  · rw [y, u1_at]
  · rw [u1_ne _ _ y, q2 k hk9, u1_ne _ _ y, hw k hk9]
theorem x_far_227 (hk : mK M h = 100) (hl : mL M h = 25) (IH : FSPX I J A M h T RC) (ha : a < 25) (hst : s + t ≤ 3) (hp1 : p ≤ 1) (hg : ∀ k, k < 25 → g k < 1000) (hs : sn g 0 25 < T + 1) (hp : g a ≠ 0) : FANX I J A M h g (f_X7_far_227 RC) a s t p 5 := by
  have hn := x_far_251 hk hl IH ha hst hp1 hg hs hp
  intro X w hw hX
  unfold f_X7_far_227
  have l2 := hX.l8 (by omega)
  by_cases y : p = 0
  · subst y
    obtain ⟨Y, w1, q1, q2, q3⟩ := x_with (c := 100) hk hl IH ha ha (i3 := -1) (Or.inr ⟨by decide, rfl⟩) hst (show 1 ≤ 1 by decide) hw hg hs
    have q1' : f_X7_with RC h (nI a) (nI a) (-1) (nI s) (nI t) 1 (cs I J (ur A h w) M) = some (6 - nI Y, cs I J (ur A h w1) M) := q1
    rw [if_pos (show nI 0 = 0 from rfl), q1', Option.bind_some]
    dsimp only
    rcases q3 with ⟨z, rfl⟩ | ⟨z, v, rfl, q3⟩
    · rw [x_min6 l2 (by decide), Option.bind_some, Nat.max_eq_left (Nat.zero_le _)]
      refine hn X w1 q2 (hX.pairNo (Or.inr ?_) ha)
      refine Nat.lt_of_not_le fun c => z fun k hk9 => ?_
      rw [cq_2 a k hk9]
      by_cases e0 : k = a
      · subst e0; rw [ptn_0]; exact c
      · by_cases e1 : k = a + 1
        · subst e1; rw [ptn_1]; exact Nat.zero_le _
        · by_cases e2 : k = a + 2
          · subst e2; rw [ptn_2]; exact Nat.zero_le _
          · rw [ptn_o a 2 e0 e1 e2]; exact Nat.zero_le _
    · have l1 := q3.le
      rw [x_min6 l2 (by omega), Option.bind_some]
      dsimp only
      have h2 : 2 ≤ g a := by
        have := z a ha
        rw [cq_2 a a ha, ptn_0] at this
        exact this
      have m3 : MB (3 - s - t) 0 a 25 (u1 g a (g a - 2)) v := q3.gg fun k hk9 => by
        show g k - ct3 a a 100 k = _
        rw [cq_2 a k hk9]
        by_cases e0 : k = a
        · subst e0; rw [ptn_0, u1_at]; rfl
        · rw [u1_ne _ _ e0]
          by_cases e1 : k = a + 1
          · subst e1; rw [ptn_1]; rfl
          · by_cases e2 : k = a + 2
            · subst e2; rw [ptn_2]; rfl
            · rw [ptn_o a 2 e0 e1 e2]; rfl
      exact hn _ w1 q2 (hX.pair (by decide) ha h2 m3)
  · obtain rfl : p = 1 := by omega
    rw [if_neg (show ¬ nI 1 = 0 by decide)]
    exact hn X w hw (hX.pairNo (Or.inl rfl) ha)
/-- a part of a form is tried -/
theorem x_try {n m base j : Nat} {t : Nat → Nat} {X Y : Nat} (hj : j < 5) (ha : a < 25) (hn : n ≠ 0) (hpo : pok (a, j)) (ht : ∀ k, k < 25 → t k = ptn (a, j) k) (hX : SQ n m a base j g X) (hb : base + (2 * n + m) ≤ 7) (hY : WTH (n - 1) m a (base + pvf j) g t Y) : SQ n m a base (j + 1) g (max X Y) ∧ X < 8 ∧ Y < 8 := by
  have l := hX.l8 hb
  rcases hY with ⟨z, rfl⟩ | ⟨z, v, rfl, q⟩
  · rw [Nat.max_eq_left (Nat.zero_le _)]
    exact ⟨hX.no hj fun c => z fun k hk => by rw [ht k hk]; exact c.2 k hk, l, by decide⟩
  · have := q.le
    have := pvf_le j
    refine ⟨hX.take hj ha hn hpo (fun k hk => by rw [← ht k hk]; exact z k hk) (q.gg fun k hk => by rw [ht k hk]), l, by omega⟩
theorem pok_mk {a j : Nat} (h1 : j < 5) (h2 : a < 25) (h3 : j = 1 ∨ j = 4 → rw_ a = true) (h4 : j = 3 → a < 18 ∧ a % 9 ≤ 7) : pok (a, j) := ⟨h1, h2, h3, h4⟩
theorem x_far_194 (hk : mK M h = 100) (hl : mL M h = 25) (IH : FSPX I J A M h T RC) (ha : a < 25) (hst : s + t < 3) (hp1 : p ≤ 1) (hg : ∀ k, k < 25 → g k < 1000) (hs : sn g 0 25 < T + 1) (hp : g a ≠ 0) : FANX I J A M h g (f_X7_far_194 RC) a s t p 4 := by
  have hn := x_far_227 (s := s) (t := t) hk hl IH ha (by omega) hp1 hg hs hp
  intro X w hw hX
  unfold f_X7_far_194
  rw [q_isRun3 a (by omega), Option.bind_some]
  dsimp only
  by_cases y : rw_ a = true
  · have ha18 := rw_lt y
    have e2 : nI a + 2 = nI (a + 2) := nI_add a 2
    have et : nI t + 1 = nI (t + 1) := nI_1 t
    obtain ⟨Y, w1, q1, q2, q3⟩ := x_with (b := a + 2) (c := 100) hk hl IH ha (by omega) (i3 := -1) (Or.inr ⟨by decide, rfl⟩) (show s + (t + 1) ≤ 3 by omega) hp1 hw hg hs
    obtain ⟨c1, c2, c3⟩ := x_try (j := 4) (n := 3 - s - t) (base := 2 * s + t + p) (m := 1 - p) (by decide) ha (by omega) (pok_mk (by decide) ha (fun _ => y) (fun z => absurd z (by decide))) (fun k hk9 => cq_4 a k hk9) hX (by omega) (by
      rw [show 3 - s - (t + 1) = 3 - s - t - 1 by omega, show 2 * s + (t + 1) + p = 2 * s + t + p + pvf 4 by show _ = _ + 1; omega] at q3
      exact q3)
    rw [y, if_neg (show ¬ b32 true = 0 by decide), e2, et, q1, Option.bind_some]
    dsimp only
    rw [x_min6 c2 c3, Option.bind_some]
    exact hn _ w1 q2 c1
  · have y' : rw_ a = false := by cases hx : rw_ a; rfl; exact absurd hx y
    rw [y', if_pos (show b32 false = 0 from rfl)]
    exact hn X w hw (hX.no (by decide) fun c => y (c.1.2.2.1 (Or.inr rfl)))
theorem x_far_132 (hk : mK M h = 100) (hl : mL M h = 25) (IH : FSPX I J A M h T RC) (ha : a < 25) (hst : s + t ≤ 3) (hp1 : p ≤ 1) (hg : ∀ k, k < 25 → g k < 1000) (hs : sn g 0 25 < T + 1) (hp : g a ≠ 0) : FANX I J A M h g (f_X7_far_132 RC) a s t p 2 := by
  have hn2 := x_far_227 hk hl IH ha hst hp1 hg hs hp
  intro X w hw hX
  unfold f_X7_far_132
  have es : (3 : Int32) - nI s = nI (3 - s) := pk_sub (a := 3) (b := s) (by omega)
  rw [es]
  by_cases z : 3 - s ≤ t
  · rw [if_pos (le_t _ _ z (by omega))]
    exact hn2 X w hw (hX.n0 (by omega) (by decide))
  · have hn := x_far_194 hk hl IH ha (show s + t < 3 by omega) hp1 hg hs hp
    have et : nI t + 1 = nI (t + 1) := nI_1 t
    obtain ⟨Y, w1, q1, q2, q3⟩ := x_with (c := 100) hk hl IH ha ha (i3 := -1) (Or.inr ⟨by decide, rfl⟩) (show s + (t + 1) ≤ 3 by omega) hp1 hw hg hs
    rw [show 3 - s - (t + 1) = 3 - s - t - 1 by omega, show 2 * s + (t + 1) + p = 2 * s + t + p + 1 by omega] at q3
    obtain ⟨c1, c2, c3⟩ := x_try (j := 2) (n := 3 - s - t) (base := 2 * s + t + p) (m := 1 - p) (by decide) ha (by omega) (pok_mk (by decide) ha (fun z => absurd z (by decide)) (fun z => absurd z (by decide))) (fun k hk9 => cq_2 a k hk9) hX (by omega) q3
    rw [if_neg (le_f (3 - s) t (by omega) (by omega)), et, q1, Option.bind_some]
    dsimp only
    rw [x_min6 c2 c3, Option.bind_some]
    dsimp only
    rw [r_isRun2 a (by omega), Option.bind_some]
    dsimp only
    by_cases y : a < 18 ∧ a % 9 ≤ 7
    · have e1 : nI a + 1 = nI (a + 1) := nI_add a 1
      obtain ⟨Y2, w2, q4, q5, q6⟩ := x_with (b := a + 1) (c := 100) hk hl IH ha (by omega) (i3 := -1) (Or.inr ⟨by decide, rfl⟩) (show s + (t + 1) ≤ 3 by omega) hp1 q2 hg hs
      rw [show 3 - s - (t + 1) = 3 - s - t - 1 by omega, show 2 * s + (t + 1) + p = 2 * s + t + p + 1 by omega] at q6
      obtain ⟨d1, d2, d3⟩ := x_try (j := 3) (n := 3 - s - t) (base := 2 * s + t + p) (m := 1 - p) (by decide) ha (by omega) (pok_mk (by decide) ha (fun z => absurd z (by decide)) (fun _ => y)) (fun k hk9 => cq_3 a k hk9) c1 (by omega) q6
      rw [decide_eq_true y, if_neg (show ¬ b32 true = 0 by decide), e1, q4, Option.bind_some]
      dsimp only
      rw [x_min6 d2 d3, Option.bind_some]
      exact hn _ w2 q5 d1
    · rw [decide_eq_false y, if_pos (show b32 false = 0 from rfl)]
      exact hn _ w1 q2 (c1.no (by decide) fun c => y (c.1.2.2.2 rfl))
theorem x_far_59 (hk : mK M h = 100) (hl : mL M h = 25) (IH : FSPX I J A M h T RC) (ha : a < 25) (hst : s + t ≤ 3) (hp1 : p ≤ 1) (hg : ∀ k, k < 25 → g k < 1000) (hs : sn g 0 25 < T + 1) (hp : g a ≠ 0) : FANX I J A M h g (f_X7_far_59 RC) a s t p 0 := by
  have hn := x_far_132 hk hl IH ha hst hp1 hg hs hp
  intro X w hw hX
  unfold f_X7_far_59
  by_cases z : 3 ≤ s
  · rw [if_pos (le_t (x := 3) 3 s z (by omega))]
    exact hn X w hw (hX.n0 (by omega) (by decide))
  · have es : (3 : Int32) - nI s - 1 = nI (3 - s - 1) := by
      rw [show (3 : Int32) - nI s = nI (3 - s) from pk_sub (a := 3) (b := s) (by omega)]
      exact pk_sub (a := 3 - s) (b := 1) (by omega)
    rw [if_neg (le_f (x := 3) 3 s (by omega) (by decide)), es]
    by_cases z2 : 3 - s - 1 < t
    · rw [if_pos (lt_t _ _ z2 (by omega))]
      exact hn X w hw (hX.n0 (by omega) (by decide))
    · have es1 : nI s + 1 = nI (s + 1) := nI_1 s
      obtain ⟨Y, w1, q1, q2, q3⟩ := x_with (c := a) hk hl IH ha ha (i3 := nI a) (Or.inl ⟨ha, rfl⟩) (show s + 1 + t ≤ 3 by omega) hp1 hw hg hs
      rw [show 3 - (s + 1) - t = 3 - s - t - 1 by omega, show 2 * (s + 1) + t + p = 2 * s + t + p + 2 by omega] at q3
      obtain ⟨c1, c2, c3⟩ := x_try (j := 0) (n := 3 - s - t) (base := 2 * s + t + p) (m := 1 - p) (by decide) ha (by omega) (pok_mk (by decide) ha (fun z => absurd z (by decide)) (fun z => absurd z (by decide))) (fun k hk9 => cq_0 a k) hX (by omega) q3
      rw [if_neg (lt_f (3 - s - 1) t (by omega) (by omega)), es1, q1, Option.bind_some]
      dsimp only
      rw [x_min6 c2 c3, Option.bind_some]
      dsimp only
      rw [q_isRun3 a (by omega), Option.bind_some]
      dsimp only
      by_cases y : rw_ a = true
      · have ha18 := rw_lt y
        have e1 : nI a + 1 = nI (a + 1) := nI_add a 1
        have e2 : nI a + 2 = nI (a + 2) := nI_add a 2
        obtain ⟨Y2, w2, q4, q5, q6⟩ := x_with (b := a + 1) (c := a + 2) hk hl IH ha (by omega) (i3 := nI (a + 2)) (Or.inl ⟨by omega, rfl⟩) (show s + 1 + t ≤ 3 by omega) hp1 q2 hg hs
        rw [show 3 - (s + 1) - t = 3 - s - t - 1 by omega, show 2 * (s + 1) + t + p = 2 * s + t + p + 2 by omega] at q6
        obtain ⟨d1, d2, d3⟩ := x_try (j := 1) (n := 3 - s - t) (base := 2 * s + t + p) (m := 1 - p) (by decide) ha (by omega) (pok_mk (by decide) ha (fun _ => y) (fun z => absurd z (by decide))) (fun k hk9 => cq_1 a k) c1 (by omega) q6
        rw [y, if_neg (show ¬ b32 true = 0 by decide), e1, e2, q4, Option.bind_some]
        dsimp only
        rw [x_min6 d2 d3, Option.bind_some]
        exact hn _ w2 q5 d1
      · have y' : rw_ a = false := by cases hx : rw_ a; rfl; exact absurd hx y
        rw [y', if_pos (show b32 false = 0 from rfl)]
        exact hn _ w1 q2 (c1.no (by decide) fun c => y (c.1.2.2.1 (Or.inl rfl)))
end XSTEPS
theorem x_far_3 (hk : mK M h = 100) (hl : mL M h = 25) (RC : Nat → Int32 → Int32 → Int32 → Int32 → zM → Option (Int32 × zM)) (s t p : Int32) {g : Nat → Nat} {w : Nat → Int32} (hw : ∀ k, k < 25 → w k = nI (g k)) (hg : ∀ k, k < 25 → g k < 1000) : ∀ (d n i : Nat), i + d = 25 → d < n → ∃ a, a ≤ 25 ∧ i ≤ a ∧ (∀ k, i ≤ k → k < a → g k = 0) ∧ (a < 25 → g a ≠ 0) ∧ f_X7_far_3 RC n h s t p (nI i) (cs I J (ur A h w) M) = f_X7_far_23 RC h s t p (nI a) (cs I J (ur A h w) M) := by
  intro d
  induction d with
  | zero =>
    intro n i hi hn
    obtain ⟨n, rfl⟩ : ∃ m, n = m + 1 := ⟨n - 1, by omega⟩
    exact ⟨i, by omega, Nat.le_refl _, fun k h1 h2 => by omega, fun q => by omega, by rw [f_X7_far_3, if_pos (le_t (x := 25) 25 i (by omega) (by omega))]⟩
  | succ d ih =>
    intro n i hi hn
    obtain ⟨n, rfl⟩ : ∃ m, n = m + 1 := ⟨n - 1, by omega⟩
    have hgi := hg i (by omega)
    rw [f_X7_far_3, if_neg (le_f (x := 25) 25 i (by omega) (by decide)), lA_cs hk (by omega) (by omega), Option.bind_some, ur_at, hw i (by omega)]
    by_cases z : g i = 0
    · rw [z, if_pos (show nI 0 = 0 from rfl), nI_1]
      obtain ⟨a, a1, a2, a3, a4, a5⟩ := ih n (i + 1) (by omega) (by omega)
      exact ⟨a, a1, by omega, fun k h1 h2 => by
        by_cases y : k = i
        · rw [y]; exact z
        · exact a3 k (by omega) h2, a4, a5⟩
    · exact ⟨i, by omega, Nat.le_refl _, fun k h1 h2 => by omega, fun _ => z, by rw [if_neg (eq_f (y := 0) (g i) 0 z (by omega) (by decide))]⟩
theorem x_farN (hk : mK M h = 100) (hl : mL M h = 25) : ∀ (T n : Nat), T ≤ n → FSPX I J A M h T (f_X7_far n) := by
  intro T
  induction T with
  | zero => exact fun n hn g w hw hg hs => absurd hs (Nat.not_lt_zero _)
  | succ T ih =>
    intro n hn g w hw hg hs i hi s t p hst hp
    obtain ⟨n, rfl⟩ : ∃ m, n = m + 1 := ⟨n - 1, by omega⟩
    have IH := ih n (by omega)
    rw [f_X7_far]
    unfold f_X7_far_0
    have ebase : (6 : Int32) - 2 * nI s - nI t - nI p = 6 - nI (2 * s + t + p) := by
      have e1 : (2 : Int32) * nI s = nI (2 * s) := pk_mul 2 s
      rw [e1, ← nI_add, ← nI_add]
      grind
    obtain ⟨a, a1, a2, a3, a4, a5⟩ := x_far_3 (I := I) (J := J) (A := A) (M := M) hk hl (f_X7_far n) (nI s) (nI t) (nI p) hw hg (25 - i) zN i (by omega) (by show 25 - i < 130; omega)
    rw [a5]
    unfold f_X7_far_23
    rw [ebase]
    by_cases a25 : a = 25
    · rw [if_pos (show nI a = 25 by rw [a25]; rfl)]
      subst a25
      refine ⟨0, w, rfl, fun _ _ => rfl, MB.shift a3 a2 (Nat.le_refl _) (MB.none_ fun L x y => ⟨?_, ?_⟩)⟩
      · cases L with
        | nil => rfl
        | cons q L => have := (y.2.2.1 q (List.mem_cons.mpr (Or.inl rfl))).2; omega
      · cases x with
        | none => rfl
        | some l => have := y.2.2.2.1 l rfl; omega
    · have ha : a < 25 := by omega
      have h59 := x_far_59 hk hl IH ha hst hp hg hs (a4 ha)
      have fin : ∃ b w', f_X7_far_59 (f_X7_far n) h (nI s) (nI t) (nI p) (nI a) (6 - nI (2 * s + t + p)) (cs I J (ur A h w) M) = some (6 - nI (2 * s + t + p + b), cs I J (ur A h w') M) ∧ (∀ k, k < 25 → w' k = w k) ∧ MB (3 - s - t) (1 - p) i 25 g b := by
        obtain ⟨b, w', q1, q2, q3⟩ := h59 (2 * s + t + p) w hw (SQ.init _ _ _ _ _)
        exact ⟨b, w', q1, fun k hk9 => (q2 k hk9).trans (hw k hk9).symm, q3.shift a3 a2 a1⟩
      rw [if_neg (eq_f (y := 25) a 25 a25 (by omega) (by decide)), nI_add]
      by_cases z : s + t = 3
      · rw [if_pos (show nI (s + t) = 3 by rw [z]; rfl)]
        by_cases z1 : p = 1
        · rw [if_pos (show nI p = 1 by rw [z1]; rfl)]
          subst z1
          refine ⟨0, w, rfl, fun _ _ => rfl, MB.none_ fun L x y => ⟨List.eq_nil_of_length_eq_zero ?_, pv_0 y.2.1⟩⟩
          have := y.1
          omega
        · rw [if_neg (eq_f (y := 1) p 1 z1 (by omega) (by decide))]
          exact fin
      · rw [if_neg (eq_f (y := 3) (s + t) 3 z (by omega) (by decide))]
        exact fin
/-- far of a player -/
theorem x_X6_far {P l N : Nat} (hp : PS M P h l) (hN : I 162 l = nI N) (hN3 : N ≤ 3) {g : Nat → Nat} {w : Nat → Int32} (hw : ∀ k, k < 25 → w k = nI (g k)) (hg : ∀ k, k < 25 → g k < 1000) (hs : sn g 0 25 < 64) : ∃ b w', f_X6_far P (cs I J (ur A h w) M) = some (6 - nI (2 * N + b), cs I J (ur A h w') M) ∧ (∀ k, k < 25 → w' k = w k) ∧ MB (3 - N) 1 0 25 g b := by
  obtain ⟨⟨p1, p2, p3⟩, ⟨h1, h2⟩, l1⟩ := hp
  obtain ⟨v, w', q1, q2, q3⟩ := x_farN (I := I) (J := J) (A := A) (M := M) h1 h2 64 zR (Nat.le_refl _) g w hw hg hs 0 (by decide) N 0 0 hN3 (by decide)
  have q1' : f_X7_far zR h 0 (nI N) 0 0 (cs I J (ur A h w) M) = some (6 - nI (2 * N + v), cs I J (ur A h w') M) := q1
  refine ⟨v, w', ?_, q2, q3⟩
  unfold f_X6_far f_X6_far_0
  rw [gR_cs 386 p1 p2, Option.bind_some, gR_cs 387 p1 p3, Option.bind_some, if_pos (show mK (cs I J _ M) l = 5 from l1), r_size l1 hN, Option.bind_some]
  dsimp only
  rw [q1', Option.bind_some]
theorem x_X6_farWith {P l N c : Nat} (hp : PS M P h l) (hN : I 162 l = nI N) (hN3 : N ≤ 3) {g g' : Nat → Nat} {w : Nat → Int32} (hw : ∀ k, k < 25 → w k = nI (g k)) (x : Int32) (hc : c < 25) (hx : w c + x = nI (g' c)) (hgg : ∀ k, k ≠ c → g' k = g k) (hg : ∀ k, k < 25 → g' k < 1000) (hs : sn g' 0 25 < 64) : ∃ b w', f_X6_farWith P (nI c) x (cs I J (ur A h w) M) = some (6 - nI (2 * N + b), cs I J (ur A h w') M) ∧ (∀ k, k < 25 → w' k = w k) ∧ MB (3 - N) 1 0 25 g' b := by
  have hp' := hp
  obtain ⟨⟨p1, p2, p3⟩, ⟨h1, h2⟩, l1⟩ := hp
  obtain ⟨v, w1, q1, q2, q3⟩ := x_X6_far (I := I) (J := J) (A := A) hp' hN hN3 (g := g') (w := u1 w c (w c + x)) (fun k hk9 => by
    by_cases y : k = c
    · rw [y, u1_at, hx]
    · rw [u1_ne _ _ y, hgg k y, hw k hk9]) hg hs
  refine ⟨v, u1 w1 c (w1 c - x), ?_, fun k hk9 => ?_, q3⟩
  · unfold f_X6_farWith f_X6_farWith_0
    rw [gR_cs 386 p1 p2, Option.bind_some, lA_cs h1 (by omega) (by omega), Option.bind_some, ur_at, tA_cs h1 (by omega) (by omega), Option.bind_some, u2_ur, if_pos (show mK (cs I J _ M) P = 12 from p1), q1, Option.bind_some]
    dsimp only
    rw [gR_cs 386 p1 p2, Option.bind_some, lA_cs h1 (by omega) (by omega), Option.bind_some, ur_at, tA_cs h1 (by omega) (by omega), Option.bind_some, u2_ur]
  · by_cases y : k = c
    · rw [y, u1_at, q2 c hc, u1_at, Int32.add_sub_cancel]
    · rw [u1_ne _ _ y, q2 k hk9, u1_ne _ _ y]
/-- both say the same -/
theorem far_eq {N b : Nat} (hN : N ≤ 3) : nI (2 * (3 - N)) - nI b = 6 - nI (2 * N + b) := by
  have e : nI (2 * (3 - N)) = 6 - nI (2 * N) := by
    have : (6 : Int32) - nI (2 * N) = nI (6 - 2 * N) := pk_sub (a := 6) (b := 2 * N) (by omega)
    rw [this]
    exact congrArg nI (by omega)
  rw [e, ← nI_add]
  grind
end XRF
