/-! ===== PURE: the value by the class, exactly ===== -/
/-- whether it holds -/
noncomputable def dcl (p : Prop) : Bool := @decide p (Classical.propDecidable p)
theorem dcl_iff {p : Prop} : dcl p = true ↔ p := @decide_eq_true_iff p (Classical.propDecidable p)
theorem dcl_t {p : Prop} (h : p) : dcl p = true := dcl_iff.mpr h
theorem of_dcl_t {p : Prop} (h : dcl p = true) : p := dcl_iff.mp h
theorem dcl_f {p : Prop} (h : ¬ p) : dcl p = false := by
  cases hd : dcl p with
  | true => exact absurd (of_dcl_t hd) h
  | false => rfl
theorem of_dcl_f {p : Prop} (h : dcl p = false) : ¬ p := fun z => by rw [dcl_t z] at h; cases h
theorem dcl_c {p q : Prop} (h : p ↔ q) : dcl p = dcl q := by rw [show p = q from propext h]
/-- how many of a kind lie in sets; with those in hand -/
def lys (v : Nat → Nat) (N k : Nat) : Nat := sn (fun j => tlN (v j / 100) (v j % 100) k) 0 N
def alk (g v : Nat → Nat) (N k : Nat) : Nat := g k + lys v N k
noncomputable def vany (x : Nat → Nat) (f e : Nat) : Bool := dcl (∃ k : Nat, f ≤ k ∧ k < e ∧ x k ≠ 0)
noncomputable def vos (x : Nat → Nat) : Nat := if vany x 0 9 = vany x 9 18 then 0 else if vany x 18 25 = true then 2 else 4
noncomputable def vpn (x : Nat → Nat) (i : Nat) : Bool := dcl (∀ k : Nat, i ≤ k → k < 25 → x k ≠ 0 → k < 18 ∧ k % 9 ≠ 0 ∧ k % 9 ≠ 8)
def nrow (v : Nat → Nat) (N : Nat) : Bool := decide (∀ j : Nat, j < N → v j / 100 ≠ 1)
/-- the value, ahead of the most -/
noncomputable def vsum (al c : Bool) (op lk wd : Nat) (x : Nat → Nat) (wr : Bool) : Nat := 1 + (if c = true then 1 else 0) + (if al = true ∧ op = 0 then 1 else 0) + x lk + (ge3 (x 22) + ge3 (x 23) + ge3 (x 24)) + ge3 (x (18 + wd)) + (if vpn x 0 = true then 1 else 0) + (if wr = true then 2 else 0) + vos x
theorem lys_le {v : Nat → Nat} {N : Nat} (hN : N ≤ 3) (k : Nat) : lys v N k ≤ 12 := by
  have h := sn_le (fun j => tlN (v j / 100) (v j % 100) k) 4 N 0 (fun j _ _ => by
    show tlN (v j / 100) (v j % 100) k ≤ 4
    unfold tlN
    repeat' split
    all_goals omega)
  unfold lys
  omega
theorem x_minN {a b : Nat} (ha : a < 2 ^ 30) (hb : b < 2 ^ 30) (M : zM) : f_J9_min_7cf53 (nI a) (nI b) M = some (nI (min a b), M) := by
  rw [q_min]
  by_cases h : b < a
  · rw [if_pos (lt_t b a h (by omega)), Nat.min_eq_right (by omega)]
  · rw [if_neg (lt_f b a (by omega) (by omega)), Nat.min_eq_left (by omega)]
section XVAL
variable {I : Nat → Nat → Int32} {J : Nat → Nat → Int64} {A : Nat → Nat → Int32} {M : zM} {a r b t s rr N : Nat} {g v x : Nat → Nat}
theorem x_inSets (hs : SE M b t s rr) (hN : I 228 b = nI N) (hN3 : N ≤ 3) (hv : ∀ j, j < N → A s j = nI (v j)) (h4 : ∀ j, j < N → v j < 400) {k : Nat} (hk : k < 25) : f_X1_inSets b (nI k) (cs I J A M) = some (nI (lys v N k), cs I J A M) := by
  rw [q_inSets hs hN hN3]
  unfold lys
  rw [sm_nI _ (fun j => tlN (v j / 100) (v j % 100) k) N 0 (fun j _ hj => by
    have hj' : j < N := by omega
    have h := h4 j hj'
    have e1 : nI (v j) / 100 = nI (v j / 100) := pk_div (a := v j) (d := 100) (by omega) (by decide) (by decide)
    have e2 : zmd (nI (v j)) 100 = nI (v j % 100) := pk_rem (a := v j) (d := 100) (by omega) (by decide) (by decide)
    show tl (A s j / 100) (zmd (A s j) 100) (nI k) = _
    rw [hv j hj', e1, e2, tl_nI (by omega) (by omega) (by omega)])]
theorem x_gather_2 (h : VA M a r) (hs : SE M b t s rr) (hr : r ≠ t ∧ r ≠ s) (hN : I 228 b = nI N) (hN3 : N ≤ 3) (hw : ∀ k, k < 25 → A t k = nI (g k)) (hv : ∀ j, j < N → A s j = nI (v j)) (h4 : ∀ j, j < N → v j < 400) : ∀ (d n i : Nat) (w : Nat → Int32), i + d = 25 → d < n → (∀ k, k < i → w k = nI (alk g v N k)) → ∃ w', f_X2_gather_2 n a b (nI i) (cs I J (ur A r w) M) = some ((), cs I J (ur A r w') M) ∧ ∀ k, k < 25 → w' k = nI (alk g v N k) := by
  obtain ⟨h1, h2, h3, h4'⟩ := h
  intro d
  induction d with
  | zero =>
    intro n i w hi hn hz
    obtain ⟨n, rfl⟩ : ∃ m, n = m + 1 := ⟨n - 1, by omega⟩
    exact ⟨w, by rw [f_X2_gather_2, if_pos (le_t (x := 25) 25 i (by omega) (by omega))], fun k hk => hz k (by omega)⟩
  | succ d ih =>
    intro n i w hi hn hz
    obtain ⟨n, rfl⟩ : ∃ m, n = m + 1 := ⟨n - 1, by omega⟩
    have ei := x_inSets (I := I) (J := J) (A := ur A r w) (M := M) hs hN hN3 (fun j hj => (ur_ne A j w (Ne.symm hr.2)).trans (hv j hj)) h4 (show i < 25 by omega)
    have et : ur A r w t i = nI (g i) := (ur_ne A i w (Ne.symm hr.1)).trans (hw i (by omega))
    rw [f_X2_gather_2, if_neg (le_f (x := 25) 25 i (by omega) (by decide)), gR_cs 256 h1 h2, Option.bind_some, if_pos (show mK (cs I J _ M) b = 7 from hs.1), q_count hs (by omega), Option.bind_some, if_pos (show mK (cs I J _ M) b = 7 from hs.1)]
    dsimp only
    rw [ei, Option.bind_some]
    dsimp only
    rw [et, nI_add, tA_cs h3 (by omega) (by omega), Option.bind_some, u2_ur, nI_1]
    exact ih n (i + 1) _ (by omega) (by omega) (fun k hk => by
      by_cases y : k = i
      · subst y; exact u1_at _ _ _
      · rw [u1_ne _ _ y]; exact hz k (by omega))
theorem x_gather (h : VA M a r) (hs : SE M b t s rr) (hr : r ≠ t ∧ r ≠ s) (hN : I 228 b = nI N) (hN3 : N ≤ 3) (hw : ∀ k, k < 25 → A t k = nI (g k)) (hv : ∀ j, j < N → A s j = nI (v j)) (h4 : ∀ j, j < N → v j < 400) : ∃ w', f_X2_gather a b (cs I J A M) = some ((), cs I J (ur A r w') M) ∧ ∀ k, k < 25 → w' k = nI (alk g v N k) := by
  obtain ⟨w', e, f⟩ := x_gather_2 (J := J) (A := A) h hs hr hN hN3 hw hv h4 25 zN 0 (A r) rfl (by decide) (fun k hk => absurd hk (Nat.not_lt_zero _))
  rw [ur_self] at e
  exact ⟨w', e, f⟩
theorem vany_st {f e : Nat} (h : f < e) : vany x f e = if x f = 0 then vany x (f + 1) e else true := by
  by_cases y : x f = 0
  · rw [if_pos y]
    exact dcl_c ⟨fun ⟨k, a, b, c⟩ => ⟨k, by
      by_cases z : k = f
      · rw [z] at c; exact absurd y c
      · omega, b, c⟩, fun ⟨k, a, b, c⟩ => ⟨k, by omega, b, c⟩⟩
  · rw [if_neg y]
    exact dcl_t ⟨f, Nat.le_refl _, h, y⟩
theorem vany_no {f e : Nat} (h : e ≤ f) : vany x f e = false := dcl_f fun ⟨k, a, b, c⟩ => by omega
theorem x_anyOf_2 (h : VA M a r) (hx : ∀ k, k < 25 → A r k = nI (x k)) (hx9 : ∀ k, k < 25 → x k < 10000) {e : Nat} (he : e ≤ 25) : ∀ (d n i : Nat), i + d = 26 → d < n → f_X2_anyOf_2 n a (nI e) (nI i) (cs I J A M) = some (b32 (vany x i e), cs I J A M) := by
  obtain ⟨h1, h2, h3, h4⟩ := h
  intro d
  induction d with
  | zero =>
    intro n i hi hn
    obtain ⟨n, rfl⟩ : ∃ m, n = m + 1 := ⟨n - 1, by omega⟩
    rw [f_X2_anyOf_2, if_neg (nI_nn (by omega)), if_pos (le_t e i (by omega) (by omega)), vany_no (by omega)]
    rfl
  | succ d ih =>
    intro n i hi hn
    obtain ⟨n, rfl⟩ : ∃ m, n = m + 1 := ⟨n - 1, by omega⟩
    by_cases z : e ≤ i
    · rw [f_X2_anyOf_2, if_neg (nI_nn (by omega)), if_pos (le_t e i z (by omega)), vany_no z]
      rfl
    · have h9 := hx9 i (by omega)
      rw [f_X2_anyOf_2, if_neg (nI_nn (by omega)), if_neg (le_f e i (by omega) (by omega)), if_neg (le_f (x := 25) 25 i (by omega) (by decide)), gR_cs 256 h1 h2, Option.bind_some, lA_cs h3 (by omega) (by omega), Option.bind_some, hx i (by omega), vany_st (by omega)]
      by_cases y : x i = 0
      · rw [if_pos (le_t (y := 0) (x i) 0 (by omega) (by decide)), if_pos y, nI_1]
        exact ih n (i + 1) (by omega) (by omega)
      · rw [if_neg (le_f (y := 0) (x i) 0 (by omega) (by omega)), if_neg y]
        rfl
theorem x_anyOf (h : VA M a r) (hx : ∀ k, k < 25 → A r k = nI (x k)) (hx9 : ∀ k, k < 25 → x k < 10000) (f e : Nat) (he : e ≤ 25) (hf : f ≤ 26) : f_X2_anyOf a (nI f) (nI e) (cs I J A M) = some (b32 (vany x f e), cs I J A M) :=
  x_anyOf_2 h hx hx9 he (26 - f) zN f (by omega) (by show 26 - f < 130; omega)
theorem b32_inj {p q : Bool} : b32 p = b32 q ↔ p = q := by
  cases p <;> cases q <;> decide
theorem x_ofOneSuit (h : VA M a r) (hx : ∀ k, k < 25 → A r k = nI (x k)) (hx9 : ∀ k, k < 25 → x k < 10000) : f_X2_ofOneSuit a (cs I J A M) = some (nI (vos x), cs I J A M) := by
  have e1' : f_X2_anyOf a 0 9 (cs I J A M) = some (b32 (vany x 0 9), cs I J A M) := x_anyOf h hx hx9 0 9 (by decide) (by decide)
  have e2' : f_X2_anyOf a 9 18 (cs I J A M) = some (b32 (vany x 9 18), cs I J A M) := x_anyOf h hx hx9 9 18 (by decide) (by decide)
  have e3' : f_X2_anyOf a 18 25 (cs I J A M) = some (b32 (vany x 18 25), cs I J A M) := x_anyOf h hx hx9 18 25 (by decide) (by decide)
  unfold f_X2_ofOneSuit f_X2_ofOneSuit_0 vos
  rw [if_pos (show mK (cs I J A M) a = 8 from h.1), e1', Option.bind_some, if_pos (show mK (cs I J A M) a = 8 from h.1)]
  dsimp only
  rw [e2', Option.bind_some]
  dsimp only
  by_cases y : vany x 0 9 = vany x 9 18
  · rw [if_pos (b32_inj.mpr y), if_pos y]
    rfl
  · rw [if_neg (fun z => y (b32_inj.mp z)), if_neg y, if_pos (show mK (cs I J A M) a = 8 from h.1), e3', Option.bind_some]
    dsimp only
    cases vany x 18 25
    · rw [if_pos (show b32 false = 0 from rfl), if_neg (by decide)]
      rfl
    · rw [if_neg (show ¬ b32 true = 0 by decide), if_pos rfl]
      rfl
theorem x_setOf (h : VA M a r) (hx : ∀ k, k < 25 → A r k = nI (x k)) (hx9 : ∀ k, k < 25 → x k < 10000) {k : Nat} (hk : 18 ≤ k) (hk2 : k < 25) : f_X2_setOf a (nI k) (cs I J A M) = some (nI (ge3 (x k)), cs I J A M) := by
  obtain ⟨h1, h2, h3, h4⟩ := h
  have h9 := hx9 k hk2
  unfold f_X2_setOf f_X2_setOf_0 ge3
  rw [if_neg (lt_f (y := 18) k 18 hk (by omega)), if_neg (le_f (x := 25) 25 k hk2 (by decide)), gR_cs 256 h1 h2, Option.bind_some, lA_cs h3 (by omega) (by omega), Option.bind_some, hx k hk2]
  by_cases y : x k < 3
  · rw [if_pos (lt_t (y := 3) (x k) 3 y (by decide)), if_neg (by omega)]
    rfl
  · rw [if_neg (lt_f (y := 3) (x k) 3 (by omega) (by omega)), if_pos (by omega)]
    rfl
theorem vpn_st {i : Nat} (hi : i < 25) : vpn x i = if x i = 0 ∨ (i < 18 ∧ i % 9 ≠ 0 ∧ i % 9 ≠ 8) then vpn x (i + 1) else false := by
  by_cases y : x i = 0 ∨ (i < 18 ∧ i % 9 ≠ 0 ∧ i % 9 ≠ 8)
  · rw [if_pos y]
    exact dcl_c ⟨fun h k a b c => h k (by omega) b c, fun h k a b c => by
      by_cases z : k = i
      · subst z
        exact y.elim (fun w => absurd w c) id
      · exact h k (by omega) b c⟩
  · rw [if_neg y]
    exact dcl_f fun h => y (by
      by_cases z : x i = 0
      · exact Or.inl z
      · exact Or.inr (h i (Nat.le_refl _) hi z))
theorem x_woEnds (h : VA M a r) (hx : ∀ k, k < 25 → A r k = nI (x k)) (hx9 : ∀ k, k < 25 → x k < 10000) : ∀ (d n i : Nat), i + d = 25 → d < n → f_X2_withoutEndsAndHonours_2 n a (nI i) (cs I J A M) = some (b32 (vpn x i), cs I J A M) := by
  obtain ⟨h1, h2, h3, h4⟩ := h
  intro d
  induction d with
  | zero =>
    intro n i hi hn
    obtain ⟨n, rfl⟩ : ∃ m, n = m + 1 := ⟨n - 1, by omega⟩
    rw [f_X2_withoutEndsAndHonours_2, if_pos (le_t (x := 25) 25 i (by omega) (by omega)), show vpn x i = true from dcl_t fun k q1 q2 => by omega]
    rfl
  | succ d ih =>
    intro n i hi hn
    obtain ⟨n, rfl⟩ : ∃ m, n = m + 1 := ⟨n - 1, by omega⟩
    have h9 := hx9 i (by omega)
    have em : zmd (nI i) 9 = nI (i % 9) := pk_rem (a := i) (d := 9) (by omega) (by decide) (by decide)
    have k29 : ∀ y : Bool, (y = true ↔ (i % 9 = 0 ∨ i % 9 = 8)) → f_X2_withoutEndsAndHonours_29 (f_X2_withoutEndsAndHonours_2 n) a (nI i) (b32 y) (cs I J A M) = some (b32 (vpn x i), cs I J A M) := fun y hy => by
      unfold f_X2_withoutEndsAndHonours_29
      rw [gR_cs 256 h1 h2, Option.bind_some, lA_cs h3 (by omega) (by omega), Option.bind_some, hx i (by omega), nI_1, vpn_st (by omega)]
      by_cases z : x i = 0
      · rw [if_pos (le_t (y := 0) (x i) 0 (by omega) (by decide)), if_pos (Or.inl z)]
        exact ih n (i + 1) (by omega) (by omega)
      · rw [if_neg (le_f (y := 0) (x i) 0 (by omega) (by omega))]
        by_cases z2 : 18 ≤ i
        · rw [if_pos (le_t (x := 18) 18 i z2 (by omega)), if_neg (by omega)]
          rfl
        · rw [if_neg (le_f (x := 18) 18 i (by omega) (by decide))]
          cases y with
          | false =>
            have hy' : ¬ (i % 9 = 0 ∨ i % 9 = 8) := fun c => absurd (hy.mpr c) (by decide)
            rw [if_pos (show b32 false = 0 from rfl), if_pos (Or.inr ⟨by omega, by omega, by omega⟩)]
            exact ih n (i + 1) (by omega) (by omega)
          | true =>
            have hy' := hy.mp rfl
            rw [if_neg (show ¬ b32 true = 0 by decide), if_neg (by omega)]
            rfl
    rw [f_X2_withoutEndsAndHonours_2, if_neg (le_f (x := 25) 25 i (by omega) (by decide)), em]
    by_cases z : i % 9 = 0
    · rw [if_pos (show nI (i % 9) = 0 by rw [z]; rfl)]
      exact k29 true ⟨fun _ => Or.inl z, fun _ => rfl⟩
    · rw [if_neg (eq_f (y := 0) (i % 9) 0 z (by omega) (by decide))]
      by_cases z2 : i % 9 = 8
      · rw [if_pos (show nI (i % 9) = 8 by rw [z2]; rfl)]
        exact k29 true ⟨fun _ => Or.inr z2, fun _ => rfl⟩
      · rw [if_neg (eq_f (y := 8) (i % 9) 8 z2 (by omega) (by decide))]
        exact k29 false ⟨fun c => absurd c (by decide), fun c => by omega⟩
theorem x_rowLies (hs : SE M b t s rr) (hN : I 228 b = nI N) (hN3 : N ≤ 3) (hv : ∀ j, j < N → A s j = nI (v j)) (h4 : ∀ j, j < N → v j < 400) : f_X1_rowLies b (cs I J A M) = some (b32 (!nrow v N), cs I J A M) := by
  obtain ⟨y, e, e2, e3⟩ := q_rowLies (J := J) (A := A) hs hN hN3
  rw [e]
  have iff : y = 0 ↔ nrow v N = true := by
    rw [e3]
    unfold nrow
    rw [decide_eq_true_iff]
    have one : ∀ j, j < N → (A s j / 100 ≠ 1 ↔ v j / 100 ≠ 1) := fun j hj => by
      have h := h4 j hj
      have e1 : nI (v j) / 100 = nI (v j / 100) := pk_div (a := v j) (d := 100) (by omega) (by decide) (by decide)
      rw [hv j hj, e1]
      exact ⟨fun q z => q (by rw [z]; rfl), fun q => eq_f (y := 1) (v j / 100) 1 q (by omega) (by decide)⟩
    exact ⟨fun q j hj => (one j hj).mp (q j hj), fun q j hj => (one j hj).mpr (q j hj)⟩
  cases hh : nrow v N with
  | true => rw [iff.mpr hh]; rfl
  | false =>
    rcases e2 with z | z
    · rw [iff.mp z] at hh; cases hh
    · rw [z]; rfl
/-- the rest of the look for threes and a pair -/
noncomputable def wrc (g v : Nat → Nat) (N Y i d : Nat) : Bool := dcl ((∀ k : Nat, i ≤ k → k < 25 → g k % 3 ≠ 1) ∧ Y + p2c g i d = 1) && nrow v N
theorem x_woRows (hs : SE M b t s rr) (hN : I 228 b = nI N) (hN3 : N ≤ 3) (hw : ∀ k, k < 25 → A t k = nI (g k)) (hg : ∀ k, k < 25 → g k < 1000) (hv : ∀ j, j < N → A s j = nI (v j)) (h4 : ∀ j, j < N → v j < 400) : ∀ (d n i Y : Nat), i + d = 25 → d < n → Y ≤ i → f_X2_withoutRows_4 n b (nI Y) (nI i) (cs I J A M) = some (b32 (wrc g v N Y i d), cs I J A M) := by
  intro d
  induction d with
  | zero =>
    intro n i Y hi hn hY
    obtain ⟨n, rfl⟩ : ∃ m, n = m + 1 := ⟨n - 1, by omega⟩
    have e0 : p2c g i 0 = 0 := rfl
    unfold wrc
    rw [f_X2_withoutRows_4, if_pos (le_t (x := 25) 25 i (by omega) (by omega)), e0]
    by_cases y : Y = 1
    · rw [if_pos (show nI Y = 1 by rw [y]; rfl), if_pos (show mK (cs I J A M) b = 7 from hs.1), x_rowLies hs hN hN3 hv h4, Option.bind_some, dcl_t ⟨fun k q1 q2 => by omega, by omega⟩, Bool.true_and]
      dsimp only
      cases nrow v N
      · rfl
      · rfl
    · rw [if_neg (eq_f (y := 1) Y 1 y (by omega) (by decide)), dcl_f (fun z => y (by have := z.2; omega)), Bool.false_and]
      rfl
  | succ d ih =>
    intro n i Y hi hn hY
    obtain ⟨n, rfl⟩ : ∃ m, n = m + 1 := ⟨n - 1, by omega⟩
    have hgi := hg i (by omega)
    have em : zmd (nI (g i)) 3 = nI (g i % 3) := pk_rem (a := g i) (d := 3) (by omega) (by decide) (by decide)
    have ep : p2c g i (d + 1) = (if g i % 3 = 2 then 1 else 0) + p2c g (i + 1) d := rfl
    rw [f_X2_withoutRows_4, if_neg (le_f (x := 25) 25 i (by omega) (by decide)), if_pos (show mK (cs I J A M) b = 7 from hs.1), q_count hs (by omega), Option.bind_some, nI_1 i]
    dsimp only
    rw [hw i (by omega), em]
    by_cases y1 : g i % 3 = 1
    · rw [if_pos (show nI (g i % 3) = 1 by rw [y1]; rfl)]
      have e : wrc g v N Y i (d + 1) = false := by
        unfold wrc
        rw [dcl_f (fun z => z.1 i (Nat.le_refl _) (by omega) y1), Bool.false_and]
      rw [e]
      rfl
    · rw [if_neg (eq_f (y := 1) (g i % 3) 1 y1 (by omega) (by decide))]
      have st : ∀ c, (if g i % 3 = 2 then 1 else 0) = c → wrc g v N Y i (d + 1) = wrc g v N (Y + c) (i + 1) d := fun c hc => by
        unfold wrc
        rw [ep, hc]
        refine congrArg (· && nrow v N) (dcl_c ⟨fun z => ⟨fun k q1 q2 => z.1 k (by omega) q2, by omega⟩, fun z => ⟨fun k q1 q2 => ?_, by omega⟩⟩)
        by_cases w : k = i
        · subst w; exact y1
        · exact z.1 k (by omega) q2
      by_cases y2 : g i % 3 = 2
      · have e1 : nI Y + 1 = nI (Y + 1) := nI_1 Y
        rw [if_pos (show nI (g i % 3) = 2 by rw [y2]; rfl), e1, st 1 (if_pos y2)]
        exact ih n (i + 1) (Y + 1) (by omega) (by omega) (by omega)
      · have e1 : nI Y + 0 = nI (Y + 0) := nI_add Y 0
        rw [if_neg (eq_f (y := 2) (g i % 3) 2 y2 (by omega) (by decide)), e1, st 0 (if_neg y2)]
        exact ih n (i + 1) (Y + 0) (by omega) (by omega) (by omega)
theorem x_value_144 (h : VA M a r) (hx : ∀ k, k < 25 → A r k = nI (x k)) (hx9 : ∀ k, k < 25 → x k < 10000) {p q : Nat} (hp : p < 100000) (hq : q < 100000) : f_X2_value_144 a (nI p) (nI q) (cs I J A M) = some (nI (min (q + p + vos x) 12), cs I J A M) := by
  have l : vos x ≤ 4 := by
    unfold vos
    repeat' split
    all_goals omega
  unfold f_X2_value_144
  have e12 : f_J9_min_7cf53 (nI (q + p + vos x)) 12 (cs I J A M) = some (nI (min (q + p + vos x) 12), cs I J A M) := x_minN (b := 12) (by omega) (by decide) _
  rw [if_pos (show mK (cs I J A M) a = 8 from h.1), x_ofOneSuit h hx hx9, Option.bind_some]
  dsimp only
  rw [nI_add, nI_add, e12, Option.bind_some]
theorem x_value_127 (h : VA M a r) (hs : SE M b t s rr) (hN : I 228 b = nI N) (hN3 : N ≤ 3) (hw : ∀ k, k < 25 → A t k = nI (g k)) (hg : ∀ k, k < 25 → g k < 1000) (hv : ∀ j, j < N → A s j = nI (v j)) (h4 : ∀ j, j < N → v j < 400) (hx : ∀ k, k < 25 → A r k = nI (x k)) (hx9 : ∀ k, k < 25 → x k < 10000) {p q : Nat} (hp : p < 30000) (hq : q < 30000) : f_X2_value_127 a b (nI p) (nI q) (cs I J A M) = some (nI (min (q + p + (if wrc g v N 0 0 25 = true then 2 else 0) + vos x) 12), cs I J A M) := by
  unfold f_X2_value_127 f_X2_withoutRows f_X2_withoutRows_0
  have e' : f_X2_withoutRows_4 zN b 0 0 (cs I J A M) = some (b32 (wrc g v N 0 0 25), cs I J A M) := x_woRows (J := J) (A := A) hs hN hN3 hw hg hv h4 25 zN 0 0 rfl (by decide) (Nat.le_refl _)
  rw [e', Option.bind_some, nI_add]
  dsimp only
  cases wrc g v N 0 0 25
  · rw [if_pos (show b32 false = 0 from rfl), if_neg (by decide)]
    exact x_value_144 (p := 0) h hx hx9 (by omega) (by omega)
  · rw [if_neg (show ¬ b32 true = 0 by decide), if_pos rfl]
    exact x_value_144 (p := 2) h hx hx9 (by omega) (by omega)
theorem ge3_le (n : Nat) : ge3 n ≤ 1 := by
  unfold ge3
  split <;> omega
theorem x_value_75 (h : VA M a r) (hs : SE M b t s rr) (hN : I 228 b = nI N) (hN3 : N ≤ 3) (hw : ∀ k, k < 25 → A t k = nI (g k)) (hg : ∀ k, k < 25 → g k < 1000) (hv : ∀ j, j < N → A s j = nI (v j)) (h4 : ∀ j, j < N → v j < 400) (hx : ∀ k, k < 25 → A r k = nI (x k)) (hx9 : ∀ k, k < 25 → x k < 10000) {wd : Nat} (hwd : wd < 4) {q : Nat} (hq : q < 20000) : f_X2_value_75 zN a b (nI wd) (nI q) 22 (cs I J A M) = some (nI (min (q + (ge3 (x 22) + ge3 (x 23) + ge3 (x 24)) + ge3 (x (18 + wd)) + (if vpn x 0 = true then 1 else 0) + (if wrc g v N 0 0 25 = true then 2 else 0) + vos x) 12), cs I J A M) := by
  have s1 : f_X2_setOf a 22 (cs I J A M) = some (nI (ge3 (x 22)), cs I J A M) := x_setOf (k := 22) h hx hx9 (by decide) (by decide)
  have s2 : f_X2_setOf a 23 (cs I J A M) = some (nI (ge3 (x 23)), cs I J A M) := x_setOf (k := 23) h hx hx9 (by decide) (by decide)
  have s3 : f_X2_setOf a 24 (cs I J A M) = some (nI (ge3 (x 24)), cs I J A M) := x_setOf (k := 24) h hx hx9 (by decide) (by decide)
  have e18 : (18 : Int32) + nI wd = nI (18 + wd) := nI_add 18 wd
  have s4 : f_X2_setOf a (18 + nI wd) (cs I J A M) = some (nI (ge3 (x (18 + wd))), cs I J A M) := by
    rw [e18]
    exact x_setOf h hx hx9 (by omega) (by omega)
  have we : f_X2_withoutEndsAndHonours a (cs I J A M) = some (b32 (vpn x 0), cs I J A M) := x_woEnds (I := I) (J := J) (A := A) h hx hx9 25 zN 0 rfl (by decide)
  have k8 : mK (cs I J A M) a = 8 := h.1
  have i1 : (22 : Int32) + 1 = 23 := rfl
  have i2 : (23 : Int32) + 1 = 24 := rfl
  have i3 : (24 : Int32) + 1 = 25 := rfl
  have l1 := ge3_le (x 22)
  have l2 := ge3_le (x 23)
  have l3 := ge3_le (x 24)
  have l4 := ge3_le (x (18 + wd))
  rw [show zN = 125 + 1 + 1 + 1 + 1 + 1 from rfl]
  rw [f_X2_value_75, if_neg (by decide), if_pos k8, s1, Option.bind_some, nI_add, i1]
  rw [f_X2_value_75, if_neg (by decide), if_pos k8, s2, Option.bind_some, nI_add, i2]
  rw [f_X2_value_75, if_neg (by decide), if_pos k8, s3, Option.bind_some, nI_add, i3]
  rw [f_X2_value_75, if_pos (by decide), if_pos k8, s4, Option.bind_some]
  dsimp only
  rw [if_pos k8, we, Option.bind_some, nI_add]
  dsimp only
  cases vpn x 0
  · rw [if_pos (show b32 false = 0 from rfl), if_neg (by decide)]
    have e := x_value_127 (J := J) (A := A) (p := 0) (q := q + ge3 (x 22) + ge3 (x 23) + ge3 (x 24) + ge3 (x (18 + wd))) h hs hN hN3 hw hg hv h4 hx hx9 (by decide) (by omega)
    have e' : f_X2_value_127 a b 0 (nI (q + ge3 (x 22) + ge3 (x 23) + ge3 (x 24) + ge3 (x (18 + wd)))) (cs I J A M) = _ := e
    rw [e']
    refine congrArg (fun z => some (nI (min z 12), cs I J A M)) (by omega)
  · rw [if_neg (show ¬ b32 true = 0 by decide), if_pos rfl]
    have e := x_value_127 (J := J) (A := A) (p := 1) (q := q + ge3 (x 22) + ge3 (x 23) + ge3 (x 24) + ge3 (x (18 + wd))) h hs hN hN3 hw hg hv h4 hx hx9 (by decide) (by omega)
    have e' : f_X2_value_127 a b 1 (nI (q + ge3 (x 22) + ge3 (x 23) + ge3 (x 24) + ge3 (x (18 + wd)))) (cs I J A M) = _ := e
    rw [e']
    refine congrArg (fun z => some (nI (min z 12), cs I J A M)) (by omega)
/-- the value by the class -/
theorem x_value (h : VA M a r) (hs : SE M b t s rr) (hr : r ≠ t ∧ r ≠ s) (hN : I 228 b = nI N) (hN3 : N ≤ 3) (hw : ∀ k, k < 25 → A t k = nI (g k)) (hg : ∀ k, k < 25 → g k < 1000) (hv : ∀ j, j < N → A s j = nI (v j)) (h4 : ∀ j, j < N → v j < 400) {c : Bool} (hc : I 230 b = b32 c) (al : Bool) {lk wd : Nat} (hlk : lk < 25) (hwd : wd < 4) : ∃ w', f_X2_value a b (b32 al) (nI lk) (nI wd) (cs I J A M) = some (nI (min (vsum al c (sn (fun j => if v j / 100 = 3 then 0 else 1) 0 N) lk wd (alk g v N) (wrc g v N 0 0 25)) 12), cs I J (ur A r w') M) := by
  obtain ⟨w', e, f⟩ := x_gather (J := J) (A := A) h hs hr hN hN3 hw hv h4
  refine ⟨w', ?_⟩
  have hx9 : ∀ k, k < 25 → alk g v N k < 2000 := fun k hk => by
    have := hg k hk
    have := lys_le (v := v) hN3 k
    unfold alk
    omega
  have hw2 : ∀ k, k < 25 → ur A r w' t k = nI (g k) := fun k hk => (ur_ne A k w' (Ne.symm hr.1)).trans (hw k hk)
  have hv2 : ∀ j, j < N → ur A r w' s j = nI (v j) := fun j hj => (ur_ne A j w' (Ne.symm hr.2)).trans (hv j hj)
  have hx2 : ∀ k, k < 25 → ur A r w' r k = nI (alk g v N k) := fun k hk => (ur_at A r k w').trans (f k hk)
  have eop : f_X1_openSets b (cs I J (ur A r w') M) = some (nI (sn (fun j => if v j / 100 = 3 then 0 else 1) 0 N), cs I J (ur A r w') M) := by
    rw [q_openSets hs hN hN3]
    rw [sm_nI _ (fun j => if v j / 100 = 3 then 0 else 1) N 0 (fun j _ hj => by
      have hj' : j < N := by omega
      have h9 := h4 j hj'
      have e1 : nI (v j) / 100 = nI (v j / 100) := pk_div (a := v j) (d := 100) (by omega) (by decide) (by decide)
      show (if ur A r w' s j / 100 = 3 then (0 : Int32) else 1) = _
      rw [hv2 j hj', e1]
      by_cases y : v j / 100 = 3
      · rw [if_pos (show nI (v j / 100) = 3 by rw [y]; rfl), if_pos y]; rfl
      · rw [if_neg (eq_f (y := 3) (v j / 100) 3 y (by omega) (by decide)), if_neg y]; rfl)]
  have k43 : ∀ p q : Nat, p < 10 → q < 10 → f_X2_value_43 a b (nI lk) (nI wd) (nI p) (nI q) (cs I J (ur A r w') M) = some (nI (min (q + p + alk g v N lk + (ge3 (alk g v N 22) + ge3 (alk g v N 23) + ge3 (alk g v N 24)) + ge3 (alk g v N (18 + wd)) + (if vpn (alk g v N) 0 = true then 1 else 0) + (if wrc g v N 0 0 25 = true then 2 else 0) + vos (alk g v N)) 12), cs I J (ur A r w') M) := fun p q hp hq => by
    have h9 := hx9 lk hlk
    unfold f_X2_value_43 f_X2_value_68
    rw [if_neg (nI_nn (by omega)), if_neg (le_f (x := 25) 25 lk hlk (by decide)), gR_cs 256 h.1 h.2.1, Option.bind_some, lA_cs h.2.2.1 (by rw [h.2.2.2]; omega) (by rw [h.2.2.2]; decide), Option.bind_some, hx2 lk hlk, nI_add, nI_add]
    exact x_value_75 (J := J) (A := ur A r w') h hs hN hN3 hw2 hg hv2 h4 hx2 (fun k hk => by have := hx9 k hk; omega) hwd (by omega)
  have k22 : ∀ p : Nat, p < 2 → f_X2_value_22 a b (b32 al) (nI lk) (nI wd) (nI p) 1 (cs I J (ur A r w') M) = some (nI (min (1 + p + (if al = true ∧ sn (fun j => if v j / 100 = 3 then 0 else 1) 0 N = 0 then 1 else 0) + alk g v N lk + (ge3 (alk g v N 22) + ge3 (alk g v N 23) + ge3 (alk g v N 24)) + ge3 (alk g v N (18 + wd)) + (if vpn (alk g v N) 0 = true then 1 else 0) + (if wrc g v N 0 0 25 = true then 2 else 0) + vos (alk g v N)) 12), cs I J (ur A r w') M) := fun p hp => by
    unfold f_X2_value_22 f_X2_value_42
    have e1p : (1 : Int32) + nI p = nI (1 + p) := nI_add 1 p
    rw [e1p]
    cases al with
    | false =>
      rw [if_pos (show b32 false = 0 from rfl), if_neg (show ¬ (false = true ∧ sn (fun j => if v j / 100 = 3 then 0 else 1) 0 N = 0) from fun z => by cases z.1)]
      exact k43 0 (1 + p) (by decide) (by omega)
    | true =>
      rw [if_neg (show ¬ b32 true = 0 by decide), if_pos (show mK (cs I J (ur A r w') M) b = 7 from hs.1), eop, Option.bind_some]
      dsimp only
      have l := sn_le1 (fun j => if v j / 100 = 3 then 0 else 1) (fun j => by split <;> omega) N 0
      by_cases y : sn (fun j => if v j / 100 = 3 then 0 else 1) 0 N = 0
      · rw [if_pos (show nI (sn (fun j => if v j / 100 = 3 then 0 else 1) 0 N) = 0 by rw [y]; rfl), if_pos ⟨rfl, y⟩]
        exact k43 1 (1 + p) (by decide) (by omega)
      · rw [if_neg (eq_f (y := 0) _ 0 y (by omega) (by decide)), if_neg (fun z => y z.2)]
        exact k43 0 (1 + p) (by decide) (by omega)
  unfold f_X2_value f_X2_value_0
  rw [if_pos (show mK (cs I J A M) a = 8 from h.1), e, Option.bind_some]
  dsimp only
  rw [gI_cs 230 hs.1, Option.bind_some, hc]
  unfold vsum
  cases c with
  | false =>
    rw [if_pos (show b32 false = 0 from rfl), if_neg (by decide)]
    exact k22 0 (by decide)
  | true =>
    rw [if_neg (show ¬ b32 true = 0 by decide), if_pos rfl]
    exact k22 1 (by decide)
end XVAL
