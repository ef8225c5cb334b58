/-! ===== PURE: the value of a win: the best way to part a hand against its counts ===== -/
/-- what a three of a kind is worth, for the own wind -/
def hv (wd k : Nat) : Nat := if 22 ≤ k then 1 else if k = 18 + wd then 1 else 0
def hsum (wd : Nat) (g : Nat → Nat) : Nat := g 22 / 3 + g 23 / 3 + g 24 / 3 + g (18 + wd) / 3
/-- threes alone -/
def al3 (g : Nat → Nat) : Bool := decide (∀ k : Nat, k < 25 → g k % 3 = 0)
/-- the best that the sets of a hand make: with S sets that lie, t threes, u so far -/
def VR (wd S t u : Nat) (g : Nat → Nat) : Option Nat := if ris 25 0 g = true then some (u + hsum wd g + if al3 g = true ∧ t = S then 2 else 0) else none
def omx : Option Nat → Option Nat → Option Nat
  | none, y => y
  | some a, none => some a
  | some a, some b => some (max a b)
def enc (x : Option Nat) : Int32 := match x with
  | none => -1
  | some a => nI a
def osm (x : Option Nat) : Prop := ∀ a, x = some a → a < 10000
theorem omx_sm {x y : Option Nat} (hx : osm x) (hy : osm y) : osm (omx x y) := fun a h => by
  cases x with
  | none => exact hy a h
  | some b =>
    cases y with
    | none => exact hx a h
    | some c =>
      have h1 := hx b rfl
      have h2 := hy c rfl
      have h3 : max b c = a := Option.some.inj h
      omega
theorem x_maxo {x y : Option Nat} (hx : osm x) (hy : osm y) (M : zM) : f_J9_max_7cf53 (enc x) (enc y) M = some (enc (omx x y), M) := by
  unfold f_J9_max_7cf53 f_J9_max_7cf53_0
  cases x with
  | none =>
    cases y with
    | none => exact if_neg (show ¬ (-1 : Int32) < -1 by decide)
    | some c =>
      have h2 := hy c rfl
      have h : (-1 : Int32) < nI c := Int32.lt_of_lt_of_le (show (-1 : Int32) < 0 by decide) (le_t (x := 0) 0 c (Nat.zero_le _) (by omega))
      exact if_pos h
  | some b =>
    have h1 := hx b rfl
    cases y with
    | none =>
      have h : ¬ nI b < (-1 : Int32) := fun z => nI_nn (n := b) (by omega) (Int32.lt_trans z (by decide))
      exact if_neg h
    | some c =>
      have h2 := hy c rfl
      show (if nI b < nI c then some (nI c, M) else some (nI b, M)) = some (nI (max b c), M)
      by_cases h : b < c
      · rw [if_pos (lt_t b c h (by omega)), Nat.max_eq_right (by omega)]
      · rw [if_neg (lt_f b c (by omega) (by omega)), Nat.max_eq_left (by omega)]
theorem hsum_le {wd : Nat} (hwd : wd < 4) {g : Nat → Nat} (hg : ∀ k, k < 25 → g k < 1000) : hsum wd g ≤ 1332 := by
  have h1 := hg 22 (by decide)
  have h2 := hg 23 (by decide)
  have h3 := hg 24 (by decide)
  have h4 := hg (18 + wd) (by omega)
  unfold hsum
  omega
theorem VR_sm {wd S t u : Nat} (hwd : wd < 4) (hu : u < 1000) {g : Nat → Nat} (hg : ∀ k, k < 25 → g k < 1000) : osm (VR wd S t u g) := fun a h => by
  have hh := hsum_le hwd hg
  unfold VR at h
  split at h
  · have h := Option.some.inj h
    split at h <;> omega
  · cases h
theorem al3_ris {g : Nat → Nat} (h : al3 g = true) : ris 25 0 g = true :=
  (ris_iff 25 0 g rfl).mpr ⟨fun _ => 0, fun j q => absurd rfl q, fun k _ hk => ⟨g k / 3, by
    have := of_decide_eq_true h k hk
    have e : pr (fun _ => 0) k = 0 := by
      unfold pr
      repeat' split
      all_goals rfl
    omega⟩⟩
theorem hsum_3 {wd a : Nat} (hwd : wd < 4) (ha : a < 25) (g : Nat → Nat) (h3 : 3 ≤ g a) : hsum wd (u1 g a (g a - 3)) + hv wd a = hsum wd g := by
  have e : ∀ k, u1 g a (g a - 3) k / 3 + (if k = a then 1 else 0) = g k / 3 := fun k => by
    by_cases y : k = a
    · subst y
      rw [u1_at, if_pos rfl]
      omega
    · rw [u1_ne _ _ y, if_neg y]
      rfl
  have e1 := e 22
  have e2 := e 23
  have e3 := e 24
  have e4 := e (18 + wd)
  unfold hsum hv
  by_cases z1 : a = 22
  · rw [if_pos z1.symm] at e1
    rw [if_neg (by omega)] at e2 e3 e4
    rw [if_pos (by omega)]
    omega
  · by_cases z2 : a = 23
    · rw [if_pos z2.symm] at e2
      rw [if_neg (by omega)] at e1 e3 e4
      rw [if_pos (by omega)]
      omega
    · by_cases z3 : a = 24
      · rw [if_pos z3.symm] at e3
        rw [if_neg (by omega)] at e1 e2 e4
        rw [if_pos (by omega)]
        omega
      · rw [if_neg (by omega)] at e1 e2 e3
        rw [if_neg (by omega)]
        by_cases z4 : a = 18 + wd
        · rw [if_pos z4.symm] at e4
          rw [if_pos z4]
          omega
        · rw [if_neg (fun q => z4 q.symm)] at e4
          rw [if_neg z4]
          omega
theorem hsum_lr {wd a : Nat} (ha : a + 2 < 18) (g : Nat → Nat) : hsum wd (lr g a) = hsum wd g := by
  unfold hsum
  rw [lr_n g (by omega), lr_n g (by omega), lr_n g (by omega), lr_n g (by omega)]
theorem al3_3 {a : Nat} (g : Nat → Nat) (h3 : 3 ≤ g a) : al3 (u1 g a (g a - 3)) = al3 g := decide_eq_decide.mpr ⟨fun h k hk => by
    have := h k hk
    by_cases y : k = a
    · subst y; rw [u1_at] at this; omega
    · rw [u1_ne _ _ y] at this; exact this, fun h k hk => by
    have := h k hk
    by_cases y : k = a
    · subst y; rw [u1_at]; omega
    · rw [u1_ne _ _ y]; exact this⟩
/-- a step at the smallest kind: a three, or a row -/
theorem VR_step {wd S t u a : Nat} (hwd : wd < 4) (ha : a < 25) (g : Nat → Nat) (hz : ∀ j, j < a → g j = 0) (hp : g a ≠ 0) (ht : t ≤ S) : omx (if 3 ≤ g a then VR wd (S + 1) (t + 1) (u + hv wd a) (u1 g a (g a - 3)) else none) (if rw_ a = true ∧ g (a + 1) ≠ 0 ∧ g (a + 2) ≠ 0 then VR wd (S + 1) t u (lr g a) else none) = VR wd S t u g := by
  have sp := Dec_split ha g hz hp
  rw [← ris_iff 25 0 g rfl, ← ris_iff 25 0 _ rfl, ← ris_iff 25 0 _ rfl] at sp
  have row : rw_ a = true ∧ g (a + 1) ≠ 0 ∧ g (a + 2) ≠ 0 → VR wd (S + 1) t u (lr g a) = if ris 25 0 (lr g a) = true then some (u + hsum wd g) else none := fun y => by
    have h9 := rw_9 y.1
    have h18 := rw_lt y.1
    unfold VR
    rw [hsum_lr (by omega), if_neg (show ¬ (al3 (lr g a) = true ∧ t = S + 1) from fun z => by have := z.2; omega), Nat.add_zero]
  by_cases d3 : 3 ≤ g a ∧ ris 25 0 (u1 g a (g a - 3)) = true
  · have e : VR wd S t u g = some (u + hsum wd g + if al3 g = true ∧ t = S then 2 else 0) := by
      unfold VR
      rw [if_pos (sp.mpr (Or.inl d3))]
    have e3 : VR wd (S + 1) (t + 1) (u + hv wd a) (u1 g a (g a - 3)) = some (u + hsum wd g + if al3 g = true ∧ t = S then 2 else 0) := by
      unfold VR
      have h := hsum_3 hwd ha g d3.1
      rw [if_pos d3.2, al3_3 g d3.1]
      by_cases c : al3 g = true ∧ t = S
      · rw [if_pos c, if_pos ⟨c.1, by omega⟩]
        exact congrArg some (by omega)
      · rw [if_neg c, if_neg (fun z => c ⟨z.1, by omega⟩)]
        exact congrArg some (by omega)
    rw [if_pos d3.1, e3, e]
    by_cases y : rw_ a = true ∧ g (a + 1) ≠ 0 ∧ g (a + 2) ≠ 0
    · rw [if_pos y, row y]
      by_cases z : ris 25 0 (lr g a) = true
      · rw [if_pos z]
        show some (max _ _) = _
        rw [Nat.max_eq_left (Nat.le_add_right _ _)]
      · rw [if_neg z]
        rfl
    · rw [if_neg y]
      rfl
  · have e3 : (if 3 ≤ g a then VR wd (S + 1) (t + 1) (u + hv wd a) (u1 g a (g a - 3)) else none) = none := by
      by_cases y : 3 ≤ g a
      · rw [if_pos y]
        unfold VR
        rw [if_neg (fun z => d3 ⟨y, z⟩)]
      · rw [if_neg y]
    rw [e3]
    by_cases y : rw_ a = true ∧ g (a + 1) ≠ 0 ∧ g (a + 2) ≠ 0
    · rw [if_pos y, row y]
      show (if ris 25 0 (lr g a) = true then some (u + hsum wd g) else none) = _
      by_cases z : ris 25 0 (lr g a) = true
      · have na : ¬ (al3 g = true ∧ t = S) := fun c => by
          have h := of_decide_eq_true c.1 a ha
          have h3 : 3 ≤ g a := by omega
          exact d3 ⟨h3, al3_ris (by rw [al3_3 g h3]; exact c.1)⟩
        unfold VR
        rw [if_pos z, if_pos (sp.mpr (Or.inr ⟨y.1, y.2.1, y.2.2, z⟩)), if_neg na, Nat.add_zero]
      · unfold VR
        rw [if_neg z, if_neg (fun q => (sp.mp q).elim d3 (fun w => z w.2.2.2))]
    · rw [if_neg y]
      show (none : Option Nat) = _
      unfold VR
      rw [if_neg (fun q => (sp.mp q).elim d3 (fun w => y ⟨w.1, w.2.1, w.2.2.1⟩))]
theorem VR_end {wd S t u : Nat} (hwd : wd < 4) (g : Nat → Nat) (hz : ∀ j, j < 25 → g j = 0) (hs : sn g 0 25 + 3 * S = 9) : (if S = 3 then some (if t = 3 then u + 2 else u + 0) else none) = VR wd S t u g := by
  have e0 := sn_0 g 25 0 (fun k _ q => hz k (by omega))
  have a3 : al3 g = true := decide_eq_true fun k hk => by rw [hz k hk]
  have hh : hsum wd g = 0 := by
    unfold hsum
    rw [hz 22 (by decide), hz 23 (by decide), hz 24 (by decide), hz (18 + wd) (by omega)]
  obtain rfl : S = 3 := by omega
  unfold VR
  rw [if_pos rfl, if_pos (al3_ris a3), hh]
  by_cases c : t = 3
  · rw [if_pos c, if_pos ⟨a3, c⟩]
  · rw [if_neg c, if_neg (fun z => c z.2)]
/-- over all pairs -/
def vpl (wd S t u : Nat) (g : Nat → Nat) : Nat → Nat → Option Nat → Option Nat
  | 0, _, acc => acc
  | d + 1, i, acc => vpl wd S t u g d (i + 1) (if 2 ≤ g i then omx acc (VR wd S t u (u1 g i (g i - 2))) else acc)
/-- none, the sets, the sets of threes alone -/
def vst (X : Nat) : Nat → Option Nat
  | 0 => none
  | 1 => some X
  | _ + 2 => some (X + 2)
theorem vst_mx {X : Nat} : ∀ a, a ≤ 2 → ∀ b, b ≤ 2 → omx (vst X a) (vst X b) = vst X (max a b) := by
  intro a ha b hb
  rcases (show a = 0 ∨ a = 1 ∨ a = 2 by omega) with rfl | rfl | rfl <;> rcases (show b = 0 ∨ b = 1 ∨ b = 2 by omega) with rfl | rfl | rfl
  · rfl
  · rfl
  · rfl
  · rfl
  · show some (max X X) = some X
    rw [Nat.max_self]
  · show some (max X (X + 2)) = some (X + 2)
    rw [Nat.max_eq_right (Nat.le_add_right _ _)]
  · rfl
  · show some (max (X + 2) X) = some (X + 2)
    rw [Nat.max_eq_left (Nat.le_add_right _ _)]
  · show some (max (X + 2) (X + 2)) = some (X + 2)
    rw [Nat.max_self]
/-- the stage of a pair -/
def vsg (S t : Nat) (g : Nat → Nat) (i : Nat) : Nat := if 2 ≤ g i ∧ ris 25 0 (u1 g i (g i - 2)) = true then (if al3 (u1 g i (g i - 2)) = true ∧ t = S then 2 else 1) else 0
theorem vsg_le (S t : Nat) (g : Nat → Nat) (i : Nat) : vsg S t g i ≤ 2 := by
  unfold vsg
  repeat' split
  all_goals omega
theorem vpl_sp {wd S t u X : Nat} {g : Nat → Nat} (hX : ∀ i, i < 25 → 2 ≤ g i → ris 25 0 (u1 g i (g i - 2)) = true → u + hsum wd (u1 g i (g i - 2)) = X) : ∀ (d i s : Nat), i + d = 25 → s ≤ 2 → ∃ s', vpl wd S t u g d i (vst X s) = vst X s' ∧ s' ≤ 2 ∧ s ≤ s' ∧ (∀ j, i ≤ j → j < 25 → vsg S t g j ≤ s') ∧ (s' = s ∨ ∃ j, i ≤ j ∧ j < 25 ∧ vsg S t g j = s') := by
  intro d
  induction d with
  | zero => exact fun i s hi hs => ⟨s, rfl, hs, Nat.le_refl _, fun j h1 h2 => by omega, Or.inl rfl⟩
  | succ d ih =>
    intro i s hi hs
    have e : (if 2 ≤ g i then omx (vst X s) (VR wd S t u (u1 g i (g i - 2))) else vst X s) = vst X (max s (vsg S t g i)) := by
      by_cases y : 2 ≤ g i
      · have e1 : VR wd S t u (u1 g i (g i - 2)) = vst X (vsg S t g i) := by
          unfold VR vsg
          by_cases z : ris 25 0 (u1 g i (g i - 2)) = true
          · rw [if_pos z, if_pos (show 2 ≤ g i ∧ ris 25 0 (u1 g i (g i - 2)) = true from ⟨y, z⟩), hX i (by omega) y z]
            by_cases c : al3 (u1 g i (g i - 2)) = true ∧ t = S
            · rw [if_pos c, if_pos c]; rfl
            · rw [if_neg c, if_neg c]; rfl
          · rw [if_neg z, if_neg (fun q => z q.2)]; rfl
        rw [if_pos y, e1, vst_mx s hs _ (vsg_le S t g i)]
      · have e1 : vsg S t g i = 0 := if_neg (fun q => y q.1)
        rw [if_neg y, e1, Nat.max_eq_left (Nat.zero_le _)]
    have l := vsg_le S t g i
    obtain ⟨s', q1, q2, q3, q4, q5⟩ := ih (i + 1) (max s (vsg S t g i)) (by omega) (by omega)
    refine ⟨s', by rw [vpl, e]; exact q1, q2, by omega, fun j h1 h2 => ?_, ?_⟩
    · by_cases y : j = i
      · subst y; omega
      · exact q4 j (by omega) h2
    · rcases q5 with q5 | ⟨j, h1, h2, h3⟩
      · by_cases y : vsg S t g i ≤ s
        · exact Or.inl (by omega)
        · exact Or.inr ⟨i, Nat.le_refl _, by omega, by omega⟩
      · exact Or.inr ⟨j, by omega, h2, h3⟩
/-- three of an honour in hand -/
def ge3 (x : Nat) : Nat := if 3 ≤ x then 1 else 0
/-- threes and a pair -/
def wr3 (g : Nat → Nat) : Bool := decide (∃ i : Nat, i < 25 ∧ 2 ≤ g i ∧ al3 (u1 g i (g i - 2)) = true)
theorem vpl_val {wd S t u : Nat} {g : Nat → Nat} (hwd : wd < 4) (hc : cmp 25 0 g = true) (h5 : ∀ k, 18 ≤ k → k < 25 → g k ≤ 5) : vpl wd S t u g 25 0 none = some (u + (ge3 (g 22) + ge3 (g 23) + ge3 (g 24) + ge3 (g (18 + wd))) + if wr3 g = true ∧ t = S then 2 else 0) := by
  have key : ∀ i k, i < 25 → 18 ≤ k → k < 25 → 2 ≤ g i → ris 25 0 (u1 g i (g i - 2)) = true → u1 g i (g i - 2) k / 3 = ge3 (g k) := fun i k hi hk1 hk2 h2 hr => by
    obtain ⟨r, r1, r2⟩ := (ris_iff 25 0 _ rfl).mp hr
    obtain ⟨t, et⟩ := r2 k (Nat.zero_le _) hk2
    have z : ∀ j, 16 ≤ j → r j = 0 := fun j hj => by
      rcases Nat.eq_zero_or_pos (r j) with w | w
      · exact w
      · have h := (r1 j (by omega)).1
        have := rw_lt h
        have := rw_9 h
        omega
    have ep : pr r k = 0 := by
      unfold pr
      rw [z k (by omega), if_pos (by omega), if_pos (by omega), z (k - 1) (by omega), z (k - 2) (by omega)]
    have h5' := h5 k hk1 hk2
    unfold ge3
    by_cases y : k = i
    · subst y
      rw [u1_at] at et ⊢
      split <;> omega
    · rw [u1_ne _ _ y] at et ⊢
      split <;> omega
  obtain ⟨s', q1, q2, -, q4, q5⟩ := vpl_sp (wd := wd) (S := S) (t := t) (u := u) (X := u + (ge3 (g 22) + ge3 (g 23) + ge3 (g 24) + ge3 (g (18 + wd)))) (g := g) (fun i hi h2 hr => by
    unfold hsum
    rw [key i 22 hi (by decide) (by decide) h2 hr, key i 23 hi (by decide) (by decide) h2 hr, key i 24 hi (by decide) (by decide) h2 hr, key i (18 + wd) hi (by omega) (by omega) h2 hr]) 25 0 0 rfl (by decide)
  obtain ⟨i, -, i2, i3, i4⟩ := (cmp_iff 25 0 g rfl).mp hc
  have i4 := (ris_iff 25 0 _ rfl).mpr i4
  have s1 : 1 ≤ vsg S t g i := by
    unfold vsg
    rw [if_pos ⟨i3, i4⟩]
    split <;> omega
  have s2 := q4 i (Nat.zero_le _) i2
  have e0 : vst (u + (ge3 (g 22) + ge3 (g 23) + ge3 (g 24) + ge3 (g (18 + wd)))) 0 = none := rfl
  rw [e0] at q1
  rw [q1]
  by_cases c : wr3 g = true ∧ t = S
  · obtain ⟨j, j1, j2, j3⟩ := of_decide_eq_true c.1
    have s3 : vsg S t g j = 2 := by
      unfold vsg
      rw [if_pos ⟨j2, al3_ris j3⟩, if_pos ⟨j3, c.2⟩]
    have := q4 j (Nat.zero_le _) j1
    obtain rfl : s' = 2 := by omega
    rw [if_pos c]
    rfl
  · have e1 : s' = 1 := by
      rcases q5 with q5 | ⟨j, h1, h2, h3⟩
      · omega
      · have : vsg S t g j ≠ 2 := fun z => by
          unfold vsg at z
          split at z
          · rename_i w
            split at z
            · rename_i v
              exact c ⟨decide_eq_true ⟨j, h2, w.1, v.1⟩, v.2⟩
            · omega
          · omega
        omega
    rw [e1, if_neg c]
    rfl
/-- by the rests of the counts -/
def p2c (g : Nat → Nat) (i d : Nat) : Nat := sn (fun k => if g k % 3 = 2 then 1 else 0) i d
theorem wr3_iff (g : Nat → Nat) : wr3 g = true ↔ (∀ k, k < 25 → g k % 3 ≠ 1) ∧ p2c g 0 25 = 1 := by
  constructor
  · intro h
    obtain ⟨i, i1, i2, i3⟩ := of_decide_eq_true h
    have a := of_decide_eq_true i3
    have e : ∀ k, k < 25 → g k % 3 = if k = i then 2 else 0 := fun k hk => by
      have := a k hk
      by_cases y : k = i
      · subst y
        rw [u1_at] at this
        rw [if_pos rfl]
        omega
      · rw [u1_ne _ _ y] at this
        rw [if_neg y]
        exact this
    refine ⟨fun k hk => by
      rw [e k hk]
      split <;> omega, ?_⟩
    unfold p2c
    rw [sn_eq (g := u1 (fun _ => 0) i 1) 25 0 (fun k _ hk => by
      rw [e k (by omega)]
      by_cases y : k = i
      · subst y; rw [u1_at, if_pos rfl, if_pos rfl]
      · rw [u1_ne _ _ y, if_neg y, if_neg (by decide)])]
    have := sn_u1 (fun _ => 0) i 1 25 0 (Nat.zero_le _) (by omega)
    have e0 := sn_0 (fun _ => 0) 25 0 (fun k _ _ => rfl)
    omega
  · rintro ⟨h1, h2⟩
    have ex : ∃ i, i < 25 ∧ g i % 3 = 2 := by
      by_cases y : ∃ i, i < 25 ∧ g i % 3 = 2
      · exact y
      · have := sn_0 (fun k => if g k % 3 = 2 then 1 else 0) 25 0 (fun k _ hk => if_neg (fun z => y ⟨k, by omega, z⟩))
        unfold p2c at h2
        omega
    obtain ⟨i, i1, i2⟩ := ex
    refine decide_eq_true ⟨i, i1, by omega, decide_eq_true fun k hk => ?_⟩
    by_cases y : k = i
    · subst y
      rw [u1_at]
      omega
    · rw [u1_ne _ _ y]
      have h3 := h1 k hk
      by_cases z : g k % 3 = 2
      · have := sn_ge2 (f := fun k => if g k % 3 = 2 then 1 else 0) y (d := 25) (i := 0) (Nat.zero_le _) (by omega) (Nat.zero_le _) (by omega)
        rw [if_pos z, if_pos i2] at this
        unfold p2c at h2
        omega
      · omega
