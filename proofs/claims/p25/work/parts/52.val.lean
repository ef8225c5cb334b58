/-! ===== PURE: the value of a win: the best way to part a hand against its counts ===== -/
/-- what a three of a kind is worth, for the own wind -/
def hv (wd k : Nat) : Nat := if 22 ≤ k then 1 else if k = 18 + wd then 1 else 0
def hsum (wd : Nat) (g : Nat → Nat) : Nat := g 22 / 3 + g 23 / 3 + g 24 / 3 + g (18 + wd) / 3
/-- threes alone -/
def al3 (g : Nat → Nat) : Bool := decide (∀ k : Nat, k < 25 → g k % 3 = 0)
/-- the best that the sets of a hand make: with S sets that lie, t threes, u so far -/
def VR (wd S t u : Nat) (g : Nat → Nat) : Option Nat := if ris 25 0 g = true then some (u + hsum wd g + if al3 g = true ∧ t = S then 2 else 0) else none
def omx : Option Nat → Option Nat → Option Nat
  | none, y => y
  | some a, none => some a
  | some a, some b => some (max a b)
def enc (x : Option Nat) : Int32 := match x with
  | none => -1
  | some a => nI a
def osm (x : Option Nat) : Prop := ∀ a, x = some a → a < 10000
theorem omx_sm {x y : Option Nat} (hx : osm x) (hy : osm y) : osm (omx x y) := fun a h => by
  cases x with
  | none => exact hy a h
  | some b =>
    cases y with
    | none => exact hx a h
    | some c =>
      have h1 := hx b rfl
      have h2 := hy c rfl
      have h3 : max b c = a := Option.some.inj h
      omega
theorem x_maxo {x y : Option Nat} (hx : osm x) (hy : osm y) (M : zM) : f_J9_max_7cf53 (enc x) (enc y) M = some (enc (omx x y), M) := by
  unfold f_J9_max_7cf53 f_J9_max_7cf53_0
  cases x with
  | none =>
    cases y with
    | none => exact if_neg (show ¬ (-1 : Int32) < -1 by decide)
    | some c =>
      have h2 := hy c rfl
      have h : (-1 : Int32) < nI c := Int32.lt_of_lt_of_le (show (-1 : Int32) < 0 by decide) (le_t (x := 0) 0 c (Nat.zero_le _) (by omega))
      exact if_pos h
  | some b =>
    have h1 := hx b rfl
    cases y with
    | none =>
      have h : ¬ nI b < (-1 : Int32) := fun z => nI_nn (n := b) (by omega) (Int32.lt_trans z (by decide))
      exact if_neg h
    | some c =>
      have h2 := hy c rfl
      show (if nI b < nI c then some (nI c, M) else some (nI b, M)) = some (nI (max b c), M)
      by_cases h : b < c
      · rw [if_pos (lt_t b c h (by omega)), Nat.max_eq_right (by omega)]
      · rw [if_neg (lt_f b c (by omega) (by omega)), Nat.max_eq_left (by omega)]
theorem hsum_le {wd : Nat} (hwd : wd < 4) {g : Nat → Nat} (hg : ∀ k, k < 25 → g k < 1000) : hsum wd g ≤ 1332 := by
  have h1 := hg 22 (by decide)
  have h2 := hg 23 (by decide)
  have h3 := hg 24 (by decide)
  have h4 := hg (18 + wd) (by omega)
  unfold hsum
  omega
theorem VR_sm {wd S t u : Nat} (hwd : wd < 4) (hu : u < 1000) {g : Nat → Nat} (hg : ∀ k, k < 25 → g k < 1000) : osm (VR wd S t u g) := fun a h => by
  have hh := hsum_le hwd hg
  unfold VR at h
  split at h
  · have h := Option.some.inj h
    split at h <;> omega
  · cases h
theorem al3_ris {g : Nat → Nat} (h : al3 g = true) : ris 25 0 g = true :=
  (ris_iff 25 0 g rfl).mpr ⟨fun _ => 0, fun j q => absurd rfl q, fun k _ hk => ⟨g k / 3, by
    have := of_decide_eq_true h k hk
    have e : pr (fun _ => 0) k = 0 := by
      unfold pr
      repeat' split
      all_goals rfl
    omega⟩⟩
theorem hsum_3 {wd a : Nat} (hwd : wd < 4) (ha : a < 25) (g : Nat → Nat) (h3 : 3 ≤ g a) : hsum wd (u1 g a (g a - 3)) + hv wd a = hsum wd g := by
  have e : ∀ k, u1 g a (g a - 3) k / 3 + (if k = a then 1 else 0) = g k / 3 := fun k => by
    by_cases y : k = a
    · subst y
      rw [u1_at, if_pos rfl]
      omega
    · rw [u1_ne _ _ y, if_neg y]
      rfl
  have e1 := e 22
  have e2 := e 23
  have e3 := e 24
  have e4 := e (18 + wd)
  unfold hsum hv
  by_cases z1 : a = 22
  · rw [if_pos z1.symm] at e1
    rw [if_neg (by omega)] at e2 e3 e4
    rw [if_pos (by omega)]
    omega
  · by_cases z2 : a = 23
    · rw [if_pos z2.symm] at e2
      rw [if_neg (by omega)] at e1 e3 e4
      rw [if_pos (by omega)]
      omega
    · by_cases z3 : a = 24
      · rw [if_pos z3.symm] at e3
        rw [if_neg (by omega)] at e1 e2 e4
        rw [if_pos (by omega)]
        omega
      · rw [if_neg (by omega)] at e1 e2 e3
        rw [if_neg (by omega)]
        by_cases z4 : a = 18 + wd
        · rw [if_pos z4.symm] at e4
          rw [if_pos z4]
          omega
        · rw [if_neg (fun q => z4 q.symm)] at e4
          rw [if_neg z4]
          omega
theorem hsum_lr {wd a : Nat} (ha : a + 2 < 18) (g : Nat → Nat) : hsum wd (lr g a) = hsum wd g := by
  unfold hsum
  rw [lr_n g (by omega), lr_n g (by omega), lr_n g (by omega), lr_n g (by omega)]
theorem al3_3 {a : Nat} (g : Nat → Nat) (h3 : 3 ≤ g a) : al3 (u1 g a (g a - 3)) = al3 g := decide_eq_decide.mpr ⟨fun h k hk => by
    have := h k hk
    by_cases y : k = a
    · subst y; rw [u1_at] at this; omega
    · rw [u1_ne _ _ y] at this; exact this, fun h k hk => by
    have := h k hk
    by_cases y : k = a
    · subst y; rw [u1_at]; omega
    · rw [u1_ne _ _ y]; exact this⟩
/-- a step at the smallest kind: a three, or a row -/
theorem VR_step {wd S t u a : Nat} (hwd : wd < 4) (ha : a < 25) (g : Nat → Nat) (hz : ∀ j, j < a → g j = 0) (hp : g a ≠ 0) (ht : t ≤ S) : omx (if 3 ≤ g a then VR wd (S + 1) (t + 1) (u + hv wd a) (u1 g a (g a - 3)) else none) (if rw_ a = true ∧ g (a + 1) ≠ 0 ∧ g (a + 2) ≠ 0 then VR wd (S + 1) t u (lr g a) else none) = VR wd S t u g := by
  have sp := Dec_split ha g hz hp
  rw [← ris_iff 25 0 g rfl, ← ris_iff 25 0 _ rfl, ← ris_iff 25 0 _ rfl] at sp
  have row : rw_ a = true ∧ g (a + 1) ≠ 0 ∧ g (a + 2) ≠ 0 → VR wd (S + 1) t u (lr g a) = if ris 25 0 (lr g a) = true then some (u + hsum wd g) else none := fun y => by
    have h9 := rw_9 y.1
    have h18 := rw_lt y.1
    unfold VR
    rw [hsum_lr (by omega), if_neg (show ¬ (al3 (lr g a) = true ∧ t = S + 1) from fun z => by have := z.2; omega), Nat.add_zero]
  by_cases d3 : 3 ≤ g a ∧ ris 25 0 (u1 g a (g a - 3)) = true
  · have e : VR wd S t u g = some (u + hsum wd g + if al3 g = true ∧ t = S then 2 else 0) := by
      unfold VR
      rw [if_pos (sp.mpr (Or.inl d3))]
    have e3 : VR wd (S + 1) (t + 1) (u + hv wd a) (u1 g a (g a - 3)) = some (u + hsum wd g + if al3 g = true ∧ t = S then 2 else 0) := by
      unfold VR
      have h := hsum_3 hwd ha g d3.1
      rw [if_pos d3.2, al3_3 g d3.1]
      by_cases c : al3 g = true ∧ t = S
      · rw [if_pos c, if_pos ⟨c.1, by omega⟩]
        exact congrArg some (by omega)
      · rw [if_neg c, if_neg (fun z => c ⟨z.1, by omega⟩)]
        exact congrArg some (by omega)
    rw [if_pos d3.1, e3, e]
    by_cases y : rw_ a = true ∧ g (a + 1) ≠ 0 ∧ g (a + 2) ≠ 0
    · rw [if_pos y, row y]
      by_cases z : ris 25 0 (lr g a) = true
      · rw [if_pos z]
        show some (max _ _) = _
        rw [Nat.max_eq_left (Nat.le_add_right _ _)]
      · rw [if_neg z]
        rfl
    · rw [if_neg y]
      rfl
  · have e3 : (if 3 ≤ g a then VR wd (S + 1) (t + 1) (u + hv wd a) (u1 g a (g a - 3)) else none) = none := by
      by_cases y : 3 ≤ g a
      · rw [if_pos y]
        unfold VR
        rw [if_neg (fun z => d3 ⟨y, z⟩)]
      · rw [if_neg y]
    rw [e3]
    by_cases y : rw_ a = true ∧ g (a + 1) ≠ 0 ∧ g (a + 2) ≠ 0
    · rw [if_pos y, row y]
      show (if ris 25 0 (lr g a) = true then some (u + hsum wd g) else none) = _
      by_cases z : ris 25 0 (lr g a) = true
      · have na : ¬ (al3 g = true ∧ t = S) := fun c => by
          have h := of_decide_eq_true c.1 a ha
          have h3 : 3 ≤ g a := by omega
          exact d3 ⟨h3, al3_ris (by rw [al3_3 g h3]; exact c.1)⟩
        unfold VR
        rw [if_pos z, if_pos (sp.mpr (Or.inr ⟨y.1, y.2.1, y.2.2, z⟩)), if_neg na, Nat.add_zero]
      · unfold VR
        rw [if_neg z, if_neg (fun q => (sp.mp q).elim d3 (fun w => z w.2.2.2))]
    · rw [if_neg y]
      show (none : Option Nat) = _
      unfold VR
      rw [if_neg (fun q => (sp.mp q).elim d3 (fun w => y ⟨w.1, w.2.1, w.2.2.1⟩))]
theorem VR_end {wd S t u : Nat} (hwd : wd < 4) (g : Nat → Nat) (hz : ∀ j, j < 25 → g j = 0) (hs : sn g 0 25 + 3 * S = 9) : (if S = 3 then some (if t = 3 then u + 2 else u + 0) else none) = VR wd S t u g := by
  have e0 := sn_0 g 25 0 (fun k _ q => hz k (by omega))
  have a3 : al3 g = true := decide_eq_true fun k hk => by rw [hz k hk]
  have hh : hsum wd g = 0 := by
    unfold hsum
    rw [hz 22 (by decide), hz 23 (by decide), hz 24 (by decide), hz (18 + wd) (by omega)]
  obtain rfl : S = 3 := by omega
  unfold VR
  rw [if_pos rfl, if_pos (al3_ris a3), hh]
  by_cases c : t = 3
  · rw [if_pos c, if_pos ⟨a3, c⟩]
  · rw [if_neg c, if_neg (fun z => c z.2)]
/-- over all pairs -/
def vpl (wd S t u : Nat) (g : Nat → Nat) : Nat → Nat → Option Nat → Option Nat
  | 0, _, acc => acc
  | d + 1, i, acc => vpl wd S t u g d (i + 1) (if 2 ≤ g i then omx acc (VR wd S t u (u1 g i (g i - 2))) else acc)
/-- none, the sets, the sets of threes alone -/
def vst (X : Nat) : Nat → Option Nat
  | 0 => none
  | 1 => some X
  | _ + 2 => some (X + 2)
theorem vst_mx {X : Nat} : ∀ a, a ≤ 2 → ∀ b, b ≤ 2 → omx (vst X a) (vst X b) = vst X (max a b) := by
  intro a ha b hb
  rcases (show a = 0 ∨ a = 1 ∨ a = 2 by omega) with rfl | rfl | rfl <;> rcases (show b = 0 ∨ b = 1 ∨ b = 2 by omega) with rfl | rfl | rfl
  · rfl
  · rfl
  · rfl
  · rfl
  · show some (max X X) = some X
    rw [Nat.max_self]
  · show some (max X (X + 2)) = some (X + 2)
    rw [Nat.max_eq_right (Nat.le_add_right _ _)]
  · rfl
  · show some (max (X + 2) X) = some (X + 2)
    rw [Nat.max_eq_left (Nat.le_add_right _ _)]
  · show some (max (X + 2) (X + 2)) = some (X + 2)
    rw [Nat.max_self]
/-- the stage of a pair -/
def vsg (S t : Nat) (g : Nat → Nat) (i : Nat) : Nat := if 2 ≤ g i ∧ ris 25 0 (u1 g i (g i - 2)) = true then (if al3 (u1 g i (g i - 2)) = true ∧ t = S then 2 else 1) else 0
theorem vsg_le (S t : Nat) (g : Nat → Nat) (i : Nat) : vsg S t g i ≤ 2 := by
  unfold vsg
  repeat' split
  all_goals omega
theorem vpl_sp {wd S t u X : Nat} {g : Nat → Nat} (hX : ∀ i, i < 25 → 2 ≤ g i → ris 25 0 (u1 g i (g i - 2)) = true → u + hsum wd (u1 g i (g i - 2)) = X) : ∀ (d i s : Nat), i + d = 25 → s ≤ 2 → ∃ s', vpl wd S t u g d i (vst X s) = vst X s' ∧ s' ≤ 2 ∧ s ≤ s' ∧ (∀ j, i ≤ j → j < 25 → vsg S t g j ≤ s') ∧ (s' = s ∨ ∃ j, i ≤ j ∧ j < 25 ∧ vsg S t g j = s') := by
  intro d
  induction d with
  | zero => exact fun i s hi hs => ⟨s, rfl, hs, Nat.le_refl _, fun j h1 h2 => by omega, Or.inl rfl⟩
  | succ d ih =>
    intro i s hi hs
    have e : (if 2 ≤ g i then omx (vst X s) (VR wd S t u (u1 g i (g i - 2))) else vst X s) = vst X (max s (vsg S t g i)) := by
      by_cases y : 2 ≤ g i
      · have e1 : VR wd S t u (u1 g i (g i - 2)) = vst X (vsg S t g i) := by
          unfold VR vsg
          by_cases z : ris 25 0 (u1 g i (g i - 2)) = true
          · rw [if_pos z, if_pos (show 2 ≤ g i ∧ ris 25 0 (u1 g i (g i - 2)) = true from ⟨y, z⟩), hX i (by omega) y z]
            by_cases c : al3 (u1 g i (g i - 2)) = true ∧ t = S
            · rw [if_pos c, if_pos c]; rfl
            · rw [if_neg c, if_neg c]; rfl
          · rw [if_neg z, if_neg (fun q => z q.2)]; rfl
        rw [if_pos y, e1, vst_mx s hs _ (vsg_le S t g i)]
      · have e1 : vsg S t g i = 0 := if_neg (fun q => y q.1)
        rw [if_neg y, e1, Nat.max_eq_left (Nat.zero_le _)]
    have l := vsg_le S t g i
    obtain ⟨s', q1, q2, q3, q4, q5⟩ := ih (i + 1) (max s (vsg S t g i)) (by omega) (by omega)
    refine ⟨s', by rw [vpl, e]; exact q1, q2, by omega, fun j h1 h2 => ?_, ?_⟩
    · by_cases y : j = i
      · subst y; omega
      · exact q4 j (by omega) h2
    · rcases q5 with q5 | ⟨j, h1, h2, h3⟩
      · by_cases y : vsg S t g i ≤ s
        · exact Or.inl (by omega)
        · exact Or.inr ⟨i, Nat.le_refl _, by omega, by omega⟩
      · exact Or.inr ⟨j, by omega, h2, h3⟩
/-- three of an honour in hand -/
def ge3 (x : Nat) : Nat := if 3 ≤ x then 1 else 0
/-- threes and a pair -/
def wr3 (g : Nat → Nat) : Bool := decide (∃ i : Nat, i < 25 ∧ 2 ≤ g i ∧ al3 (u1 g i (g i - 2)) = true)
theorem vpl_val {wd S t u : Nat} {g : Nat → Nat} (hwd : wd < 4) (hc : cmp 25 0 g = true) (h5 : ∀ k, 18 ≤ k → k < 25 → g k ≤ 5) : vpl wd S t u g 25 0 none = some (u + (ge3 (g 22) + ge3 (g 23) + ge3 (g 24) + ge3 (g (18 + wd))) + if wr3 g = true ∧ t = S then 2 else 0) := by
  have key : ∀ i k, i < 25 → 18 ≤ k → k < 25 → 2 ≤ g i → ris 25 0 (u1 g i (g i - 2)) = true → u1 g i (g i - 2) k / 3 = ge3 (g k) := fun i k hi hk1 hk2 h2 hr => by
    obtain ⟨r, r1, r2⟩ := (ris_iff 25 0 _ rfl).mp hr
    obtain ⟨t, et⟩ := r2 k (Nat.zero_le _) hk2
    have z : ∀ j, 16 ≤ j → r j = 0 := fun j hj => by
      rcases Nat.eq_zero_or_pos (r j) with w | w
      · exact w
      · have h := (r1 j (by omega)).1
        have := rw_lt h
        have := rw_9 h
        omega
    have ep : pr r k = 0 := by
      unfold pr
      rw [z k (by omega), if_pos (by omega), if_pos (by omega), z (k - 1) (by omega), z (k - 2) (by omega)]
    have h5' := h5 k hk1 hk2
    unfold ge3
    by_cases y : k = i
    · subst y
      rw [u1_at] at et ⊢
      split <;> omega
    · rw [u1_ne _ _ y] at et ⊢
      split <;> omega
  obtain ⟨s', q1, q2, -, q4, q5⟩ := vpl_sp (wd := wd) (S := S) (t := t) (u := u) (X := u + (ge3 (g 22) + ge3 (g 23) + ge3 (g 24) + ge3 (g (18 + wd)))) (g := g) (fun i hi h2 hr => by
    unfold hsum
    rw [key i 22 hi (by decide) (by decide) h2 hr, key i 23 hi (by decide) (by decide) h2 hr, key i 24 hi (by decide) (by decide) h2 hr, key i (18 + wd) hi (by omega) (by omega) h2 hr]) 25 0 0 rfl (by decide)
  obtain ⟨i, -, i2, i3, i4⟩ := (cmp_iff 25 0 g rfl).mp hc
  have i4 := (ris_iff 25 0 _ rfl).mpr i4
  have s1 : 1 ≤ vsg S t g i := by
    unfold vsg
    rw [if_pos ⟨i3, i4⟩]
    split <;> omega
  have s2 := q4 i (Nat.zero_le _) i2
  have e0 : vst (u + (ge3 (g 22) + ge3 (g 23) + ge3 (g 24) + ge3 (g (18 + wd)))) 0 = none := rfl
  rw [e0] at q1
  rw [q1]
  by_cases c : wr3 g = true ∧ t = S
  · obtain ⟨j, j1, j2, j3⟩ := of_decide_eq_true c.1
    have s3 : vsg S t g j = 2 := by
      unfold vsg
      rw [if_pos ⟨j2, al3_ris j3⟩, if_pos ⟨j3, c.2⟩]
    have := q4 j (Nat.zero_le _) j1
    obtain rfl : s' = 2 := by omega
    rw [if_pos c]
    rfl
  · have e1 : s' = 1 := by
      rcases q5 with q5 | ⟨j, h1, h2, h3⟩
      · omega
      · have : vsg S t g j ≠ 2 := fun z => by
          unfold vsg at z
          split at z
          · rename_i w
            split at z
            · rename_i v
              exact c ⟨decide_eq_true ⟨j, h2, w.1, v.1⟩, v.2⟩
            · omega
          · omega
        omega
    rw [e1, if_neg c]
    rfl
/-- by the rests of the counts -/
def p2c (g : Nat → Nat) (i d : Nat) : Nat := sn (fun k => if g k % 3 = 2 then 1 else 0) i d
theorem wr3_iff (g : Nat → Nat) : wr3 g = true ↔ (∀ k, k < 25 → g k % 3 ≠ 1) ∧ p2c g 0 25 = 1 := by
  constructor
  · intro h
    obtain ⟨i, i1, i2, i3⟩ := of_decide_eq_true h
    have a := of_decide_eq_true i3
    have e : ∀ k, k < 25 → g k % 3 = if k = i then 2 else 0 := fun k hk => by
      have := a k hk
      by_cases y : k = i
      · subst y
        rw [u1_at] at this
        rw [if_pos rfl]
        omega
      · rw [u1_ne _ _ y] at this
        rw [if_neg y]
        exact this
    refine ⟨fun k hk => by
      rw [e k hk]
      split <;> omega, ?_⟩
    unfold p2c
    rw [sn_eq (g := u1 (fun _ => 0) i 1) 25 0 (fun k _ hk => by
      rw [e k (by omega)]
      by_cases y : k = i
      · subst y; rw [u1_at, if_pos rfl, if_pos rfl]
      · rw [u1_ne _ _ y, if_neg y, if_neg (by decide)])]
    have := sn_u1 (fun _ => 0) i 1 25 0 (Nat.zero_le _) (by omega)
    have e0 := sn_0 (fun _ => 0) 25 0 (fun k _ _ => rfl)
    omega
  · rintro ⟨h1, h2⟩
    have ex : ∃ i, i < 25 ∧ g i % 3 = 2 := by
      by_cases y : ∃ i, i < 25 ∧ g i % 3 = 2
      · exact y
      · have := sn_0 (fun k => if g k % 3 = 2 then 1 else 0) 25 0 (fun k _ hk => if_neg (fun z => y ⟨k, by omega, z⟩))
        unfold p2c at h2
        omega
    obtain ⟨i, i1, i2⟩ := ex
    refine decide_eq_true ⟨i, i1, by omega, decide_eq_true fun k hk => ?_⟩
    by_cases y : k = i
    · subst y
      rw [u1_at]
      omega
    · rw [u1_ne _ _ y]
      have h3 := h1 k hk
      by_cases z : g k % 3 = 2
      · have := sn_ge2 (f := fun k => if g k % 3 = 2 then 1 else 0) y (d := 25) (i := 0) (Nat.zero_le _) (by omega) (Nat.zero_le _) (by omega)
        rw [if_pos z, if_pos i2] at this
        unfold p2c at h2
        omega
      · omega

/-! ===== PURE: the value by the class, exactly ===== -/
/-- whether it holds -/
noncomputable def dcl (p : Prop) : Bool := @decide p (Classical.propDecidable p)
theorem dcl_iff {p : Prop} : dcl p = true ↔ p := @decide_eq_true_iff p (Classical.propDecidable p)
theorem dcl_t {p : Prop} (h : p) : dcl p = true := dcl_iff.mpr h
theorem of_dcl_t {p : Prop} (h : dcl p = true) : p := dcl_iff.mp h
theorem dcl_f {p : Prop} (h : ¬ p) : dcl p = false := by
  cases hd : dcl p with
  | true => exact absurd (of_dcl_t hd) h
  | false => rfl
theorem of_dcl_f {p : Prop} (h : dcl p = false) : ¬ p := fun z => by rw [dcl_t z] at h; cases h
theorem dcl_c {p q : Prop} (h : p ↔ q) : dcl p = dcl q := by rw [show p = q from propext h]
/-- how many of a kind lie in sets; with those in hand -/
def lys (v : Nat → Nat) (N k : Nat) : Nat := sn (fun j => tlN (v j / 100) (v j % 100) k) 0 N
def alk (g v : Nat → Nat) (N k : Nat) : Nat := g k + lys v N k
noncomputable def vany (x : Nat → Nat) (f e : Nat) : Bool := dcl (∃ k : Nat, f ≤ k ∧ k < e ∧ x k ≠ 0)
noncomputable def vos (x : Nat → Nat) : Nat := if vany x 0 9 = vany x 9 18 then 0 else if vany x 18 25 = true then 2 else 4
noncomputable def vpn (x : Nat → Nat) (i : Nat) : Bool := dcl (∀ k : Nat, i ≤ k → k < 25 → x k ≠ 0 → k < 18 ∧ k % 9 ≠ 0 ∧ k % 9 ≠ 8)
def nrow (v : Nat → Nat) (N : Nat) : Bool := decide (∀ j : Nat, j < N → v j / 100 ≠ 1)
/-- the value, ahead of the most -/
noncomputable def vsum (al c : Bool) (op lk wd : Nat) (x : Nat → Nat) (wr : Bool) : Nat := 1 + (if c = true then 1 else 0) + (if al = true ∧ op = 0 then 1 else 0) + x lk + (ge3 (x 22) + ge3 (x 23) + ge3 (x 24)) + ge3 (x (18 + wd)) + (if vpn x 0 = true then 1 else 0) + (if wr = true then 2 else 0) + vos x
theorem lys_le {v : Nat → Nat} {N : Nat} (hN : N ≤ 3) (k : Nat) : lys v N k ≤ 12 := by
  have h := sn_le (fun j => tlN (v j / 100) (v j % 100) k) 4 N 0 (fun j _ _ => by
    show tlN (v j / 100) (v j % 100) k ≤ 4
    unfold tlN
    repeat' split
    all_goals omega)
  unfold lys
  omega
theorem x_minN {a b : Nat} (ha : a < 2 ^ 30) (hb : b < 2 ^ 30) (M : zM) : f_J9_min_7cf53 (nI a) (nI b) M = some (nI (min a b), M) := by
  rw [q_min]
  by_cases h : b < a
  · rw [if_pos (lt_t b a h (by omega)), Nat.min_eq_right (by omega)]
  · rw [if_neg (lt_f b a (by omega) (by omega)), Nat.min_eq_left (by omega)]
section XVAL
variable {I : Nat → Nat → Int32} {J : Nat → Nat → Int64} {A : Nat → Nat → Int32} {M : zM} {a r b t s rr N : Nat} {g v x : Nat → Nat}
theorem x_inSets (hs : SE M b t s rr) (hN : I 228 b = nI N) (hN3 : N ≤ 3) (hv : ∀ j, j < N → A s j = nI (v j)) (h4 : ∀ j, j < N → v j < 400) {k : Nat} (hk : k < 25) : f_X1_inSets b (nI k) (cs I J A M) = some (nI (lys v N k), cs I J A M) := by
  rw [q_inSets hs hN hN3]
  unfold lys
  rw [sm_nI _ (fun j => tlN (v j / 100) (v j % 100) k) N 0 (fun j _ hj => by
    have hj' : j < N := by omega
    have h := h4 j hj'
    have e1 : nI (v j) / 100 = nI (v j / 100) := pk_div (a := v j) (d := 100) (by omega) (by decide) (by decide)
    have e2 : zmd (nI (v j)) 100 = nI (v j % 100) := pk_rem (a := v j) (d := 100) (by omega) (by decide) (by decide)
    show tl (A s j / 100) (zmd (A s j) 100) (nI k) = _
    rw [hv j hj', e1, e2, tl_nI (by omega) (by omega) (by omega)])]
theorem x_gather_2 (h : VA M a r) (hs : SE M b t s rr) (hr : r ≠ t ∧ r ≠ s) (hN : I 228 b = nI N) (hN3 : N ≤ 3) (hw : ∀ k, k < 25 → A t k = nI (g k)) (hv : ∀ j, j < N → A s j = nI (v j)) (h4 : ∀ j, j < N → v j < 400) : ∀ (d n i : Nat) (w : Nat → Int32), i + d = 25 → d < n → (∀ k, k < i → w k = nI (alk g v N k)) → ∃ w', f_X2_gather_2 n a b (nI i) (cs I J (ur A r w) M) = some ((), cs I J (ur A r w') M) ∧ ∀ k, k < 25 → w' k = nI (alk g v N k) := by
  obtain ⟨h1, h2, h3, h4'⟩ := h
  intro d
  induction d with
  | zero =>
    intro n i w hi hn hz
    obtain ⟨n, rfl⟩ : ∃ m, n = m + 1 := ⟨n - 1, by omega⟩
    exact ⟨w, by rw [f_X2_gather_2, if_pos (le_t (x := 25) 25 i (by omega) (by omega))], fun k hk => hz k (by omega)⟩
  | succ d ih =>
    intro n i w hi hn hz
    obtain ⟨n, rfl⟩ : ∃ m, n = m + 1 := ⟨n - 1, by omega⟩
    have ei := x_inSets (I := I) (J := J) (A := ur A r w) (M := M) hs hN hN3 (fun j hj => (ur_ne A j w (Ne.symm hr.2)).trans (hv j hj)) h4 (show i < 25 by omega)
    have et : ur A r w t i = nI (g i) := (ur_ne A i w (Ne.symm hr.1)).trans (hw i (by omega))
    rw [f_X2_gather_2, if_neg (le_f (x := 25) 25 i (by omega) (by decide)), gR_cs 256 h1 h2, Option.bind_some, if_pos (show mK (cs I J _ M) b = 7 from hs.1), q_count hs (by omega), Option.bind_some, if_pos (show mK (cs I J _ M) b = 7 from hs.1)]
    dsimp only
    rw [ei, Option.bind_some]
    dsimp only
    rw [et, nI_add, tA_cs h3 (by omega) (by omega), Option.bind_some, u2_ur, nI_1]
    exact ih n (i + 1) _ (by omega) (by omega) (fun k hk => by
      by_cases y : k = i
      · subst y; exact u1_at _ _ _
      · rw [u1_ne _ _ y]; exact hz k (by omega))
theorem x_gather (h : VA M a r) (hs : SE M b t s rr) (hr : r ≠ t ∧ r ≠ s) (hN : I 228 b = nI N) (hN3 : N ≤ 3) (hw : ∀ k, k < 25 → A t k = nI (g k)) (hv : ∀ j, j < N → A s j = nI (v j)) (h4 : ∀ j, j < N → v j < 400) : ∃ w', f_X2_gather a b (cs I J A M) = some ((), cs I J (ur A r w') M) ∧ ∀ k, k < 25 → w' k = nI (alk g v N k) := by
  obtain ⟨w', e, f⟩ := x_gather_2 (J := J) (A := A) h hs hr hN hN3 hw hv h4 25 zN 0 (A r) rfl (by decide) (fun k hk => absurd hk (Nat.not_lt_zero _))
  rw [ur_self] at e
  exact ⟨w', e, f⟩
theorem vany_st {f e : Nat} (h : f < e) : vany x f e = if x f = 0 then vany x (f + 1) e else true := by
  by_cases y : x f = 0
  · rw [if_pos y]
    exact dcl_c ⟨fun ⟨k, a, b, c⟩ => ⟨k, by
      by_cases z : k = f
      · rw [z] at c; exact absurd y c
      · omega, b, c⟩, fun ⟨k, a, b, c⟩ => ⟨k, by omega, b, c⟩⟩
  · rw [if_neg y]
    exact dcl_t ⟨f, Nat.le_refl _, h, y⟩
theorem vany_no {f e : Nat} (h : e ≤ f) : vany x f e = false := dcl_f fun ⟨k, a, b, c⟩ => by omega
theorem x_anyOf_2 (h : VA M a r) (hx : ∀ k, k < 25 → A r k = nI (x k)) (hx9 : ∀ k, k < 25 → x k < 10000) {e : Nat} (he : e ≤ 25) : ∀ (d n i : Nat), i + d = 26 → d < n → f_X2_anyOf_2 n a (nI e) (nI i) (cs I J A M) = some (b32 (vany x i e), cs I J A M) := by
  obtain ⟨h1, h2, h3, h4⟩ := h
  intro d
  induction d with
  | zero =>
    intro n i hi hn
    obtain ⟨n, rfl⟩ : ∃ m, n = m + 1 := ⟨n - 1, by omega⟩
    rw [f_X2_anyOf_2, if_neg (nI_nn (by omega)), if_pos (le_t e i (by omega) (by omega)), vany_no (by omega)]
    rfl
  | succ d ih =>
    intro n i hi hn
    obtain ⟨n, rfl⟩ : ∃ m, n = m + 1 := ⟨n - 1, by omega⟩
    by_cases z : e ≤ i
    · rw [f_X2_anyOf_2, if_neg (nI_nn (by omega)), if_pos (le_t e i z (by omega)), vany_no z]
      rfl
    · have h9 := hx9 i (by omega)
      rw [f_X2_anyOf_2, if_neg (nI_nn (by omega)), if_neg (le_f e i (by omega) (by omega)), if_neg (le_f (x := 25) 25 i (by omega) (by decide)), gR_cs 256 h1 h2, Option.bind_some, lA_cs h3 (by omega) (by omega), Option.bind_some, hx i (by omega), vany_st (by omega)]
      by_cases y : x i = 0
      · rw [if_pos (le_t (y := 0) (x i) 0 (by omega) (by decide)), if_pos y, nI_1]
        exact ih n (i + 1) (by omega) (by omega)
      · rw [if_neg (le_f (y := 0) (x i) 0 (by omega) (by omega)), if_neg y]
        rfl
theorem x_anyOf (h : VA M a r) (hx : ∀ k, k < 25 → A r k = nI (x k)) (hx9 : ∀ k, k < 25 → x k < 10000) (f e : Nat) (he : e ≤ 25) (hf : f ≤ 26) : f_X2_anyOf a (nI f) (nI e) (cs I J A M) = some (b32 (vany x f e), cs I J A M) :=
  x_anyOf_2 h hx hx9 he (26 - f) zN f (by omega) (by show 26 - f < 130; omega)
theorem b32_inj {p q : Bool} : b32 p = b32 q ↔ p = q := by
  cases p <;> cases q <;> decide
theorem x_ofOneSuit (h : VA M a r) (hx : ∀ k, k < 25 → A r k = nI (x k)) (hx9 : ∀ k, k < 25 → x k < 10000) : f_X2_ofOneSuit a (cs I J A M) = some (nI (vos x), cs I J A M) := by
  have e1' : f_X2_anyOf a 0 9 (cs I J A M) = some (b32 (vany x 0 9), cs I J A M) := x_anyOf h hx hx9 0 9 (by decide) (by decide)
  have e2' : f_X2_anyOf a 9 18 (cs I J A M) = some (b32 (vany x 9 18), cs I J A M) := x_anyOf h hx hx9 9 18 (by decide) (by decide)
  have e3' : f_X2_anyOf a 18 25 (cs I J A M) = some (b32 (vany x 18 25), cs I J A M) := x_anyOf h hx hx9 18 25 (by decide) (by decide)
  unfold f_X2_ofOneSuit f_X2_ofOneSuit_0 vos
  rw [if_pos (show mK (cs I J A M) a = 8 from h.1), e1', Option.bind_some, if_pos (show mK (cs I J A M) a = 8 from h.1)]
  dsimp only
  rw [e2', Option.bind_some]
  dsimp only
  by_cases y : vany x 0 9 = vany x 9 18
  · rw [if_pos (b32_inj.mpr y), if_pos y]
    rfl
  · rw [if_neg (fun z => y (b32_inj.mp z)), if_neg y, if_pos (show mK (cs I J A M) a = 8 from h.1), e3', Option.bind_some]
    dsimp only
    cases vany x 18 25
    · rw [if_pos (show b32 false = 0 from rfl), if_neg (by decide)]
      rfl
    · rw [if_neg (show ¬ b32 true = 0 by decide), if_pos rfl]
      rfl
theorem x_setOf (h : VA M a r) (hx : ∀ k, k < 25 → A r k = nI (x k)) (hx9 : ∀ k, k < 25 → x k < 10000) {k : Nat} (hk : 18 ≤ k) (hk2 : k < 25) : f_X2_setOf a (nI k) (cs I J A M) = some (nI (ge3 (x k)), cs I J A M) := by
  obtain ⟨h1, h2, h3, h4⟩ := h
  have h9 := hx9 k hk2
  unfold f_X2_setOf f_X2_setOf_0 ge3
  rw [if_neg (lt_f (y := 18) k 18 hk (by omega)), if_neg (le_f (x := 25) 25 k hk2 (by decide)), gR_cs 256 h1 h2, Option.bind_some, lA_cs h3 (by omega) (by omega), Option.bind_some, hx k hk2]
  by_cases y : x k < 3
  · rw [if_pos (lt_t (y := 3) (x k) 3 y (by decide)), if_neg (by omega)]
    rfl
  · rw [if_neg (lt_f (y := 3) (x k) 3 (by omega) (by omega)), if_pos (by omega)]
    rfl
theorem vpn_st {i : Nat} (hi : i < 25) : vpn x i = if x i = 0 ∨ (i < 18 ∧ i % 9 ≠ 0 ∧ i % 9 ≠ 8) then vpn x (i + 1) else false := by
  by_cases y : x i = 0 ∨ (i < 18 ∧ i % 9 ≠ 0 ∧ i % 9 ≠ 8)
  · rw [if_pos y]
    exact dcl_c ⟨fun h k a b c => h k (by omega) b c, fun h k a b c => by
      by_cases z : k = i
      · subst z
        exact y.elim (fun w => absurd w c) id
      · exact h k (by omega) b c⟩
  · rw [if_neg y]
    exact dcl_f fun h => y (by
      by_cases z : x i = 0
      · exact Or.inl z
      · exact Or.inr (h i (Nat.le_refl _) hi z))
theorem x_woEnds (h : VA M a r) (hx : ∀ k, k < 25 → A r k = nI (x k)) (hx9 : ∀ k, k < 25 → x k < 10000) : ∀ (d n i : Nat), i + d = 25 → d < n → f_X2_withoutEndsAndHonours_2 n a (nI i) (cs I J A M) = some (b32 (vpn x i), cs I J A M) := by
  obtain ⟨h1, h2, h3, h4⟩ := h
  intro d
  induction d with
  | zero =>
    intro n i hi hn
    obtain ⟨n, rfl⟩ : ∃ m, n = m + 1 := ⟨n - 1, by omega⟩
    rw [f_X2_withoutEndsAndHonours_2, if_pos (le_t (x := 25) 25 i (by omega) (by omega)), show vpn x i = true from dcl_t fun k q1 q2 => by omega]
    rfl
  | succ d ih =>
    intro n i hi hn
    obtain ⟨n, rfl⟩ : ∃ m, n = m + 1 := ⟨n - 1, by omega⟩
    have h9 := hx9 i (by omega)
    have em : zmd (nI i) 9 = nI (i % 9) := pk_rem (a := i) (d := 9) (by omega) (by decide) (by decide)
    have k29 : ∀ y : Bool, (y = true ↔ (i % 9 = 0 ∨ i % 9 = 8)) → f_X2_withoutEndsAndHonours_29 (f_X2_withoutEndsAndHonours_2 n) a (nI i) (b32 y) (cs I J A M) = some (b32 (vpn x i), cs I J A M) := fun y hy => by
      unfold f_X2_withoutEndsAndHonours_29
      rw [gR_cs 256 h1 h2, Option.bind_some, lA_cs h3 (by omega) (by omega), Option.bind_some, hx i (by omega), nI_1, vpn_st (by omega)]
      by_cases z : x i = 0
      · rw [if_pos (le_t (y := 0) (x i) 0 (by omega) (by decide)), if_pos (Or.inl z)]
        exact ih n (i + 1) (by omega) (by omega)
      · rw [if_neg (le_f (y := 0) (x i) 0 (by omega) (by omega))]
        by_cases z2 : 18 ≤ i
        · rw [if_pos (le_t (x := 18) 18 i z2 (by omega)), if_neg (by omega)]
          rfl
        · rw [if_neg (le_f (x := 18) 18 i (by omega) (by decide))]
          cases y with
          | false =>
            have hy' : ¬ (i % 9 = 0 ∨ i % 9 = 8) := fun c => absurd (hy.mpr c) (by decide)
            rw [if_pos (show b32 false = 0 from rfl), if_pos (Or.inr ⟨by omega, by omega, by omega⟩)]
            exact ih n (i + 1) (by omega) (by omega)
          | true =>
            have hy' := hy.mp rfl
            rw [if_neg (show ¬ b32 true = 0 by decide), if_neg (by omega)]
            rfl
    rw [f_X2_withoutEndsAndHonours_2, if_neg (le_f (x := 25) 25 i (by omega) (by decide)), em]
    by_cases z : i % 9 = 0
    · rw [if_pos (show nI (i % 9) = 0 by rw [z]; rfl)]
      exact k29 true ⟨fun _ => Or.inl z, fun _ => rfl⟩
    · rw [if_neg (eq_f (y := 0) (i % 9) 0 z (by omega) (by decide))]
      by_cases z2 : i % 9 = 8
      · rw [if_pos (show nI (i % 9) = 8 by rw [z2]; rfl)]
        exact k29 true ⟨fun _ => Or.inr z2, fun _ => rfl⟩
      · rw [if_neg (eq_f (y := 8) (i % 9) 8 z2 (by omega) (by decide))]
        exact k29 false ⟨fun c => absurd c (by decide), fun c => by omega⟩
theorem x_rowLies (hs : SE M b t s rr) (hN : I 228 b = nI N) (hN3 : N ≤ 3) (hv : ∀ j, j < N → A s j = nI (v j)) (h4 : ∀ j, j < N → v j < 400) : f_X1_rowLies b (cs I J A M) = some (b32 (!nrow v N), cs I J A M) := by
  obtain ⟨y, e, e2, e3⟩ := q_rowLies (J := J) (A := A) hs hN hN3
  rw [e]
  have iff : y = 0 ↔ nrow v N = true := by
    rw [e3]
    unfold nrow
    rw [decide_eq_true_iff]
    have one : ∀ j, j < N → (A s j / 100 ≠ 1 ↔ v j / 100 ≠ 1) := fun j hj => by
      have h := h4 j hj
      have e1 : nI (v j) / 100 = nI (v j / 100) := pk_div (a := v j) (d := 100) (by omega) (by decide) (by decide)
      rw [hv j hj, e1]
      exact ⟨fun q z => q (by rw [z]; rfl), fun q => eq_f (y := 1) (v j / 100) 1 q (by omega) (by decide)⟩
    exact ⟨fun q j hj => (one j hj).mp (q j hj), fun q j hj => (one j hj).mpr (q j hj)⟩
  cases hh : nrow v N with
  | true => rw [iff.mpr hh]; rfl
  | false =>
    rcases e2 with z | z
    · rw [iff.mp z] at hh; cases hh
    · rw [z]; rfl
/-- the rest of the look for threes and a pair -/
noncomputable def wrc (g v : Nat → Nat) (N Y i d : Nat) : Bool := dcl ((∀ k : Nat, i ≤ k → k < 25 → g k % 3 ≠ 1) ∧ Y + p2c g i d = 1) && nrow v N
theorem x_woRows (hs : SE M b t s rr) (hN : I 228 b = nI N) (hN3 : N ≤ 3) (hw : ∀ k, k < 25 → A t k = nI (g k)) (hg : ∀ k, k < 25 → g k < 1000) (hv : ∀ j, j < N → A s j = nI (v j)) (h4 : ∀ j, j < N → v j < 400) : ∀ (d n i Y : Nat), i + d = 25 → d < n → Y ≤ i → f_X2_withoutRows_4 n b (nI Y) (nI i) (cs I J A M) = some (b32 (wrc g v N Y i d), cs I J A M) := by
  intro d
  induction d with
  | zero =>
    intro n i Y hi hn hY
    obtain ⟨n, rfl⟩ : ∃ m, n = m + 1 := ⟨n - 1, by omega⟩
    have e0 : p2c g i 0 = 0 := rfl
    unfold wrc
    rw [f_X2_withoutRows_4, if_pos (le_t (x := 25) 25 i (by omega) (by omega)), e0]
    by_cases y : Y = 1
    · rw [if_pos (show nI Y = 1 by rw [y]; rfl), if_pos (show mK (cs I J A M) b = 7 from hs.1), x_rowLies hs hN hN3 hv h4, Option.bind_some, dcl_t ⟨fun k q1 q2 => by omega, by omega⟩, Bool.true_and]
      dsimp only
      cases nrow v N
      · rfl
      · rfl
    · rw [if_neg (eq_f (y := 1) Y 1 y (by omega) (by decide)), dcl_f (fun z => y (by have := z.2; omega)), Bool.false_and]
      rfl
  | succ d ih =>
    intro n i Y hi hn hY
    obtain ⟨n, rfl⟩ : ∃ m, n = m + 1 := ⟨n - 1, by omega⟩
    have hgi := hg i (by omega)
    have em : zmd (nI (g i)) 3 = nI (g i % 3) := pk_rem (a := g i) (d := 3) (by omega) (by decide) (by decide)
    have ep : p2c g i (d + 1) = (if g i % 3 = 2 then 1 else 0) + p2c g (i + 1) d := rfl
    rw [f_X2_withoutRows_4, if_neg (le_f (x := 25) 25 i (by omega) (by decide)), if_pos (show mK (cs I J A M) b = 7 from hs.1), q_count hs (by omega), Option.bind_some, nI_1 i]
    dsimp only
    rw [hw i (by omega), em]
    by_cases y1 : g i % 3 = 1
    · rw [if_pos (show nI (g i % 3) = 1 by rw [y1]; rfl)]
      have e : wrc g v N Y i (d + 1) = false := by
        unfold wrc
        rw [dcl_f (fun z => z.1 i (Nat.le_refl _) (by omega) y1), Bool.false_and]
      rw [e]
      rfl
    · rw [if_neg (eq_f (y := 1) (g i % 3) 1 y1 (by omega) (by decide))]
      have st : ∀ c, (if g i % 3 = 2 then 1 else 0) = c → wrc g v N Y i (d + 1) = wrc g v N (Y + c) (i + 1) d := fun c hc => by
        unfold wrc
        rw [ep, hc]
        refine congrArg (· && nrow v N) (dcl_c ⟨fun z => ⟨fun k q1 q2 => z.1 k (by omega) q2, by omega⟩, fun z => ⟨fun k q1 q2 => ?_, by omega⟩⟩)
        by_cases w : k = i
        · subst w; exact y1
        · exact z.1 k (by omega) q2
      by_cases y2 : g i % 3 = 2
      · have e1 : nI Y + 1 = nI (Y + 1) := nI_1 Y
        rw [if_pos (show nI (g i % 3) = 2 by rw [y2]; rfl), e1, st 1 (if_pos y2)]
        exact ih n (i + 1) (Y + 1) (by omega) (by omega) (by omega)
      · have e1 : nI Y + 0 = nI (Y + 0) := nI_add Y 0
        rw [if_neg (eq_f (y := 2) (g i % 3) 2 y2 (by omega) (by decide)), e1, st 0 (if_neg y2)]
        exact ih n (i + 1) (Y + 0) (by omega) (by omega) (by omega)
theorem x_value_144 (h : VA M a r) (hx : ∀ k, k < 25 → A r k = nI (x k)) (hx9 : ∀ k, k < 25 → x k < 10000) {p q : Nat} (hp : p < 100000) (hq : q < 100000) : f_X2_value_144 a (nI p) (nI q) (cs I J A M) = some (nI (min (q + p + vos x) 12), cs I J A M) := by
  have l : vos x ≤ 4 := by
    unfold vos
    repeat' split
    all_goals omega
  unfold f_X2_value_144
  have e12 : f_J9_min_7cf53 (nI (q + p + vos x)) 12 (cs I J A M) = some (nI (min (q + p + vos x) 12), cs I J A M) := x_minN (b := 12) (by omega) (by decide) _
  rw [if_pos (show mK (cs I J A M) a = 8 from h.1), x_ofOneSuit h hx hx9, Option.bind_some]
  dsimp only
  rw [nI_add, nI_add, e12, Option.bind_some]
theorem x_value_127 (h : VA M a r) (hs : SE M b t s rr) (hN : I 228 b = nI N) (hN3 : N ≤ 3) (hw : ∀ k, k < 25 → A t k = nI (g k)) (hg : ∀ k, k < 25 → g k < 1000) (hv : ∀ j, j < N → A s j = nI (v j)) (h4 : ∀ j, j < N → v j < 400) (hx : ∀ k, k < 25 → A r k = nI (x k)) (hx9 : ∀ k, k < 25 → x k < 10000) {p q : Nat} (hp : p < 30000) (hq : q < 30000) : f_X2_value_127 a b (nI p) (nI q) (cs I J A M) = some (nI (min (q + p + (if wrc g v N 0 0 25 = true then 2 else 0) + vos x) 12), cs I J A M) := by
  unfold f_X2_value_127 f_X2_withoutRows f_X2_withoutRows_0
  have e' : f_X2_withoutRows_4 zN b 0 0 (cs I J A M) = some (b32 (wrc g v N 0 0 25), cs I J A M) := x_woRows (J := J) (A := A) hs hN hN3 hw hg hv h4 25 zN 0 0 rfl (by decide) (Nat.le_refl _)
  rw [e', Option.bind_some, nI_add]
  dsimp only
  cases wrc g v N 0 0 25
  · rw [if_pos (show b32 false = 0 from rfl), if_neg (by decide)]
    exact x_value_144 (p := 0) h hx hx9 (by omega) (by omega)
  · rw [if_neg (show ¬ b32 true = 0 by decide), if_pos rfl]
    exact x_value_144 (p := 2) h hx hx9 (by omega) (by omega)
theorem ge3_le (n : Nat) : ge3 n ≤ 1 := by
  unfold ge3
  split <;> omega
theorem x_value_75 (h : VA M a r) (hs : SE M b t s rr) (hN : I 228 b = nI N) (hN3 : N ≤ 3) (hw : ∀ k, k < 25 → A t k = nI (g k)) (hg : ∀ k, k < 25 → g k < 1000) (hv : ∀ j, j < N → A s j = nI (v j)) (h4 : ∀ j, j < N → v j < 400) (hx : ∀ k, k < 25 → A r k = nI (x k)) (hx9 : ∀ k, k < 25 → x k < 10000) {wd : Nat} (hwd : wd < 4) {q : Nat} (hq : q < 20000) : f_X2_value_75 zN a b (nI wd) (nI q) 22 (cs I J A M) = some (nI (min (q + (ge3 (x 22) + ge3 (x 23) + ge3 (x 24)) + ge3 (x (18 + wd)) + (if vpn x 0 = true then 1 else 0) + (if wrc g v N 0 0 25 = true then 2 else 0) + vos x) 12), cs I J A M) := by
  have s1 : f_X2_setOf a 22 (cs I J A M) = some (nI (ge3 (x 22)), cs I J A M) := x_setOf (k := 22) h hx hx9 (by decide) (by decide)
  have s2 : f_X2_setOf a 23 (cs I J A M) = some (nI (ge3 (x 23)), cs I J A M) := x_setOf (k := 23) h hx hx9 (by decide) (by decide)
  have s3 : f_X2_setOf a 24 (cs I J A M) = some (nI (ge3 (x 24)), cs I J A M) := x_setOf (k := 24) h hx hx9 (by decide) (by decide)
  have e18 : (18 : Int32) + nI wd = nI (18 + wd) := nI_add 18 wd
  have s4 : f_X2_setOf a (18 + nI wd) (cs I J A M) = some (nI (ge3 (x (18 + wd))), cs I J A M) := by
    rw [e18]
    exact x_setOf h hx hx9 (by omega) (by omega)
  have we : f_X2_withoutEndsAndHonours a (cs I J A M) = some (b32 (vpn x 0), cs I J A M) := x_woEnds (I := I) (J := J) (A := A) h hx hx9 25 zN 0 rfl (by decide)
  have k8 : mK (cs I J A M) a = 8 := h.1
  have i1 : (22 : Int32) + 1 = 23 := rfl
  have i2 : (23 : Int32) + 1 = 24 := rfl
  have i3 : (24 : Int32) + 1 = 25 := rfl
  have l1 := ge3_le (x 22)
  have l2 := ge3_le (x 23)
  have l3 := ge3_le (x 24)
  have l4 := ge3_le (x (18 + wd))
  rw [show zN = 125 + 1 + 1 + 1 + 1 + 1 from rfl]
  rw [f_X2_value_75, if_neg (by decide), if_pos k8, s1, Option.bind_some, nI_add, i1]
  rw [f_X2_value_75, if_neg (by decide), if_pos k8, s2, Option.bind_some, nI_add, i2]
  rw [f_X2_value_75, if_neg (by decide), if_pos k8, s3, Option.bind_some, nI_add, i3]
  rw [f_X2_value_75, if_pos (by decide), if_pos k8, s4, Option.bind_some]
  dsimp only
  rw [if_pos k8, we, Option.bind_some, nI_add]
  dsimp only
  cases vpn x 0
  · rw [if_pos (show b32 false = 0 from rfl), if_neg (by decide)]
    have e := x_value_127 (J := J) (A := A) (p := 0) (q := q + ge3 (x 22) + ge3 (x 23) + ge3 (x 24) + ge3 (x (18 + wd))) h hs hN hN3 hw hg hv h4 hx hx9 (by decide) (by omega)
    have e' : f_X2_value_127 a b 0 (nI (q + ge3 (x 22) + ge3 (x 23) + ge3 (x 24) + ge3 (x (18 + wd)))) (cs I J A M) = _ := e
    rw [e']
    refine congrArg (fun z => some (nI (min z 12), cs I J A M)) (by omega)
  · rw [if_neg (show ¬ b32 true = 0 by decide), if_pos rfl]
    have e := x_value_127 (J := J) (A := A) (p := 1) (q := q + ge3 (x 22) + ge3 (x 23) + ge3 (x 24) + ge3 (x (18 + wd))) h hs hN hN3 hw hg hv h4 hx hx9 (by decide) (by omega)
    have e' : f_X2_value_127 a b 1 (nI (q + ge3 (x 22) + ge3 (x 23) + ge3 (x 24) + ge3 (x (18 + wd)))) (cs I J A M) = _ := e
    rw [e']
    refine congrArg (fun z => some (nI (min z 12), cs I J A M)) (by omega)
/-- the value by the class -/
theorem x_value (h : VA M a r) (hs : SE M b t s rr) (hr : r ≠ t ∧ r ≠ s) (hN : I 228 b = nI N) (hN3 : N ≤ 3) (hw : ∀ k, k < 25 → A t k = nI (g k)) (hg : ∀ k, k < 25 → g k < 1000) (hv : ∀ j, j < N → A s j = nI (v j)) (h4 : ∀ j, j < N → v j < 400) {c : Bool} (hc : I 230 b = b32 c) (al : Bool) {lk wd : Nat} (hlk : lk < 25) (hwd : wd < 4) : ∃ w', f_X2_value a b (b32 al) (nI lk) (nI wd) (cs I J A M) = some (nI (min (vsum al c (sn (fun j => if v j / 100 = 3 then 0 else 1) 0 N) lk wd (alk g v N) (wrc g v N 0 0 25)) 12), cs I J (ur A r w') M) := by
  obtain ⟨w', e, f⟩ := x_gather (J := J) (A := A) h hs hr hN hN3 hw hv h4
  refine ⟨w', ?_⟩
  have hx9 : ∀ k, k < 25 → alk g v N k < 2000 := fun k hk => by
    have := hg k hk
    have := lys_le (v := v) hN3 k
    unfold alk
    omega
  have hw2 : ∀ k, k < 25 → ur A r w' t k = nI (g k) := fun k hk => (ur_ne A k w' (Ne.symm hr.1)).trans (hw k hk)
  have hv2 : ∀ j, j < N → ur A r w' s j = nI (v j) := fun j hj => (ur_ne A j w' (Ne.symm hr.2)).trans (hv j hj)
  have hx2 : ∀ k, k < 25 → ur A r w' r k = nI (alk g v N k) := fun k hk => (ur_at A r k w').trans (f k hk)
  have eop : f_X1_openSets b (cs I J (ur A r w') M) = some (nI (sn (fun j => if v j / 100 = 3 then 0 else 1) 0 N), cs I J (ur A r w') M) := by
    rw [q_openSets hs hN hN3]
    rw [sm_nI _ (fun j => if v j / 100 = 3 then 0 else 1) N 0 (fun j _ hj => by
      have hj' : j < N := by omega
      have h9 := h4 j hj'
      have e1 : nI (v j) / 100 = nI (v j / 100) := pk_div (a := v j) (d := 100) (by omega) (by decide) (by decide)
      show (if ur A r w' s j / 100 = 3 then (0 : Int32) else 1) = _
      rw [hv2 j hj', e1]
      by_cases y : v j / 100 = 3
      · rw [if_pos (show nI (v j / 100) = 3 by rw [y]; rfl), if_pos y]; rfl
      · rw [if_neg (eq_f (y := 3) (v j / 100) 3 y (by omega) (by decide)), if_neg y]; rfl)]
  have k43 : ∀ p q : Nat, p < 10 → q < 10 → f_X2_value_43 a b (nI lk) (nI wd) (nI p) (nI q) (cs I J (ur A r w') M) = some (nI (min (q + p + alk g v N lk + (ge3 (alk g v N 22) + ge3 (alk g v N 23) + ge3 (alk g v N 24)) + ge3 (alk g v N (18 + wd)) + (if vpn (alk g v N) 0 = true then 1 else 0) + (if wrc g v N 0 0 25 = true then 2 else 0) + vos (alk g v N)) 12), cs I J (ur A r w') M) := fun p q hp hq => by
    have h9 := hx9 lk hlk
    unfold f_X2_value_43 f_X2_value_68
    rw [if_neg (nI_nn (by omega)), if_neg (le_f (x := 25) 25 lk hlk (by decide)), gR_cs 256 h.1 h.2.1, Option.bind_some, lA_cs h.2.2.1 (by rw [h.2.2.2]; omega) (by rw [h.2.2.2]; decide), Option.bind_some, hx2 lk hlk, nI_add, nI_add]
    exact x_value_75 (J := J) (A := ur A r w') h hs hN hN3 hw2 hg hv2 h4 hx2 (fun k hk => by have := hx9 k hk; omega) hwd (by omega)
  have k22 : ∀ p : Nat, p < 2 → f_X2_value_22 a b (b32 al) (nI lk) (nI wd) (nI p) 1 (cs I J (ur A r w') M) = some (nI (min (1 + p + (if al = true ∧ sn (fun j => if v j / 100 = 3 then 0 else 1) 0 N = 0 then 1 else 0) + alk g v N lk + (ge3 (alk g v N 22) + ge3 (alk g v N 23) + ge3 (alk g v N 24)) + ge3 (alk g v N (18 + wd)) + (if vpn (alk g v N) 0 = true then 1 else 0) + (if wrc g v N 0 0 25 = true then 2 else 0) + vos (alk g v N)) 12), cs I J (ur A r w') M) := fun p hp => by
    unfold f_X2_value_22 f_X2_value_42
    have e1p : (1 : Int32) + nI p = nI (1 + p) := nI_add 1 p
    rw [e1p]
    cases al with
    | false =>
      rw [if_pos (show b32 false = 0 from rfl), if_neg (show ¬ (false = true ∧ sn (fun j => if v j / 100 = 3 then 0 else 1) 0 N = 0) from fun z => by cases z.1)]
      exact k43 0 (1 + p) (by decide) (by omega)
    | true =>
      rw [if_neg (show ¬ b32 true = 0 by decide), if_pos (show mK (cs I J (ur A r w') M) b = 7 from hs.1), eop, Option.bind_some]
      dsimp only
      have l := sn_le1 (fun j => if v j / 100 = 3 then 0 else 1) (fun j => by split <;> omega) N 0
      by_cases y : sn (fun j => if v j / 100 = 3 then 0 else 1) 0 N = 0
      · rw [if_pos (show nI (sn (fun j => if v j / 100 = 3 then 0 else 1) 0 N) = 0 by rw [y]; rfl), if_pos ⟨rfl, y⟩]
        exact k43 1 (1 + p) (by decide) (by omega)
      · rw [if_neg (eq_f (y := 0) _ 0 y (by omega) (by decide)), if_neg (fun z => y z.2)]
        exact k43 0 (1 + p) (by decide) (by omega)
  unfold f_X2_value f_X2_value_0
  rw [if_pos (show mK (cs I J A M) a = 8 from h.1), e, Option.bind_some]
  dsimp only
  rw [gI_cs 230 hs.1, Option.bind_some, hc]
  unfold vsum
  cases c with
  | false =>
    rw [if_pos (show b32 false = 0 from rfl), if_neg (by decide)]
    exact k22 0 (by decide)
  | true =>
    rw [if_neg (show ¬ b32 true = 0 by decide), if_pos rfl]
    exact k22 1 (by decide)
end XVAL

/-! ===== PURE: the value by the reference, exactly ===== -/
/-- without ends and honours, ahead of i; whether an honour is there, ahead of i -/
def vpb (x : Nat → Nat) (i : Nat) : Bool := decide (∀ k : Nat, k < i → x k ≠ 0 → k < 18 ∧ k % 9 ≠ 0 ∧ k % 9 ≠ 8)
def vhb (x : Nat → Nat) (i : Nat) : Bool := decide (∃ k : Nat, k < i ∧ 18 ≤ k ∧ x k ≠ 0)
noncomputable def vaa (y : Nat → Nat) (f e i : Nat) : Bool := dcl (∀ k : Nat, i ≤ k → k < 25 → y k ≠ 0 → f ≤ k ∧ k ≤ e)
def vis (i : Nat) : Bool := decide (18 ≤ i ∨ i % 9 = 0 ∨ i % 9 = 8)
/-- the value by all tiles -/
noncomputable def vtl (al c : Bool) (op lk : Nat) (x : Nat → Nat) : Nat := 1 + (if c = true then 1 else 0) + (if al = true ∧ op = 0 then 1 else 0) + x lk + (if vpn x 0 = true then 1 else 0) + vos x
theorem b32_and (p q : Bool) : b32 p &&& b32 q = b32 (p && q) := by cases p <;> cases q <;> decide
theorem b32_orr (p q : Bool) : b32 p ||| b32 q = b32 (p || q) := by cases p <;> cases q <;> decide
theorem b32_ite (p : Bool) : b32 p = nI (if p = true then 1 else 0) := by cases p <;> rfl
theorem vpb_st (x : Nat → Nat) (i : Nat) : vpb x (i + 1) = if x i = 0 then vpb x i else (vpb x i && !vis i) := by
  have hv : (!vis i) = true ↔ (i < 18 ∧ i % 9 ≠ 0 ∧ i % 9 ≠ 8) := by
    unfold vis
    by_cases y : 18 ≤ i ∨ i % 9 = 0 ∨ i % 9 = 8
    · rw [decide_eq_true y]
      exact ⟨fun z => (by cases z), fun z => by omega⟩
    · rw [decide_eq_false y]
      exact ⟨fun _ => by omega, fun _ => rfl⟩
  by_cases y : x i = 0
  · rw [if_pos y]
    exact decide_eq_decide.mpr ⟨fun h k a b => h k (by omega) b, fun h k a b => by
      by_cases z : k = i
      · subst z; exact absurd y b
      · exact h k (by omega) b⟩
  · rw [if_neg y]
    cases hh : vis i with
    | true =>
      have : ¬ (i < 18 ∧ i % 9 ≠ 0 ∧ i % 9 ≠ 8) := fun z => by
        have := hv.mpr z
        rw [hh] at this
        cases this
      rw [show (!true) = false from rfl, Bool.and_false]
      exact decide_eq_false fun h => this (h i (Nat.lt_succ_self _) y)
    | false =>
      have := hv.mp (by rw [hh]; rfl)
      rw [show (!false) = true from rfl, Bool.and_true]
      exact decide_eq_decide.mpr ⟨fun h k a b => h k (by omega) b, fun h k a b => by
        by_cases z : k = i
        · subst z; exact this
        · exact h k (by omega) b⟩
theorem vhb_st (x : Nat → Nat) (i : Nat) : vhb x (i + 1) = if x i = 0 then vhb x i else (vhb x i || decide (18 ≤ i)) := by
  by_cases y : x i = 0
  · rw [if_pos y]
    exact decide_eq_decide.mpr ⟨fun ⟨k, a, b, c⟩ => ⟨k, by
      by_cases z : k = i
      · subst z; exact absurd y c
      · omega, b, c⟩, fun ⟨k, a, b, c⟩ => ⟨k, by omega, b, c⟩⟩
  · rw [if_neg y]
    by_cases z : 18 ≤ i
    · rw [decide_eq_true z, Bool.or_true]
      exact decide_eq_true ⟨i, Nat.lt_succ_self _, z, y⟩
    · rw [decide_eq_false z, Bool.or_false]
      exact decide_eq_decide.mpr ⟨fun ⟨k, a, b, c⟩ => ⟨k, by
        by_cases w : k = i
        · subst w; exact absurd b z
        · omega, b, c⟩, fun ⟨k, a, b, c⟩ => ⟨k, by omega, b, c⟩⟩
theorem vpb_25 (x : Nat → Nat) : vpb x 25 = vpn x 0 := Bool.eq_iff_iff.mpr (decide_eq_true_iff.trans (Iff.trans ⟨fun h k _ b c => h k b c, fun h k b c => h k (Nat.zero_le _) b c⟩ dcl_iff.symm))
theorem vhb_25 (x : Nat → Nat) : vhb x 25 = vany x 18 25 := Bool.eq_iff_iff.mpr (decide_eq_true_iff.trans (Iff.trans ⟨fun ⟨k, a, b, c⟩ => ⟨k, b, a, c⟩, fun ⟨k, a, b, c⟩ => ⟨k, b, a, c⟩⟩ dcl_iff.symm))
section XTIL
variable {M M0 : zM} {P h l d N : Nat} {v : Nat → Nat}
/-- the suits alone -/
theorem vos_eq (x : Nat → Nat) : (if ((!vaa (fun k => if k < 18 then x k else 0) 18 24 0) && (vaa (fun k => if k < 18 then x k else 0) 0 8 0 || vaa (fun k => if k < 18 then x k else 0) 9 17 0)) = true then (if vany x 18 25 = true then 2 else 4) else 0) = vos x := by
  have a1 : vaa (fun k => if k < 18 then x k else 0) 0 8 0 = !vany x 9 18 := by
    cases h : vany x 9 18
    · refine dcl_t fun k _ b c => ?_
      dsimp only at c
      by_cases y : k < 18
      · rw [if_pos y] at c
        refine ⟨Nat.zero_le _, Nat.le_of_not_lt fun z => ?_⟩
        exact of_dcl_f h ⟨k, by omega, y, c⟩
      · rw [if_neg y] at c
        exact absurd rfl c
    · obtain ⟨k, k1, k2, k3⟩ := of_dcl_t h
      refine dcl_f fun g => ?_
      have := g k (Nat.zero_le _) (by omega) (by dsimp only; rw [if_pos k2]; exact k3)
      omega
  have a2 : vaa (fun k => if k < 18 then x k else 0) 9 17 0 = !vany x 0 9 := by
    cases h : vany x 0 9
    · refine dcl_t fun k _ b c => ?_
      dsimp only at c
      by_cases y : k < 18
      · rw [if_pos y] at c
        refine ⟨Nat.le_of_not_lt fun z => ?_, by omega⟩
        exact of_dcl_f h ⟨k, Nat.zero_le _, by omega, c⟩
      · rw [if_neg y] at c
        exact absurd rfl c
    · obtain ⟨k, k1, k2, k3⟩ := of_dcl_t h
      refine dcl_f fun g => ?_
      have := g k (Nat.zero_le _) (by omega) (by dsimp only; rw [if_pos (show k < 18 by omega)]; exact k3)
      omega
  have a3 : vaa (fun k => if k < 18 then x k else 0) 18 24 0 = !(vany x 0 9 || vany x 9 18) := by
    cases h : vany x 0 9
    · cases h2 : vany x 9 18
      · refine dcl_t fun k _ b c => ?_
        dsimp only at c
        by_cases y : k < 18
        · rw [if_pos y] at c
          by_cases z : k < 9
          · exact absurd ⟨k, Nat.zero_le _, z, c⟩ (of_dcl_f h)
          · exact absurd ⟨k, by omega, y, c⟩ (of_dcl_f h2)
        · rw [if_neg y] at c
          exact absurd rfl c
      · obtain ⟨k, k1, k2, k3⟩ := of_dcl_t h2
        refine dcl_f fun g => ?_
        have := g k (Nat.zero_le _) (by omega) (by dsimp only; rw [if_pos k2]; exact k3)
        omega
    · obtain ⟨k, k1, k2, k3⟩ := of_dcl_t h
      refine dcl_f fun g => ?_
      have := g k (Nat.zero_le _) (by omega) (by dsimp only; rw [if_pos (show k < 18 by omega)]; exact k3)
      omega
  unfold vos
  rw [a1, a2, a3]
  cases vany x 0 9 <;> cases vany x 9 18 <;> rfl
theorem row_km {M M' : zM} {r c s : Nat} {x : Nat → Nat} {m : Nat} (hr : AR M r) (hm : m ≤ 25) (hx : ∀ k, k < m → mA M r k = nI (x k)) (k : KM c s M M') : ∀ j, j < m → mA M' r j = nI (x j) := fun j hj => ((k.2 r hr.2.2).2.2.2.2.2.1 j (by rw [hr.2.1]; omega)).trans (hx j hj)
end XTIL

/-! ===== PURE: the value by the reference, exactly, 2: over all partings ===== -/
theorem vwd_key : ∀ p, p < 4 → ∀ D, D < 4 → (if 0 ≤ ((nI p - nI D) ^^^ 4) then zmd (nI p - nI D) 4 else if zmd (nI p - nI D) 4 = 0 then zmd (nI p - nI D) 4 else zmd (nI p - nI D) 4 + 4) = nI ((p + 4 - D) % 4) := by decide
section XVR
variable {I : Nat → Nat → Int32} {J : Nat → Nat → Int64} {A : Nat → Nat → Int32} {M : zM} {h : Nat}
/-- a recursive call on fewer tiles: its answer -/
def VSPX (I : Nat → Nat → Int32) (J : Nat → Nat → Int64) (A : Nat → Nat → Int32) (M : zM) (h T p wd : Nat) (RC : Nat → Nat → Int32 → Int32 → Int32 → Int32 → zM → Option (Int32 × zM)) : Prop :=
  ∀ (g : Nat → Nat) (w : Nat → Int32), (∀ k, k < 25 → w k = nI (g k)) → (∀ k, k < 25 → g k < 1000) → sn g 0 25 < T → ∀ S t u : Nat, sn g 0 25 + 3 * S = 9 → t ≤ S → u + 3 * sn g 0 25 < 900 → ∃ w', RC 1026 h (nI p) (nI S) (nI t) (nI u) (cs I J (ur A h w) M) = some (enc (VR wd S t u g), cs I J (ur A h w') M) ∧ ∀ k, k < 25 → w' k = w k
theorem hv_le (wd k : Nat) : hv wd k ≤ 1 := by
  unfold hv
  repeat' split
  all_goals omega
end XVR
section XVALU
variable {M M0 : zM} {P h l d N : Nat} {v : Nat → Nat}
/-- what the sets that lie give -/
def vty (v : Nat → Nat) (N : Nat) : Nat := sn (fun j => if v j / 100 = 1 then 0 else 1) 0 N
def vuy (wd : Nat) (v : Nat → Nat) (N : Nat) : Nat := sn (fun j => if v j / 100 = 1 then 0 else hv wd (v j % 100)) 0 N
/-- sets as they can lie: rows of a suit, kinds -/
def VOK (v : Nat → Nat) (N : Nat) : Prop := ∀ j, j < N → v j % 100 < 25 ∧ (v j / 100 = 1 → v j % 100 + 2 < 18)
/-- an honour: a three lies, or is in hand -/
theorem ge3_hon (hv0 : VOK v N) {g : Nat → Nat} {k : Nat} (hk : 18 ≤ k) (h5 : alk g v N k ≤ 5) : ge3 (alk g v N k) = sn (fun j => if v j / 100 = 1 then 0 else if v j % 100 = k then 1 else 0) 0 N + ge3 (g k) := by
  have key : ∀ d i, i + d = N → 3 * sn (fun j => if v j / 100 = 1 then 0 else if v j % 100 = k then 1 else 0) i d ≤ sn (fun j => tlN (v j / 100) (v j % 100) k) i d ∧ sn (fun j => tlN (v j / 100) (v j % 100) k) i d ≤ 4 * sn (fun j => if v j / 100 = 1 then 0 else if v j % 100 = k then 1 else 0) i d := by
    intro d
    induction d with
    | zero => exact fun i _ => ⟨Nat.le_refl _, Nat.le_refl _⟩
    | succ d ih =>
      intro i hi
      obtain ⟨a, b⟩ := ih (i + 1) (by omega)
      have h0 := hv0 i (by omega)
      have one : 3 * (if v i / 100 = 1 then 0 else if v i % 100 = k then 1 else 0) ≤ tlN (v i / 100) (v i % 100) k ∧ tlN (v i / 100) (v i % 100) k ≤ 4 * (if v i / 100 = 1 then 0 else if v i % 100 = k then 1 else 0) := by
        unfold tlN
        by_cases y : v i / 100 = 1
        · have := h0.2 y
          rw [if_pos y, if_pos y, if_neg (show ¬ k < v i % 100 by omega), if_pos (show v i % 100 + 2 < k by omega)]
          exact ⟨Nat.le_refl _, Nat.le_refl _⟩
        · rw [if_neg y, if_neg y]
          by_cases z : v i % 100 = k
          · rw [if_pos z, if_pos z.symm]
            split <;> omega
          · rw [if_neg z, if_neg (fun q => z q.symm)]
            exact ⟨Nat.le_refl _, Nat.le_refl _⟩
      rw [sn, sn]
      omega
  obtain ⟨a, b⟩ := key N 0 (by omega)
  unfold alk lys at h5
  unfold ge3 alk lys
  repeat' split
  all_goals omega
theorem vuy_eq {wd : Nat} (hwd : wd < 4) (hv0 : VOK v N) : vuy wd v N = sn (fun j => if v j / 100 = 1 then 0 else if v j % 100 = 22 then 1 else 0) 0 N + sn (fun j => if v j / 100 = 1 then 0 else if v j % 100 = 23 then 1 else 0) 0 N + sn (fun j => if v j / 100 = 1 then 0 else if v j % 100 = 24 then 1 else 0) 0 N + sn (fun j => if v j / 100 = 1 then 0 else if v j % 100 = 18 + wd then 1 else 0) 0 N := by
  unfold vuy
  rw [← sn_pl, ← sn_pl, ← sn_pl]
  refine sn_eq N 0 fun j _ hj => ?_
  have := (hv0 j (by omega)).1
  unfold hv
  repeat' split
  all_goals omega
theorem vty_N : vty v N = N ↔ nrow v N = true := by
  have key : ∀ N, (vty v N = N ↔ ∀ j, j < N → v j / 100 ≠ 1) ∧ vty v N ≤ N := by
    intro N
    induction N with
    | zero => exact ⟨⟨fun _ j hj => absurd hj (Nat.not_lt_zero _), fun _ => rfl⟩, Nat.le_refl _⟩
    | succ N ih =>
      have e : vty v (N + 1) = vty v N + (if v N / 100 = 1 then 0 else 1) := by
        unfold vty
        rw [sn_last, Nat.zero_add]
      rw [e]
      by_cases y : v N / 100 = 1
      · rw [if_pos y]
        refine ⟨⟨fun z => by have := ih.2; omega, fun z => absurd y (z N (Nat.lt_succ_self _))⟩, by have := ih.2; omega⟩
      · rw [if_neg y]
        refine ⟨⟨fun z j hj => ?_, fun z => ?_⟩, by have := ih.2; omega⟩
        · by_cases w : j = N
          · rw [w]; exact y
          · exact ih.1.mp (by omega) j (by omega)
        · have := ih.1.mpr (fun j hj => z j (by omega))
          omega
  exact (key N).1.trans ⟨fun z => decide_eq_true z, fun z => of_decide_eq_true z⟩
/-- both give the same -/
theorem val_eq {wd : Nat} (hwd : wd < 4) (hv0 : VOK v N) {g : Nat → Nat} (hc : cmp 25 0 g = true) (h5 : ∀ k, k < 25 → alk g v N k ≤ 5) (al cl : Bool) (op lk : Nat) : ∃ Y, Y < 1000 ∧ vpl wd N (vty v N) (vuy wd v N) g 25 0 none = some Y ∧ min 12 (Y + vtl al cl op lk (alk g v N)) = min (vsum al cl op lk wd (alk g v N) (wrc g v N 0 0 25)) 12 := by
  have h5g : ∀ k, 18 ≤ k → k < 25 → g k ≤ 5 := fun k _ hk => by
    have := h5 k hk
    unfold alk at this
    omega
  have eY := vpl_val (S := N) (t := vty v N) (u := vuy wd v N) hwd hc h5g
  have s1 := ge3_hon hv0 (g := g) (k := 22) (by decide) (h5 22 (by decide))
  have s2 := ge3_hon hv0 (g := g) (k := 23) (by decide) (h5 23 (by decide))
  have s3 := ge3_hon hv0 (g := g) (k := 24) (by decide) (h5 24 (by decide))
  have s4 := ge3_hon hv0 (g := g) (k := 18 + wd) (by omega) (h5 _ (by omega))
  have su := vuy_eq hwd hv0
  have ew : (if wr3 g = true ∧ vty v N = N then 2 else 0) = (if wrc g v N 0 0 25 = true then 2 else 0) := by
    have iff : (wr3 g = true ∧ vty v N = N) ↔ wrc g v N 0 0 25 = true := by
      unfold wrc
      rw [Bool.and_eq_true, dcl_iff, wr3_iff, vty_N, Nat.zero_add]
      exact ⟨fun z => ⟨⟨fun k _ hk => z.1.1 k hk, z.1.2⟩, z.2⟩, fun z => ⟨⟨fun k hk => z.1.1 k (Nat.zero_le _) hk, z.1.2⟩, z.2⟩⟩
    by_cases y : wr3 g = true ∧ vty v N = N
    · rw [if_pos y, if_pos (iff.mp y)]
    · rw [if_neg y, if_neg (fun z => y (iff.mpr z))]
  rw [ew] at eY
  have g1 := ge3_le (g 22)
  have g2 := ge3_le (g 23)
  have g3 := ge3_le (g 24)
  have g4 := ge3_le (g (18 + wd))
  have k1 := ge3_le (alk g v N 22)
  have k2 := ge3_le (alk g v N 23)
  have k3 := ge3_le (alk g v N 24)
  have k4 := ge3_le (alk g v N (18 + wd))
  refine ⟨_, ?_, eY, ?_⟩
  · split <;> omega
  · rw [Nat.min_comm]
    refine congrArg (fun z => min z 12) ?_
    unfold vtl vsum
    omega
end XVALU

