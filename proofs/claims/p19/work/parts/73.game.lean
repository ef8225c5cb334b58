/-! ===== THE GAME: what always holds, 1: the places, each kind four times ===== -/
theorem sn_eq {f g : Nat → Nat} : ∀ (d i : Nat), (∀ k, i ≤ k → k < i + d → f k = g k) → sn f i d = sn g i d := by
  intro d
  induction d with
  | zero => exact fun _ _ => rfl
  | succ d ih =>
    intro i h
    rw [sn, sn, h i (Nat.le_refl _) (by omega), ih (i + 1) (fun k h1 h2 => h k (by omega) (by omega))]
theorem sn_lef {f g : Nat → Nat} : ∀ (d i : Nat), (∀ k, i ≤ k → k < i + d → f k ≤ g k) → sn f i d ≤ sn g i d := by
  intro d
  induction d with
  | zero => exact fun _ _ => Nat.le_refl _
  | succ d ih =>
    intro i h
    rw [sn, sn]
    exact Nat.add_le_add (h i (Nat.le_refl _) (by omega)) (ih (i + 1) (fun k h1 h2 => h k (by omega) (by omega)))
theorem sn_pl {f g : Nat → Nat} : ∀ (d i : Nat), sn (fun k => f k + g k) i d = sn f i d + sn g i d := by
  intro d
  induction d with
  | zero => exact fun _ => rfl
  | succ d ih =>
    intro i
    rw [sn, sn, sn, ih (i + 1)]
    omega
theorem sn_last (f : Nat → Nat) (d i : Nat) : sn f i (d + 1) = sn f i d + f (i + d) := (sn_add f 1 d i).trans (by rw [sn, sn]; rfl)
theorem sn_upd {f f' : Nat → Nat} {p : Nat} (h : ∀ j, j ≠ p → f' j = f j) {d i : Nat} (h1 : i ≤ p) (h2 : p < i + d) : sn f' i d + f p = sn f i d + f' p := by
  have e : f' = u1 f p (f' p) := funext fun j => by
    by_cases y : j = p
    · rw [y, u1_at]
    · rw [u1_ne _ _ y, h j y]
  rw [e, u1_at]
  exact sn_u1 f p (f' p) d i h1 h2
theorem sn_inj {f : Nat → Nat} {v : Nat} : ∀ (d i : Nat), (∀ a b, i ≤ a → a < i + d → i ≤ b → b < i + d → f a = f b → a = b) → sn (fun t => if f t = v then 1 else 0) i d ≤ 1 := by
  intro d
  induction d with
  | zero => exact fun _ _ => Nat.zero_le _
  | succ d ih =>
    intro i h
    rw [sn]
    by_cases y : f i = v
    · have e0 : sn (fun t => if f t = v then 1 else 0) (i + 1) d = 0 := sn_0 _ d (i + 1) (fun k h1 h2 => if_neg (fun z => by
        have := h i k (Nat.le_refl _) (by omega) (by omega) (by omega) (y.trans z.symm)
        omega))
      rw [e0, if_pos y]
      exact Nat.le_refl _
    · rw [if_neg y, Nat.zero_add]
      exact ih (i + 1) (fun a b a1 a2 b1 b2 => h a b (by omega) (by omega) (by omega) (by omega))
def gs (s : Nat → Nat) (t : Nat) : Nat := (s 0 * t + s 1) % 100 / 4
def ct (s : Nat → Nat) (k i d : Nat) : Nat := sn (fun t => if gs s t = k then 1 else 0) i d
/-- how many of a kind left the wall -/
def DC (s : Nat → Nat) (k : Nat) : Nat := ct s k 0 (40 + s 2) + ct s k (100 - s 3) (s 3)
theorem st_inv : ∀ a, a < 100 → a % 2 ≠ 0 → a % 5 ≠ 0 → (a ^ 19 % 100 * a) % 100 = 1 := by decide
theorem st_inj {a b st sh : Nat} (h1 : st < 100) (h2 : st % 2 ≠ 0) (h3 : st % 5 ≠ 0) (ha : a < 100) (hb : b < 100) (e : (st * a + sh) % 100 = (st * b + sh) % 100) : a = b := by
  have e1 : (st * a) % 100 = (st * b) % 100 := by omega
  have key : ∀ x, x < 100 → ((st ^ 19 % 100) * (st * x)) % 100 = x := fun x hx => by
    rw [← Nat.mul_assoc, Nat.mul_mod, st_inv st h1 h2 h3, Nat.one_mul, Nat.mod_mod, Nat.mod_eq_of_lt hx]
  rw [← key a ha, ← key b hb, Nat.mul_mod, e1, ← Nat.mul_mod]
theorem ct_4 {s : Nat → Nat} (h1 : s 0 < 100) (h2 : s 0 % 2 ≠ 0) (h3 : s 0 % 5 ≠ 0) (k : Nat) : ct s k 0 100 ≤ 4 := by
  have e : ∀ t, (if gs s t = k then 1 else 0) = (if (s 0 * t + s 1) % 100 = 4 * k then 1 else 0) + (if (s 0 * t + s 1) % 100 = 4 * k + 1 then 1 else 0) + (if (s 0 * t + s 1) % 100 = 4 * k + 2 then 1 else 0) + (if (s 0 * t + s 1) % 100 = 4 * k + 3 then 1 else 0) := fun t => by
    unfold gs
    generalize (s 0 * t + s 1) % 100 = x
    repeat' split
    all_goals omega
  have i1 : ∀ v, sn (fun t => if (s 0 * t + s 1) % 100 = v then 1 else 0) 0 100 ≤ 1 := fun v => sn_inj (f := fun t => (s 0 * t + s 1) % 100) 100 0 (fun a b _ a2 _ b2 z => st_inj h1 h2 h3 (by omega) (by omega) z)
  unfold ct
  rw [sn_eq (g := fun t => (if (s 0 * t + s 1) % 100 = 4 * k then 1 else 0) + (if (s 0 * t + s 1) % 100 = 4 * k + 1 then 1 else 0) + (if (s 0 * t + s 1) % 100 = 4 * k + 2 then 1 else 0) + (if (s 0 * t + s 1) % 100 = 4 * k + 3 then 1 else 0)) 100 0 (fun t _ _ => e t), sn_pl, sn_pl, sn_pl]
  have := i1 (4 * k)
  have := i1 (4 * k + 1)
  have := i1 (4 * k + 2)
  have := i1 (4 * k + 3)
  omega
theorem DC_4 {s : Nat → Nat} (h1 : s 0 < 100) (h2 : s 0 % 2 ≠ 0) (h3 : s 0 % 5 ≠ 0) (h4 : s 2 + s 3 ≤ 60) (k : Nat) : DC s k ≤ 4 := by
  have h := ct_4 h1 h2 h3 k
  unfold DC ct at *
  have e1 : 100 = (40 + s 2) + ((60 - s 2 - s 3) + s 3) := by omega
  rw [e1, sn_add _ ((60 - s 2 - s 3) + s 3) (40 + s 2) 0, sn_add _ (s 3) (60 - s 2 - s 3)] at h
  rw [show 0 + (40 + s 2) + (60 - s 2 - s 3) = 100 - s 3 by omega] at h
  omega
