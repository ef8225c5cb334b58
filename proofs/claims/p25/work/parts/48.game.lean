/-! ===== THE GAME: what always holds, 1: the places, each kind four times ===== -/
theorem sn_eq {f g : Nat → Nat} : ∀ (d i : Nat), (∀ k, i ≤ k → k < i + d → f k = g k) → sn f i d = sn g i d := by
  intro d
  induction d with
  | zero => exact fun _ _ => rfl
  | succ d ih =>
    intro i h
    rw [sn, sn, h i (Nat.le_refl _) (by omega), ih (i + 1) (fun k h1 h2 => h k (by omega) (by omega))]
theorem sn_lef {f g : Nat → Nat} : ∀ (d i : Nat), (∀ k, i ≤ k → k < i + d → f k ≤ g k) → sn f i d ≤ sn g i d := by
  intro d
  induction d with
  | zero => exact fun _ _ => Nat.le_refl _
  | succ d ih =>
    intro i h
    rw [sn, sn]
    exact Nat.add_le_add (h i (Nat.le_refl _) (by omega)) (ih (i + 1) (fun k h1 h2 => h k (by omega) (by omega)))
theorem sn_pl {f g : Nat → Nat} : ∀ (d i : Nat), sn (fun k => f k + g k) i d = sn f i d + sn g i d := by
  intro d
  induction d with
  | zero => exact fun _ => rfl
  | succ d ih =>
    intro i
    rw [sn, sn, sn, ih (i + 1)]
    omega
theorem sn_last (f : Nat → Nat) (d i : Nat) : sn f i (d + 1) = sn f i d + f (i + d) := (sn_add f 1 d i).trans (by rw [sn, sn]; rfl)
theorem sn_upd {f f' : Nat → Nat} {p : Nat} (h : ∀ j, j ≠ p → f' j = f j) {d i : Nat} (h1 : i ≤ p) (h2 : p < i + d) : sn f' i d + f p = sn f i d + f' p := by
  have e : f' = u1 f p (f' p) := funext fun j => by
    by_cases y : j = p
    · rw [y, u1_at]
    · rw [u1_ne _ _ y, h j y]
  rw [e, u1_at]
  exact sn_u1 f p (f' p) d i h1 h2
theorem sn_inj {f : Nat → Nat} {v : Nat} : ∀ (d i : Nat), (∀ a b, i ≤ a → a < i + d → i ≤ b → b < i + d → f a = f b → a = b) → sn (fun t => if f t = v then 1 else 0) i d ≤ 1 := by
  intro d
  induction d with
  | zero => exact fun _ _ => Nat.zero_le _
  | succ d ih =>
    intro i h
    rw [sn]
    by_cases y : f i = v
    · have e0 : sn (fun t => if f t = v then 1 else 0) (i + 1) d = 0 := sn_0 _ d (i + 1) (fun k h1 h2 => if_neg (fun z => by
        have := h i k (Nat.le_refl _) (by omega) (by omega) (by omega) (y.trans z.symm)
        omega))
      rw [e0, if_pos y]
      exact Nat.le_refl _
    · rw [if_neg y, Nat.zero_add]
      exact ih (i + 1) (fun a b a1 a2 b1 b2 => h a b (by omega) (by omega) (by omega) (by omega))
def gs (s : Nat → Nat) (t : Nat) : Nat := (s 0 * t + s 1) % 100 / 4
def ct (s : Nat → Nat) (k i d : Nat) : Nat := sn (fun t => if gs s t = k then 1 else 0) i d
/-- how many of a kind left the wall -/
def DC (s : Nat → Nat) (k : Nat) : Nat := ct s k 0 (40 + s 2) + ct s k (100 - s 3) (s 3)
theorem st_inv : ∀ a, a < 100 → a % 2 ≠ 0 → a % 5 ≠ 0 → (a ^ 19 % 100 * a) % 100 = 1 := by decide
theorem st_inj {a b st sh : Nat} (h1 : st < 100) (h2 : st % 2 ≠ 0) (h3 : st % 5 ≠ 0) (ha : a < 100) (hb : b < 100) (e : (st * a + sh) % 100 = (st * b + sh) % 100) : a = b := by
  have e1 : (st * a) % 100 = (st * b) % 100 := by omega
  have key : ∀ x, x < 100 → ((st ^ 19 % 100) * (st * x)) % 100 = x := fun x hx => by
    rw [← Nat.mul_assoc, Nat.mul_mod, st_inv st h1 h2 h3, Nat.one_mul, Nat.mod_mod, Nat.mod_eq_of_lt hx]
  rw [← key a ha, ← key b hb, Nat.mul_mod, e1, ← Nat.mul_mod]
theorem ct_4 {s : Nat → Nat} (h1 : s 0 < 100) (h2 : s 0 % 2 ≠ 0) (h3 : s 0 % 5 ≠ 0) (k : Nat) : ct s k 0 100 ≤ 4 := by
  have e : ∀ t, (if gs s t = k then 1 else 0) = (if (s 0 * t + s 1) % 100 = 4 * k then 1 else 0) + (if (s 0 * t + s 1) % 100 = 4 * k + 1 then 1 else 0) + (if (s 0 * t + s 1) % 100 = 4 * k + 2 then 1 else 0) + (if (s 0 * t + s 1) % 100 = 4 * k + 3 then 1 else 0) := fun t => by
    unfold gs
    generalize (s 0 * t + s 1) % 100 = x
    repeat' split
    all_goals omega
  have i1 : ∀ v, sn (fun t => if (s 0 * t + s 1) % 100 = v then 1 else 0) 0 100 ≤ 1 := fun v => sn_inj (f := fun t => (s 0 * t + s 1) % 100) 100 0 (fun a b _ a2 _ b2 z => st_inj h1 h2 h3 (by omega) (by omega) z)
  unfold ct
  rw [sn_eq (g := fun t => (if (s 0 * t + s 1) % 100 = 4 * k then 1 else 0) + (if (s 0 * t + s 1) % 100 = 4 * k + 1 then 1 else 0) + (if (s 0 * t + s 1) % 100 = 4 * k + 2 then 1 else 0) + (if (s 0 * t + s 1) % 100 = 4 * k + 3 then 1 else 0)) 100 0 (fun t _ _ => e t), sn_pl, sn_pl, sn_pl]
  have := i1 (4 * k)
  have := i1 (4 * k + 1)
  have := i1 (4 * k + 2)
  have := i1 (4 * k + 3)
  omega
theorem DC_4 {s : Nat → Nat} (h1 : s 0 < 100) (h2 : s 0 % 2 ≠ 0) (h3 : s 0 % 5 ≠ 0) (h4 : s 2 + s 3 ≤ 60) (k : Nat) : DC s k ≤ 4 := by
  have h := ct_4 h1 h2 h3 k
  unfold DC ct at *
  have e1 : 100 = (40 + s 2) + ((60 - s 2 - s 3) + s 3) := by omega
  rw [e1, sn_add _ ((60 - s 2 - s 3) + s 3) (40 + s 2) 0, sn_add _ (s 3) (60 - s 2 - s 3)] at h
  rw [show 0 + (40 + s 2) + (60 - s 2 - s 3) = 100 - s 3 by omega] at h
  omega

/-! ===== THE GAME: what always holds, 2: counts of a kind, sizes of hands, by what is done ===== -/
def pc (G : zG) (k p : Nat) : Nat := eH G p k + snP G p k
def TT (G : zG) (k : Nat) : Nat := sn (pc G k) 0 4
def sz (G : zG) (p : Nat) : Nat := sn (eH G p) 0 25 + 3 * eN G p
section CNT
variable {G : zG}
theorem pc_wH (G : zG) (t k v j p : Nat) : pc (wH G t k v) j p = (if p = t ∧ j = k then v else eH G p j) + snP G p j := rfl
theorem TT_add {t k : Nat} (ht : t < 4) (j : Nat) : TT (wH G t k (eH G t k + 1)) j = TT G j + (if j = k then 1 else 0) := by
  unfold TT
  have e := sn_upd (f := pc G j) (f' := pc (wH G t k (eH G t k + 1)) j) (p := t) (fun q hq => by rw [pc_wH, if_neg (fun z => hq z.1)]; rfl) (d := 4) (i := 0) (Nat.zero_le _) (by omega)
  have e1 : pc (wH G t k (eH G t k + 1)) j t = pc G j t + (if j = k then 1 else 0) := by
    rw [pc_wH]
    unfold pc
    by_cases y : j = k
    · subst y
      rw [if_pos ⟨rfl, rfl⟩, if_pos rfl]
      omega
    · rw [if_neg (fun z => y z.2), if_neg y]
      omega
  omega
theorem u2_row {α : Type} (f : Nat → Nat → α) (t k : Nat) (v : α) : u2 f t k v t = u1 (f t) k v := by
  funext j
  unfold u2 u1
  by_cases y : j = k
  · rw [if_pos ⟨rfl, y⟩, if_pos y]
  · rw [if_neg (fun z => y z.2), if_neg y]
theorem u2_off {α : Type} (f : Nat → Nat → α) {t p : Nat} (k : Nat) (v : α) (h : p ≠ t) : u2 f t k v p = f p := by
  funext j
  exact if_neg (fun z => h z.1)
theorem sz_add {t k : Nat} (hk : k < 25) (p : Nat) : sz (wH G t k (eH G t k + 1)) p = sz G p + (if p = t then 1 else 0) := by
  have e : sz (wH G t k (eH G t k + 1)) p = sn (u2 (eH G) t k (eH G t k + 1) p) 0 25 + 3 * eN G p := rfl
  rw [e]
  unfold sz
  by_cases y : p = t
  · subst y
    rw [u2_row, if_pos rfl]
    have := sn_u1 (eH G p) k (eH G p k + 1) 25 0 (Nat.zero_le _) (by omega)
    omega
  · rw [u2_off _ _ _ y, if_neg y]
    omega
/-- discarded -/
theorem TT_riv {k : Nat} (ht : eS G 5 < 4) (h0 : eH G (eS G 5) k ≠ 0) (j : Nat) : TT (gRiv G k) j = TT G j := by
  refine sn_eq 4 0 fun p _ _ => ?_
  show u2 (eH G) (eS G 5) k (eH G (eS G 5) k - 1) p j + (sn (fun i => tlN (eV G p i / 100) (eV G p i % 100) j) 0 (eN G p) + sn (fun i => if u2 (eR G) (eS G 5) (eM G (eS G 5)) k p i = j then 1 else 0) 0 (u1 (eM G) (eS G 5) (eM G (eS G 5) + 1) p)) = eH G p j + snP G p j
  by_cases y : p = eS G 5
  · rw [y, u2_row, u2_row, u1_at, sn_last, Nat.zero_add, u1_at, sn_eq (f := fun i => if u1 (eR G (eS G 5)) (eM G (eS G 5)) k i = j then 1 else 0) (g := fun i => if eR G (eS G 5) i = j then 1 else 0) _ 0 (fun i _ hi => by rw [u1_ne _ _ (show i ≠ eM G (eS G 5) by omega)])]
    unfold snP
    by_cases z : j = k
    · subst z
      rw [u1_at, if_pos rfl]
      omega
    · rw [u1_ne _ _ z, if_neg (fun q => z q.symm)]
      omega
  · rw [u2_off _ _ _ y, u2_off _ _ _ y, u1_ne _ _ y]
    rfl
theorem sz_riv {k : Nat} (hk : k < 25) (h0 : eH G (eS G 5) k ≠ 0) (p : Nat) : sz (gRiv G k) p + (if p = eS G 5 then 1 else 0) = sz G p := by
  have e : sz (gRiv G k) p = sn (u2 (eH G) (eS G 5) k (eH G (eS G 5) k - 1) p) 0 25 + 3 * eN G p := rfl
  rw [e]
  unfold sz
  by_cases y : p = eS G 5
  · rw [y, u2_row, if_pos rfl]
    have := sn_u1 (eH G (eS G 5)) k (eH G (eS G 5) k - 1) 25 0 (Nat.zero_le _) (by omega)
    omega
  · rw [u2_off _ _ _ y, if_neg y]
    omega
/-- a set laid open -/
theorem TT_set {p f l : Nat} (hf : f < 4) (hl : l < 25) (hle : ∀ k, k < 25 → tlN f l k ≤ eH G p k) {j : Nat} (hj : j < 25) : TT (gSet G p f l) j = TT G j := by
  refine sn_eq 4 0 fun q _ _ => ?_
  show (if q = p ∧ j < 25 then eH G q j - tlN f l j else eH G q j) + (sn (fun i => tlN (u2 (eV G) p (eN G p) (100 * f + l) q i / 100) (u2 (eV G) p (eN G p) (100 * f + l) q i % 100) j) 0 (u1 (eN G) p (eN G p + 1) q) + sn (fun i => if eR G q i = j then 1 else 0) 0 (eM G q)) = eH G q j + snP G q j
  by_cases y : q = p
  · subst y
    rw [if_pos ⟨rfl, hj⟩, u2_row, u1_at, sn_last, Nat.zero_add, u1_at, show (100 * f + l) / 100 = f by omega, show (100 * f + l) % 100 = l by omega, sn_eq (f := fun i => tlN (u1 (eV G q) (eN G q) (100 * f + l) i / 100) (u1 (eV G q) (eN G q) (100 * f + l) i % 100) j) (g := fun i => tlN (eV G q i / 100) (eV G q i % 100) j) _ 0 (fun i _ hi => by rw [u1_ne _ _ (show i ≠ eN G q by omega)])]
    have := hle j hj
    unfold snP
    omega
  · rw [if_neg (fun z => y z.1), u2_off _ _ _ y, u1_ne _ _ y]
    rfl
theorem sn_sub {g h : Nat → Nat} : ∀ (d i : Nat), (∀ k, i ≤ k → k < i + d → h k ≤ g k) → sn (fun k => g k - h k) i d + sn h i d = sn g i d := by
  intro d i hh
  rw [← sn_pl]
  exact sn_eq d i (fun k h1 h2 => by have := hh k h1 h2; show g k - h k + h k = g k; omega)
theorem sn_tl : ∀ f, f < 4 → ∀ l, l < 25 → (f = 1 → l < 23) → sn (tlN f l) 0 25 = (if f ≤ 1 then 3 else 4) := by decide
theorem sz_set {p f l : Nat} (hf : f < 4) (hl : l < 25) (h1 : f = 1 → l < 23) (hle : ∀ k, k < 25 → tlN f l k ≤ eH G p k) (q : Nat) : sz (gSet G p f l) q + (if q = p ∧ 2 ≤ f then 1 else 0) = sz G q := by
  have e : sz (gSet G p f l) q = sn (fun k => if q = p ∧ k < 25 then eH G q k - tlN f l k else eH G q k) 0 25 + 3 * u1 (eN G) p (eN G p + 1) q := rfl
  rw [e]
  unfold sz
  by_cases y : q = p
  · subst y
    rw [sn_eq (g := fun k => eH G q k - tlN f l k) 25 0 (fun k _ h2 => if_pos ⟨rfl, by omega⟩), u1_at]
    have a := sn_sub (g := eH G q) (h := tlN f l) 25 0 (fun k _ h2 => hle k (by omega))
    rw [sn_tl f hf l hl h1] at a
    by_cases z : f ≤ 1
    · rw [if_pos z] at a
      rw [if_neg (fun w => by have := w.2; omega)]
      omega
    · rw [if_neg z] at a
      rw [if_pos ⟨rfl, by omega⟩]
      omega
  · rw [sn_eq (g := eH G q) 25 0 (fun k _ _ => if_neg (fun z => y z.1)), u1_ne _ _ y, if_neg (fun z => y z.1)]
    omega
/-- the tile goes over -/
theorem TT_lv {p : Nat} (ht : eS G 5 < 4) (hp : p < 4) (hpt : p ≠ eS G 5) (hM : 0 < eM G (eS G 5)) (j : Nat) : TT (gLv G p) j = TT G j := by
  have e1 := sn_upd (f := pc G j) (f' := u1 (pc G j) p (pc G j p + if j = lst G then 1 else 0)) (p := p) (fun q hq => u1_ne _ _ hq) (d := 4) (i := 0) (Nat.zero_le _) (by omega)
  have hl : ∀ q, pc (gLv G p) j q = u2 (eH G) p (lst G) (eH G p (lst G) + 1) q j + (sn (fun i => tlN (eV G q i / 100) (eV G q i % 100) j) 0 (eN G q) + sn (fun i => if eR G q i = j then 1 else 0) 0 (u1 (eM G) (eS G 5) (eM G (eS G 5) - 1) q)) := fun q => rfl
  have e2 := sn_upd (f := u1 (pc G j) p (pc G j p + if j = lst G then 1 else 0)) (f' := pc (gLv G p) j) (p := eS G 5) (fun q hq => by
    rw [hl q, u1_ne _ _ hq]
    by_cases y : q = p
    · subst y
      rw [u2_row, u1_at]
      unfold pc snP
      by_cases z : j = lst G
      · rw [z, u1_at, if_pos rfl]
        omega
      · rw [u1_ne _ _ z, if_neg z]
        omega
    · rw [u2_off _ _ _ y, u1_ne _ _ y]
      rfl) (d := 4) (i := 0) (Nat.zero_le _) (by omega)
  have e3 : pc (gLv G p) j (eS G 5) + (if j = lst G then 1 else 0) = pc G j (eS G 5) := by
    obtain ⟨m, hm⟩ : ∃ m, eM G (eS G 5) = m + 1 := ⟨eM G (eS G 5) - 1, by omega⟩
    have hlst : lst G = eR G (eS G 5) m := by unfold lst; rw [hm]; rfl
    rw [hl, u2_off _ _ _ (fun z => hpt z.symm), u1_at]
    unfold pc snP
    rw [hm, show m + 1 - 1 = m from rfl, sn_last, Nat.zero_add, ← hlst]
    by_cases z : j = lst G
    · rw [if_pos z, if_pos z.symm]
      omega
    · rw [if_neg z, if_neg (fun q => z q.symm)]
      omega
  rw [u1_at] at e1
  rw [u1_ne _ _ (fun z => hpt z.symm)] at e2
  unfold TT
  omega
theorem sz_lv {p : Nat} (hl : lst G < 25) (q : Nat) : sz (gLv G p) q = sz G q + (if q = p then 1 else 0) := sz_add hl q
theorem eM_up {t v : Nat} (ht : t < 4) : sn (u1 (eM G) t v) 0 4 + eM G t = sn (eM G) 0 4 + v := sn_u1 (eM G) t v 4 0 (Nat.zero_le _) (by omega)
/-! what left the wall -/
theorem DC_draw {s s' : Nat → Nat} (h0 : s' 0 = s 0) (h1 : s' 1 = s 1) (h2 : s' 2 = s 2 + 1) (h3 : s' 3 = s 3) (k : Nat) : DC s' k = DC s k + (if k = gs s (40 + s 2) then 1 else 0) := by
  have e : gs s' = gs s := funext fun t => by unfold gs; rw [h0, h1]
  unfold DC ct
  rw [e, h2, h3, ← Nat.add_assoc, sn_last, Nat.zero_add]
  by_cases y : k = gs s (40 + s 2)
  · rw [if_pos y, if_pos y.symm]
    omega
  · rw [if_neg y, if_neg (fun z => y z.symm)]
    omega
theorem DC_four {s s' : Nat → Nat} (h0 : s' 0 = s 0) (h1 : s' 1 = s 1) (h2 : s' 2 = s 2) (h3 : s' 3 = s 3 + 1) (h4 : s 3 < 100) (k : Nat) : DC s' k = DC s k + (if k = gs s (99 - s 3) then 1 else 0) := by
  have e : gs s' = gs s := funext fun t => by unfold gs; rw [h0, h1]
  unfold DC ct
  rw [e, h2, h3, show 100 - (s 3 + 1) = 99 - s 3 by omega]
  conv => lhs; rw [show sn (fun t => if gs s t = k then 1 else 0) (99 - s 3) (s 3 + 1) = (if gs s (99 - s 3) = k then 1 else 0) + sn (fun t => if gs s t = k then 1 else 0) (99 - s 3 + 1) (s 3) from rfl, show 99 - s 3 + 1 = 100 - s 3 by omega]
  by_cases y : k = gs s (99 - s 3)
  · rw [if_pos y, if_pos y.symm]
    omega
  · rw [if_neg y, if_neg (fun z => y z.symm)]
    omega
theorem DC_same {s s' : Nat → Nat} (h0 : s' 0 = s 0) (h1 : s' 1 = s 1) (h2 : s' 2 = s 2) (h3 : s' 3 = s 3) (k : Nat) : DC s' k = DC s k := by
  have e : gs s' = gs s := funext fun t => by unfold gs; rw [h0, h1]
  unfold DC ct
  rw [e, h2, h3]
end CNT

/-! ===== THE GAME: what always holds, 3 ===== -/
def W1 (G : zG) : Prop := eS G 0 < 100 ∧ eS G 1 < 100 ∧ eS G 2 + eS G 3 ≤ 36 ∧ eS G 3 ≤ 4 ∧ eS G 4 < 4 ∧ eS G 5 < 4 ∧ eS G 8 ≤ 25 ∧ eS G 9 ≤ 1 ∧ (eS G 7 ≠ 0 → eS G 0 % 2 ≠ 0 ∧ eS G 0 % 5 ≠ 0)
def W2 (G : zG) : Prop := ∀ p, p < 4 → (∀ j, j < eN G p → eV G p j < 400) ∧ (∀ j, j < eM G p → eR G p j < 25)
def W3 (G : zG) : Prop := ∀ p, p < 4 → (eS G 4 ≠ 3 → sz G p = if eS G 4 = 1 ∧ p = eS G 5 then 11 else 10) ∧ sz G p ≤ 11 ∧ (eS G 7 = 0 → sz G p = 0)
def W4 (G : zG) : Prop := sn (eM G) 0 4 + (if eS G 4 = 1 then 1 else 0) ≤ eS G 2 + eS G 3
def W5 (G : zG) : Prop := ∀ k, k < 25 → TT G k ≤ DC (eS G) k
def WX (G : zG) : Prop := W1 G ∧ W2 G ∧ W3 G ∧ W4 G ∧ W5 G ∧ WL G ∧ WD G ∧ WC G ∧ W8 G ∧ WR G
section WXS
variable {G : zG}
theorem sn_ge2 {f : Nat → Nat} {p q d i : Nat} (hpq : p ≠ q) (h1 : i ≤ p) (h2 : p < i + d) (h3 : i ≤ q) (h4 : q < i + d) : f p + f q ≤ sn f i d := by
  have a := sn_u1 f q 0 d i h3 h4
  have b := sn_ge (u1 f q 0) p d i h1 h2
  rw [u1_ne _ _ hpq] at b
  omega
theorem WX.tt (h : WX G) (h7 : eS G 7 ≠ 0) {k : Nat} (hk : k < 25) : TT G k ≤ 4 := by
  obtain ⟨⟨a0, a1, a2, a3, a4, a5, a8, a9, ap⟩, b, c, d, e, -⟩ := h
  exact Nat.le_trans (e k hk) (DC_4 a0 (ap h7).1 (ap h7).2 (by omega) k)
theorem WX.f (h : WX G) (hr : eS G 7 < 2 ^ 20) : WF G := by
  have hh := h
  obtain ⟨⟨a0, a1, a2, a3, a4, a5, a8, a9, ap⟩, b, c, d, e, l, D, C, e8, r⟩ := h
  refine ⟨a0, a1, by omega, a3, a4, a5, ?_, hr, a8, a9, fun p hp => ⟨fun k hk => ?_, ?_, ?_, (b p hp).2⟩⟩
  · rcases D with ⟨_, z⟩ | ⟨_, z⟩ <;> omega
  · by_cases y : eS G 7 = 0
    · have z := (c p hp).2.2 y
      unfold sz at z
      have := sn_ge (eH G p) k 25 0 (Nat.zero_le _) (by omega)
      omega
    · have t := hh.tt y hk
      unfold TT at t
      have := sn_ge (pc G k) p 4 0 (Nat.zero_le _) (by omega)
      have e : pc G k p = eH G p k + snP G p k := rfl
      omega
  · have z := (c p hp).2.1
    unfold sz at z
    omega
  · have := sn_ge (eM G) p 4 0 (Nat.zero_le _) (by omega)
    unfold W4 at d
    omega
theorem WX.z (h : WX G) : WZ G := fun p hp => (h.2.2.1 p hp).2.1
theorem WX.v (h : WX G) : WV G := fun p hp => (h.2.1 p hp).1
theorem WX.ls (h : WX G) (h2 : eS G 4 = 2) : lst G < 25 := by
  obtain ⟨⟨a0, a1, a2, a3, a4, a5, a8, a9, ap⟩, b, c, d, e, l, -⟩ := h
  have := l h2
  exact (b _ a5).2 _ (by omega)
theorem WX.t (h : WX G) : WT G := fun h2 p hp => by
  have hl := h.ls h2
  have t := h.tt (h.2.2.2.2.2.2.2.2.2 (by omega)) hl
  obtain ⟨⟨a0, a1, a2, a3, a4, a5, a8, a9, ap⟩, b, c, d, e, l, -⟩ := h
  have hM := l h2
  have hr : 1 ≤ sn (fun i => if eR G (eS G 5) i = lst G then 1 else 0) 0 (eM G (eS G 5)) := by
    have := sn_ge (fun i => if eR G (eS G 5) i = lst G then 1 else 0) (eM G (eS G 5) - 1) (eM G (eS G 5)) 0 (Nat.zero_le _) (by omega)
    rw [if_pos (show eR G (eS G 5) (eM G (eS G 5) - 1) = lst G from rfl)] at this
    exact this
  unfold TT at t
  have hs : 1 ≤ snP G (eS G 5) (lst G) := Nat.le_trans hr (Nat.le_add_left _ _)
  have ep : pc G (lst G) p = eH G p (lst G) + snP G p (lst G) := rfl
  have et : pc G (lst G) (eS G 5) = eH G (eS G 5) (lst G) + snP G (eS G 5) (lst G) := rfl
  by_cases y : p = eS G 5
  · have := sn_ge (pc G (lst G)) p 4 0 (Nat.zero_le _) (by omega)
    rw [← y] at hs
    omega
  · have := sn_ge2 (f := pc G (lst G)) y (d := 4) (i := 0) (Nat.zero_le _) (by omega) (Nat.zero_le _) (by omega)
    omega
theorem WX.z1 (h : WX G) : WZ1 G := fun h1 => by
  have a5 := h.1.2.2.2.2.2.1
  have := (h.2.2.1 _ a5).1 (by omega)
  rw [if_pos ⟨h1, rfl⟩] at this
  exact this
theorem WX.q (h : WX G) (hr : eS G 7 < 2 ^ 20) : WQ G := ⟨h.f hr, h.v, h.2.2.2.2.2.2.1, fun h7 p hp => (h.2.2.1 p hp).2.2 h7, h.z⟩
theorem sn_crl {g : Nat → Nat} {t a : Nat} (h1 : a ≤ t) (h2 : t ≤ a + 2) (ha : a + 2 < 25) (h : crl g t 3 a = true) : 2 ≤ sn g 0 25 := by
  have c := crl_all g t 3 a h
  have b1 := c a (by omega) (by omega)
  have b2 := c (a + 1) (by omega) (by omega)
  have b3 := c (a + 2) (by omega) (by omega)
  have s1 := sn_ge2 (f := g) (p := a) (q := a + 1) (d := 25) (i := 0) (by omega) (by omega) (by omega) (by omega) (by omega)
  have s2 := sn_ge2 (f := g) (p := a) (q := a + 2) (d := 25) (i := 0) (by omega) (by omega) (by omega) (by omega) (by omega)
  have s3 := sn_ge2 (f := g) (p := a + 1) (q := a + 2) (d := 25) (i := 0) (by omega) (by omega) (by omega) (by omega) (by omega)
  omega
/-- who may claim has tiles enough -/
theorem WX.may (h : WX G) {p w : Nat} {i : Int32} (hp : p < 4) (hm : oMay G p w i = true) : (eS G 4 = 2 ∧ p ≠ eS G 5 ∧ eC G p = false) ∧ eN G p < 3 := by
  unfold oMay at hm
  rw [Bool.and_eq_true] at hm
  obtain ⟨m1, m2⟩ := hm
  have m1' := of_decide_eq_true m1
  refine ⟨m1', ?_⟩
  have hl := h.ls m1'.1
  have hz := (h.2.2.1 p hp).1 (by omega)
  rw [if_neg (fun z => by have := z.1; omega)] at hz
  unfold sz at hz
  have h2 : 2 ≤ sn (eH G p) 0 25 := by
    by_cases y : w = 1
    · rw [if_pos y, Bool.and_eq_true] at m2
      have m3 := m2.2
      unfold crow at m3
      by_cases z : i < 0
      · rw [if_pos z] at m3
        cases m3
      · rw [if_neg z] at m3
        by_cases u : rw_ i.toNatClampNeg = true ∧ i.toNatClampNeg ≤ lst G ∧ lst G ≤ i.toNatClampNeg + 2
        · rw [if_pos u] at m3
          have u1 := of_decide_eq_true u.1
          exact sn_crl u.2.1 u.2.2 (by omega) m3
        · rw [if_neg u] at m3
          cases m3
    · rw [if_neg y] at m2
      have := sn_ge (eH G p) (lst G) 25 0 (Nat.zero_le _) (by omega)
      by_cases z : w = 2
      · rw [if_pos z, Bool.and_eq_true] at m2
        have := of_decide_eq_true m2.1
        omega
      · rw [if_neg z] at m2
        have := of_decide_eq_true m2
        omega
  omega
theorem WX.pass (h : WX G) (h2 : eS G 4 = 2) : WX (wS (wS G 5 ((eS G 5 + 1) % 4)) 4 0) := by
  obtain ⟨⟨a0, a1, a2, a3, a4, a5, a8, a9, ap⟩, b, c, d, e, l, D, C, e8, r⟩ := h
  refine ⟨⟨a0, a1, a2, a3, (show (0 : Nat) < 4 by decide), Nat.mod_lt _ (by decide), a8, a9, ap⟩, b, fun p hp => ?_, ?_, e, ?_, D, ?_, e8, fun _ => r (by omega)⟩
  · obtain ⟨c1, c2, c3⟩ := c p hp
    refine ⟨fun _ => ?_, c2, c3⟩
    rw [if_neg (fun z => absurd (show (0 : Nat) = 1 from z.1) (by decide))]
    have := c1 (by omega)
    rw [if_neg (fun z => by have := z.1; omega)] at this
    exact this
  · unfold W4 at *
    show sn (eM G) 0 4 + (if (0 : Nat) = 1 then 1 else 0) ≤ eS G 2 + eS G 3
    rw [if_neg (by decide)]
    omega
  · exact fun z => absurd (show (0 : Nat) = 2 from z) (by decide)
  · exact fun z => absurd (show (0 : Nat) = 1 from z) (by decide)
theorem WX.over (h : WX G) (h3 : eS G 4 ≠ 3) : WX (wS G 4 3) := by
  obtain ⟨⟨a0, a1, a2, a3, a4, a5, a8, a9, ap⟩, b, c, d, e, l, D, C, e8, r⟩ := h
  refine ⟨⟨a0, a1, a2, a3, (show (3 : Nat) < 4 by decide), a5, a8, a9, ap⟩, b, fun p hp => ⟨fun z => absurd (show (3 : Nat) = 3 from rfl) z, (c p hp).2⟩, ?_, e, fun z => absurd (show (3 : Nat) = 2 from z) (by decide), D, fun z => absurd (show (3 : Nat) = 1 from z) (by decide), e8, fun z => absurd (show (3 : Nat) = 3 from rfl) z⟩
  unfold W4 at *
  show sn (eM G) 0 4 + (if (3 : Nat) = 1 then 1 else 0) ≤ eS G 2 + eS G 3
  rw [if_neg (by decide)]
  omega
theorem WX.draw (h : WX G) (h0 : eS G 4 = 0) : WX (gDraw G) := by
  unfold gDraw
  by_cases y : gCan G = true
  · rw [if_pos y]
    have y' := of_decide_eq_true y
    have hk : gK G (40 + eS G 2) < 25 := gK_lt G _
    obtain ⟨⟨a0, a1, a2, a3, a4, a5, a8, a9, ap⟩, b, c, d, e, l, D, C, e8, r⟩ := h
    refine ⟨⟨a0, a1, ?_, a3, ?_, a5, ?_, ?_, ap⟩, b, fun p hp => ?_, ?_, fun k hk2 => ?_, fun z => ?_, D, fun z _ => rfl, fun _ z => ?_, fun _ => y'.1⟩
    · show eS G 2 + 1 + eS G 3 ≤ 36
      omega
    · show (1 : Nat) < 4
      decide
    · show gK G (40 + eS G 2) + 1 ≤ 25
      omega
    · show (1 : Nat) ≤ 1
      decide
    · obtain ⟨c1, c2, c3⟩ := c p hp
      have e1 : sz (gRec (wS (wS G 2 (eS G 2 + 1)) 4 1) (gK G (40 + eS G 2))) p = sz G p + (if p = eS G 5 then 1 else 0) := sz_add (G := G) hk p
      have c1' := c1 (by omega)
      rw [if_neg (fun z => by have := z.1; omega)] at c1'
      rw [e1, c1']
      refine ⟨fun _ => ?_, ?_, fun z => absurd z y'.1⟩
      · by_cases u : p = eS G 5
        · rw [if_pos u, if_pos ⟨rfl, u⟩]
        · rw [if_neg u, if_neg (fun z => u z.2)]
      · split <;> omega
    · unfold W4 at *
      show sn (eM G) 0 4 + (if (1 : Nat) = 1 then 1 else 0) ≤ eS G 2 + 1 + eS G 3
      rw [if_pos rfl]
      omega
    · have e1 : TT (gRec (wS (wS G 2 (eS G 2 + 1)) 4 1) (gK G (40 + eS G 2))) k = TT G k + (if k = gK G (40 + eS G 2) then 1 else 0) := TT_add (G := G) a5 k
      have e2 : DC (eS (gRec (wS (wS G 2 (eS G 2 + 1)) 4 1) (gK G (40 + eS G 2)))) k = DC (eS G) k + (if k = gs (eS G) (40 + eS G 2) then 1 else 0) := DC_draw (s := eS G) (s' := eS (gRec (wS (wS G 2 (eS G 2 + 1)) 4 1) (gK G (40 + eS G 2)))) rfl rfl rfl rfl k
      rw [e1, e2]
      exact Nat.add_le_add_right (e k hk2) _
    · exact absurd (show (1 : Nat) = 2 from z) (by decide)
    · exact absurd (show gK G (40 + eS G 2) + 1 = 0 from z) (by omega)
  · rw [if_neg y]
    exact h.over (by omega)
theorem WX.riv (h : WX G) (h1 : eS G 4 = 1) {k : Nat} (hk : k < 25) (h0 : eH G (eS G 5) k ≠ 0) : WX (gRiv G k) := by
  obtain ⟨⟨a0, a1, a2, a3, a4, a5, a8, a9, ap⟩, b, c, d, e, l, D, C, e8, r⟩ := h
  refine ⟨⟨a0, a1, a2, a3, ?_, a5, a8, a9, ap⟩, fun p hp => ⟨(b p hp).1, ?_⟩, fun p hp => ?_, ?_, fun j hj => ?_, fun _ => ?_, D, fun z => ?_, e8, fun _ => r (by omega)⟩
  · show (2 : Nat) < 4
    decide
  · show ∀ j, j < u1 (eM G) (eS G 5) (eM G (eS G 5) + 1) p → u2 (eR G) (eS G 5) (eM G (eS G 5)) k p j < 25
    intro j hj
    by_cases y : p = eS G 5
    · rw [y, u1_at] at hj
      rw [y, u2_row]
      by_cases z : j = eM G (eS G 5)
      · rw [z, u1_at]
        exact hk
      · rw [u1_ne _ _ z]
        exact (b _ a5).2 j (by omega)
    · rw [u1_ne _ _ y] at hj
      rw [u2_off _ _ _ y]
      exact (b p hp).2 j hj
  · obtain ⟨c1, c2, c3⟩ := c p hp
    have e1 := sz_riv hk h0 p
    have c1' := c1 (by omega)
    refine ⟨fun _ => ?_, by omega, fun z => by have := c3 z; omega⟩
    rw [if_neg (fun z => absurd (show (2 : Nat) = 1 from z.1) (by decide))]
    by_cases u : p = eS G 5
    · rw [if_pos u] at e1
      rw [if_pos ⟨h1, u⟩] at c1'
      omega
    · rw [if_neg u] at e1
      rw [if_neg (fun z => u z.2)] at c1'
      omega
  · unfold W4 at *
    show sn (u1 (eM G) (eS G 5) (eM G (eS G 5) + 1)) 0 4 + (if (2 : Nat) = 1 then 1 else 0) ≤ eS G 2 + eS G 3
    have := eM_up (G := G) (v := eM G (eS G 5) + 1) a5
    rw [if_neg (by decide)]
    rw [if_pos h1] at d
    omega
  · rw [TT_riv a5 h0]
    exact e j hj
  · show 0 < u1 (eM G) (eS G 5) (eM G (eS G 5) + 1) (eS G 5)
    rw [u1_at]
    omega
  · exact absurd (show (2 : Nat) = 1 from z) (by decide)
theorem WX.cal (h : WX G) (h1 : eS G 4 = 1) (p : Nat) (h9 : eS G 9 = 1) : WX (gCal G p) := by
  obtain ⟨a, b, c, d, e, l, D, C, e8, r⟩ := h
  exact ⟨a, b, c, d, e, l, D, fun _ _ => h9, e8, r⟩
end WXS

/-! ===== THE GAME: what always holds, 4 ===== -/
def WY (G : zG) : Prop := W1 G ∧ W2 G ∧ (∀ p, p < 4 → sz G p = 10) ∧ W4 G ∧ W5 G ∧ WD G ∧ eS G 4 = 1 ∧ eS G 7 ≠ 0
section WXT
variable {G : zG}
theorem WY.df (h : WY G) (h4 : gF4 G = true) : WX (gDF G) := by
  obtain ⟨⟨a0, a1, a2, a3, a4, a5, a8, a9, ap⟩, b, c, d, e, D, s4, s7⟩ := h
  have y := of_decide_eq_true h4
  have hk : gK G (99 - eS G 3) < 25 := gK_lt G _
  refine ⟨⟨a0, a1, ?_, ?_, a4, a5, ?_, ?_, ap⟩, b, fun p hp => ?_, ?_, fun k hk2 => ?_, fun z => ?_, D, fun _ _ => rfl, fun _ z => ?_, fun _ => s7⟩
  · show eS G 2 + (eS G 3 + 1) ≤ 36
    omega
  · show eS G 3 + 1 ≤ 4
    omega
  · show gK G (99 - eS G 3) + 1 ≤ 25
    omega
  · show (1 : Nat) ≤ 1
    decide
  · have e1 : sz (gDF G) p = sz G p + (if p = eS G 5 then 1 else 0) := sz_add (G := G) hk p
    rw [e1, c p hp]
    refine ⟨fun _ => ?_, ?_, fun z => absurd z s7⟩
    · by_cases u : p = eS G 5
      · rw [if_pos u, if_pos ⟨s4, u⟩]
      · rw [if_neg u, if_neg (fun z => u z.2)]
    · split <;> omega
  · unfold W4 at *
    show sn (eM G) 0 4 + (if eS G 4 = 1 then 1 else 0) ≤ eS G 2 + (eS G 3 + 1)
    omega
  · have e1 : TT (gDF G) k = TT G k + (if k = gK G (99 - eS G 3) then 1 else 0) := TT_add (G := G) a5 k
    have e2 : DC (eS (gDF G)) k = DC (eS G) k + (if k = gs (eS G) (99 - eS G 3) then 1 else 0) := DC_four (s := eS G) (s' := eS (gDF G)) rfl rfl rfl rfl (by omega) k
    rw [e1, e2]
    exact Nat.add_le_add_right (e k hk2) _
  · exact absurd (show eS G 4 = 2 from z) (by omega)
  · exact absurd (show gK G (99 - eS G 3) + 1 = 0 from z) (by omega)
theorem W2.set {p f l : Nat} (b : W2 G) (hf : f < 4) (hl : l < 25) : W2 (gSet G p f l) := fun q hq => by
  refine ⟨?_, (b q hq).2⟩
  show ∀ j, j < u1 (eN G) p (eN G p + 1) q → u2 (eV G) p (eN G p) (100 * f + l) q j < 400
  intro j hj
  by_cases y : q = p
  · rw [y, u1_at] at hj
    rw [y, u2_row]
    by_cases z : j = eN G p
    · rw [z, u1_at]
      omega
    · rw [u1_ne _ _ z]
      exact (b p (y ▸ hq)).1 j (by omega)
  · rw [u1_ne _ _ y] at hj
    rw [u2_off _ _ _ y]
    exact (b q hq).1 j hj
theorem WX.four (h : WX G) {c : Nat} (hc : c < 25) (hf : fOk G c) : WX (gDF (gSet G (eS G 5) 3 c)) := by
  obtain ⟨f1, f2, f3, f4⟩ := hf
  obtain ⟨⟨a0, a1, a2, a3, a4, a5, a8, a9, ap⟩, b, cc, d, e, l, D, C, e8, r⟩ := h
  have hle : ∀ k, k < 25 → tlN 3 c k ≤ eH G (eS G 5) k := fun k _ => by
    unfold tlN
    rw [if_neg (by decide)]
    by_cases y : k = c
    · rw [if_pos y, if_neg (by decide), y]
      exact f3
    · rw [if_neg y]
      exact Nat.zero_le _
  refine WY.df (G := gSet G (eS G 5) 3 c) ⟨⟨a0, a1, a2, a3, a4, a5, a8, a9, ap⟩, W2.set b (by decide) hc, fun p hp => ?_, d, fun k hk => ?_, D, f1, r (by omega)⟩ f4
  · have e1 := sz_set (G := G) (p := eS G 5) (f := 3) (l := c) (by decide) hc (fun z => absurd z (by decide)) hle p
    have c1 := (cc p hp).1 (by omega)
    by_cases y : p = eS G 5
    · rw [if_pos ⟨f1, y⟩] at c1
      rw [if_pos ⟨y, by decide⟩] at e1
      omega
    · rw [if_neg (fun z => y z.2)] at c1
      rw [if_neg (fun z => y z.1)] at e1
      omega
  · rw [TT_set (by decide) hc hle hk]
    exact e k hk
/-- what holds when the tile has gone over -/
theorem WX.lv (h : WX G) {p : Nat} (hp : p < 4) (h2 : eS G 4 = 2) (hpt : p ≠ eS G 5) : W1 (gLv G p) ∧ W2 (gLv G p) ∧ (∀ q, q < 4 → sz (gLv G p) q = if q = p then 11 else 10) ∧ sn (eM (gLv G p)) 0 4 + 1 ≤ eS G 2 + eS G 3 ∧ (∀ k, k < 25 → TT (gLv G p) k ≤ DC (eS G) k) ∧ WD (gLv G p) ∧ eS G 7 ≠ 0 := by
  have hl := h.ls h2
  obtain ⟨⟨a0, a1, a2, a3, a4, a5, a8, a9, ap⟩, b, c, d, e, l, D, C, e8, r⟩ := h
  have hM := l h2
  refine ⟨⟨a0, a1, a2, a3, (show (1 : Nat) < 4 by decide), hp, a8, (show (0 : Nat) ≤ 1 by decide), ap⟩, fun q hq => ⟨(b q hq).1, ?_⟩, fun q hq => ?_, ?_, fun k hk => ?_, D, r (by omega)⟩
  · show ∀ j, j < u1 (eM G) (eS G 5) (eM G (eS G 5) - 1) q → eR G q j < 25
    intro j hj
    by_cases y : q = eS G 5
    · rw [y, u1_at] at hj
      rw [y]
      exact (b _ a5).2 j (by omega)
    · rw [u1_ne _ _ y] at hj
      exact (b q hq).2 j hj
  · rw [sz_lv hl]
    have c1 := (c q hq).1 (by omega)
    rw [if_neg (fun z => by have := z.1; omega)] at c1
    by_cases y : q = p
    · rw [if_pos y, if_pos y]
      omega
    · rw [if_neg y, if_neg y]
      omega
  · show sn (u1 (eM G) (eS G 5) (eM G (eS G 5) - 1)) 0 4 + 1 ≤ eS G 2 + eS G 3
    have := eM_up (G := G) (v := eM G (eS G 5) - 1) a5
    unfold W4 at d
    omega
  · rw [TT_lv a5 hp hpt hM]
    exact e k hk
theorem WX.clm (h : WX G) {p w : Nat} {i : Int32} (hp : p < 4) (hw2 : w ≤ 2) (hm : oMay G p w i = true) : WX (gClm G p w i) := by
  obtain ⟨⟨m1, m2, m3⟩, -⟩ := h.may hp hm
  obtain ⟨l, hl, hcl, -, -, hle⟩ := may_le hm hw2 (h.ls m1)
  obtain ⟨⟨a0, a1, a2, a3, a4, a5, a8, a9, ap⟩, b, c, d, e, D, r⟩ := h.lv hp m1 m2
  have h23 : w = 1 → l < 23 := fun y => by
    unfold oMay at hm
    rw [Bool.and_eq_true, if_pos y, Bool.and_eq_true] at hm
    have m4 := hm.2.2
    unfold crow at m4
    unfold cLow at hcl
    rw [if_pos y] at hcl
    by_cases z : i < 0
    · rw [if_pos z] at m4
      cases m4
    · rw [if_neg z] at m4
      by_cases u : rw_ i.toNatClampNeg = true ∧ i.toNatClampNeg ≤ lst G ∧ lst G ≤ i.toNatClampNeg + 2
      · have u1 := of_decide_eq_true u.1
        omega
      · rw [if_neg u] at m4
        cases m4
  have hs := fun q => sz_set (G := gLv G p) (p := p) (f := w) (l := l) (by omega) hl h23 hle q
  have hT : ∀ k, k < 25 → TT (gSet (gLv G p) p w l) k ≤ DC (eS G) k := fun k hk => by
    rw [TT_set (by omega) hl hle hk]
    exact e k hk
  have hW4 : W4 (gSet (gLv G p) p w l) := by
    unfold W4
    show sn (eM (gLv G p)) 0 4 + (if (1 : Nat) = 1 then 1 else 0) ≤ eS G 2 + eS G 3
    rw [if_pos rfl]
    exact d
  unfold gClm
  rw [← hcl]
  by_cases y : w = 2
  · rw [if_pos y]
    have h4 : gF4 G = true := by
      unfold oMay at hm
      rw [Bool.and_eq_true, if_neg (by omega), if_pos y, Bool.and_eq_true] at hm
      exact hm.2.2
    refine WY.df (G := gSet (gLv G p) p w l) ⟨⟨a0, a1, a2, a3, a4, a5, a8, a9, ap⟩, W2.set b (by omega) hl, fun q hq => ?_, hW4, fun k hk => ?_, D, rfl, r⟩ h4
    · have s1 := hs q
      have c1 := c q hq
      by_cases z : q = p
      · rw [if_pos ⟨z, by omega⟩] at s1
        rw [if_pos z] at c1
        omega
      · rw [if_neg (fun u => z u.1)] at s1
        rw [if_neg z] at c1
        omega
    · exact Nat.le_trans (hT k hk) (Nat.le_of_eq (DC_same (s := eS (gSet (gLv G p) p w l)) (s' := eS G) rfl rfl rfl rfl k))
  · rw [if_neg y]
    refine ⟨⟨a0, a1, a2, a3, a4, a5, a8, a9, ap⟩, W2.set b (by omega) hl, fun q hq => ?_, hW4, fun k hk => ?_, fun z => ?_, D, fun _ z => ?_, fun z => ?_, fun _ => r⟩
    · have s1 := hs q
      have c1 := c q hq
      rw [if_neg (fun u => by have := u.2; omega), Nat.add_zero] at s1
      rw [s1, c1]
      refine ⟨fun _ => ?_, by split <;> omega, fun z => absurd z r⟩
      by_cases z : q = p
      · rw [if_pos z, if_pos ⟨rfl, z⟩]
      · rw [if_neg z, if_neg (fun u => z u.2)]
    · exact Nat.le_trans (hT k hk) (Nat.le_of_eq (DC_same (s := eS (gSet (gLv G p) p w l)) (s' := eS G) rfl rfl rfl rfl k))
    · exact absurd (show (1 : Nat) = 2 from z) (by decide)
    · have : eC G p = true := z
      rw [m3] at this
      cases this
    · exact absurd (show (0 : Nat) = 0 from rfl) z
theorem WX.win (h : WX G) {p : Nat} (hp : p < 4) (hw : wOk G p = true) : WX (gWin G p) := by
  unfold gWin
  unfold wOk at hw
  by_cases y : eS G 4 = 1
  · rw [if_pos y]
    exact h.over (by omega)
  · rw [if_neg y] at hw ⊢
    unfold oByDis at hw
    rw [Bool.and_eq_true] at hw
    have m := of_decide_eq_true hw.1
    have hE := h.2.2.2.2.2.2.2.2.1
    obtain ⟨a0, a1, a2, a3, a4, a5, a8, a9, ap⟩ := h.1
    obtain ⟨-, b, c, d, e, D, r⟩ := h.lv hp m.1 m.2
    refine ⟨⟨a0, a1, a2, a3, (show (3 : Nat) < 4 by decide), a5, a8, a9, ap⟩, b, fun q hq => ⟨fun z => absurd (show (3 : Nat) = 3 from rfl) z, ?_, fun z => absurd z r⟩, ?_, e, fun z => absurd (show (3 : Nat) = 2 from z) (by decide), D, fun z => absurd (show (3 : Nat) = 1 from z) (by decide), hE, fun z => absurd (show (3 : Nat) = 3 from rfl) z⟩
    · have c1 := c q hq
      have e1 : sz (wS (gTk G p) 4 3) q = sz (gLv G p) q := rfl
      rw [e1, c1]
      split <;> omega
    · show sn (eM (gLv G p)) 0 4 + (if (3 : Nat) = 1 then 1 else 0) ≤ eS G 2 + eS G 3
      rw [if_neg (by decide)]
      omega
/-! a lay -/
theorem gDeal_pc (p j : Nat) : ∀ (d i : Nat) (G : zG) (q : Nat), pc (gDeal p d i G) j q = pc G j q + (if q = p then ct (eS G) j (10 * p + i) d else 0) := by
  intro d
  induction d with
  | zero =>
    intro i G q
    rw [gDeal]
    unfold ct
    rw [sn]
    split <;> omega
  | succ d ih =>
    intro i G q
    rw [gDeal, ih (i + 1), pc_wH]
    have e : ct (eS (wH G p (gK G (10 * p + i)) (eH G p (gK G (10 * p + i)) + 1))) j (10 * p + (i + 1)) d = ct (eS G) j (10 * p + i + 1) d := rfl
    rw [e]
    have e2 : ct (eS G) j (10 * p + i) (d + 1) = (if gK G (10 * p + i) = j then 1 else 0) + ct (eS G) j (10 * p + i + 1) d := rfl
    rw [e2]
    unfold pc
    by_cases y : q = p
    · subst y
      rw [if_pos rfl, if_pos rfl]
      by_cases z : j = gK G (10 * q + i)
      · rw [if_pos ⟨rfl, z⟩, if_pos z.symm, ← z]
        omega
      · rw [if_neg (fun u => z u.2), if_neg (fun u => z u.symm)]
        omega
    · rw [if_neg (fun u => y u.1), if_neg y, if_neg y]
theorem gDeal_sz (p : Nat) : ∀ (d i : Nat) (G : zG) (q : Nat), sz (gDeal p d i G) q = sz G q + (if q = p then d else 0) := by
  intro d
  induction d with
  | zero =>
    intro i G q
    rw [gDeal]
    split <;> omega
  | succ d ih =>
    intro i G q
    rw [gDeal, ih (i + 1), sz_add (gK_lt G _)]
    split <;> omega
theorem gDeal_N (p : Nat) : ∀ (d i : Nat) (G : zG), eN (gDeal p d i G) = eN G ∧ eM (gDeal p d i G) = eM G := by
  intro d
  induction d with
  | zero => exact fun _ _ => ⟨rfl, rfl⟩
  | succ d ih => exact fun i G => ih (i + 1) _
theorem gClr_pc {j : Nat} (hj : j < 25) (G : zG) (p q : Nat) : pc (gClr G p) j q = if q = p then 0 else pc G j q := by
  have e : pc (gClr G p) j q = (if q = p ∧ j < 25 then 0 else eH G q j) + (sn (fun i => tlN (eV G q i / 100) (eV G q i % 100) j) 0 (u1 (eN G) p 0 q) + sn (fun i => if eR G q i = j then 1 else 0) 0 (u1 (eM G) p 0 q)) := rfl
  rw [e]
  by_cases y : q = p
  · rw [if_pos ⟨y, hj⟩, if_pos y, y, u1_at, u1_at]
    rfl
  · rw [if_neg (fun z => y z.1), if_neg y, u1_ne _ _ y, u1_ne _ _ y]
    rfl
theorem gClr_sz (G : zG) (p q : Nat) : sz (gClr G p) q = if q = p then 0 else sz G q := by
  have e : sz (gClr G p) q = sn (fun k => if q = p ∧ k < 25 then 0 else eH G q k) 0 25 + 3 * u1 (eN G) p 0 q := rfl
  rw [e]
  by_cases y : q = p
  · rw [if_pos y, y, u1_at, sn_0 _ 25 0 (fun k _ h2 => if_pos ⟨rfl, by omega⟩)]
  · rw [if_neg y, u1_ne _ _ y, sn_eq (g := eH G q) 25 0 (fun k _ _ => if_neg (fun z => y z.1))]
    rfl
theorem gAll_pc {j : Nat} (hj : j < 25) : ∀ (d p : Nat) (G : zG) (q : Nat), pc (gAll d p G) j q = if p ≤ q ∧ q < p + d then ct (eS G) j (10 * q) 10 else pc G j q := by
  intro d
  induction d with
  | zero =>
    intro p G q
    rw [gAll, if_neg (by omega)]
  | succ d ih =>
    intro p G q
    rw [gAll, ih (p + 1), gDeal_S, gDeal_pc, gClr_pc hj]
    have e : eS (gClr G p) = eS G := rfl
    rw [e]
    by_cases y : q = p
    · subst y
      rw [if_neg (by omega), if_pos rfl, if_pos rfl, if_pos (by omega), Nat.zero_add]
      rfl
    · rw [if_neg y, if_neg y]
      by_cases z : p ≤ q ∧ q < p + (d + 1)
      · rw [if_pos z, if_pos (by omega)]
      · rw [if_neg z, if_neg (by omega), Nat.add_zero]
theorem gAll_sz : ∀ (d p : Nat) (G : zG) (q : Nat), sz (gAll d p G) q = if p ≤ q ∧ q < p + d then 10 else sz G q := by
  intro d
  induction d with
  | zero =>
    intro p G q
    rw [gAll, if_neg (by omega)]
  | succ d ih =>
    intro p G q
    rw [gAll, ih (p + 1), gDeal_sz, gClr_sz]
    by_cases y : q = p
    · subst y
      rw [if_neg (by omega), if_pos rfl, if_pos rfl, if_pos (by omega)]
    · rw [if_neg y, if_neg y]
      by_cases z : p ≤ q ∧ q < p + (d + 1)
      · rw [if_pos z, if_pos (by omega)]
      · rw [if_neg z, if_neg (by omega), Nat.add_zero]
theorem gAll_N : ∀ (d p : Nat) (G : zG) (q : Nat), (eN (gAll d p G) q = if p ≤ q ∧ q < p + d then 0 else eN G q) ∧ (eM (gAll d p G) q = if p ≤ q ∧ q < p + d then 0 else eM G q) := by
  intro d
  induction d with
  | zero =>
    intro p G q
    rw [gAll, if_neg (by omega), if_neg (by omega)]
    exact ⟨rfl, rfl⟩
  | succ d ih =>
    intro p G q
    rw [gAll, (ih (p + 1) _ q).1, (ih (p + 1) _ q).2, (gDeal_N p 10 0 _).1, (gDeal_N p 10 0 _).2]
    have e1 : eN (gClr G p) q = u1 (eN G) p 0 q := rfl
    have e2 : eM (gClr G p) q = u1 (eM G) p 0 q := rfl
    rw [e1, e2]
    by_cases y : q = p
    · rw [y, u1_at, u1_at, if_neg (by omega), if_pos (by omega), if_pos (by omega)]
      exact ⟨rfl, rfl⟩
    · rw [u1_ne _ _ y, u1_ne _ _ y]
      by_cases z : p ≤ q ∧ q < p + (d + 1)
      · rw [if_pos z, if_pos z, if_pos (by omega), if_pos (by omega)]
        exact ⟨rfl, rfl⟩
      · rw [if_neg z, if_neg z, if_neg (by omega), if_neg (by omega)]
        exact ⟨rfl, rfl⟩
theorem WX.lay (h : WX G) {st sh : Nat} (hst : st < 100) (h2 : st % 2 ≠ 0) (h5 : st % 5 ≠ 0) (hsh : sh < 100) : WX (gLay G st sh) := by
  obtain ⟨-, -, -, -, -, -, D, -⟩ := h
  have hS : eS (gLay G st sh) = eS (gBeg G st sh) := gAll_S 4 0 _
  have hN : ∀ p, p < 4 → eN (gLay G st sh) p = 0 ∧ eM (gLay G st sh) p = 0 := fun p hp => by
    obtain ⟨x, y⟩ := gAll_N 4 0 (gBeg G st sh) p
    rw [if_pos (by omega)] at x y
    exact ⟨x, y⟩
  have s0 : eS (gLay G st sh) 0 = st := by rw [hS]; rfl
  have s1 : eS (gLay G st sh) 1 = sh := by rw [hS]; rfl
  have s2 : eS (gLay G st sh) 2 = 0 := by rw [hS]; rfl
  have s3 : eS (gLay G st sh) 3 = 0 := by rw [hS]; rfl
  have s4 : eS (gLay G st sh) 4 = 0 := by rw [hS]; rfl
  have s5 : eS (gLay G st sh) 5 = eS G 6 % 4 := by rw [hS]; rfl
  have s6 : eS (gLay G st sh) 6 = eS G 6 % 4 + 1 := by rw [hS]; rfl
  have s7 : eS (gLay G st sh) 7 = eS G 7 + 1 := by rw [hS]; rfl
  have s8 : eS (gLay G st sh) 8 = 0 := by rw [hS]; rfl
  have s9 : eS (gLay G st sh) 9 = 0 := by rw [hS]; rfl
  refine ⟨⟨by omega, by omega, by omega, by omega, by omega, by omega, by omega, by omega, fun _ => ⟨by omega, by omega⟩⟩, fun p hp => ⟨fun j hj => ?_, fun j hj => ?_⟩, fun p hp => ?_, ?_, fun k hk => ?_, fun z => ?_, ?_, fun z => ?_, fun z => ?_, fun _ => by omega⟩
  · have := (hN p hp).1
    omega
  · have := (hN p hp).2
    omega
  · have e : sz (gLay G st sh) p = 10 := (gAll_sz 4 0 (gBeg G st sh) p).trans (if_pos (by omega))
    rw [e]
    exact ⟨fun _ => by rw [if_neg (fun z => by have := z.1; omega)], by omega, fun z => by omega⟩
  · unfold W4
    have e : sn (eM (gLay G st sh)) 0 4 = 0 := sn_0 _ 4 0 (fun k _ h => (hN k (by omega)).2)
    rw [e, if_neg (by omega)]
    omega
  · have e : TT (gLay G st sh) k = sn (fun q => ct (eS (gBeg G st sh)) k (10 * q) 10) 0 4 := sn_eq 4 0 fun q _ hq => (gAll_pc hk 4 0 (gBeg G st sh) q).trans (if_pos (by omega))
    have e2 : sn (fun q => ct (eS (gBeg G st sh)) k (10 * q) 10) 0 4 = ct (eS (gBeg G st sh)) k 0 40 := by
      unfold ct
      rw [show (40 : Nat) = 10 + (10 + (10 + 10)) from rfl, sn_add _ (10 + (10 + 10)) 10 0, sn_add _ (10 + 10) 10, sn_add _ 10 10]
      rfl
    rw [e, e2, hS]
    exact Nat.le_add_right _ _
  · omega
  · rcases D with ⟨z1, z2⟩ | ⟨z1, z2⟩
    · exact Or.inr ⟨by omega, by omega⟩
    · exact Or.inr ⟨by omega, by omega⟩
  · omega
  · omega
end WXT

/-! ===== BOTH: the calls that play ===== -/
section PLAY
variable {n : Nat} {xs : Nat → Int32} {M M' : zM} {G G' Gc Gr : zG} {hp dl hp' dl' : Nat → Nat}
theorem hh3 {a b d : String} : ∀ (E : String) (M' : zM), E ∈ [b, d, a] → ∃ r : Int32, (if E = a then some ((1 : Int32), M') else if E = b then some ((2 : Int32), M') else if E = d then some ((3 : Int32), M') else none) = some (r, M') := fun E M' h => by
  by_cases y : E = a
  · exact ⟨1, if_pos y⟩
  · rw [if_neg y]
    rcases List.mem_cons.mp h with z | z
    · exact ⟨2, if_pos z⟩
    · by_cases u : E = b
      · exact ⟨2, if_pos u⟩
      · rw [if_neg u]
        rcases List.mem_cons.mp z with z | z
        · exact ⟨3, if_pos z⟩
        · exact absurd (List.mem_singleton.mp z) y
theorem hh2' {a b : String} : ∀ (E : String) (M' : zM), E ∈ [a, b] → ∃ r : Int32, (if E = a then some ((1 : Int32), M') else if E = b then some ((2 : Int32), M') else none) = some (r, M') := fun E M' h => by
  by_cases y : E = a
  · exact ⟨1, if_pos y⟩
  · rw [if_neg y]
    rcases List.mem_cons.mp h with z | z
    · exact absurd z y
    · exact ⟨2, if_pos (List.mem_singleton.mp z)⟩
theorem WX.cr (h : WX G) (h1 : eS G 4 = 1) {k : Nat} (hk : k < 25) (h0 : eH G (eS G 5) k ≠ 0) (p : Nat) : WX (gRiv (gCal G p) k) := by
  obtain ⟨a, b, c, d, e, l, D, C, e8, r⟩ := h.riv h1 hk h0
  exact ⟨a, b, c, d, e, l, D, fun z => absurd (show (2 : Nat) = 1 from z) (by decide), e8, r⟩
theorem cl_no {i : Int32} {m : Nat} (h : ¬ (i < 0 ∨ m ≤ i.toNatClampNeg)) : ∃ p, p < m ∧ i = nI p := by
  rcases nI_all i with z | ⟨n, z1, z2⟩
  · exact absurd (Or.inl z) h
  · refine ⟨n, Nat.lt_of_not_le fun q => h (Or.inr ?_), z2⟩
    rw [z2, nI_cl z1]
    exact q
end PLAY

