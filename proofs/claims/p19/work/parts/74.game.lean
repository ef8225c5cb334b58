/-! ===== THE GAME: what always holds, 2: counts of a kind, sizes of hands, by what is done ===== -/
def pc (G : zG) (k p : Nat) : Nat := eH G p k + snP G p k
def TT (G : zG) (k : Nat) : Nat := sn (pc G k) 0 4
def sz (G : zG) (p : Nat) : Nat := sn (eH G p) 0 25 + 3 * eN G p
section CNT
variable {G : zG}
theorem pc_wH (G : zG) (t k v j p : Nat) : pc (wH G t k v) j p = (if p = t ∧ j = k then v else eH G p j) + snP G p j := rfl
theorem TT_add {t k : Nat} (ht : t < 4) (j : Nat) : TT (wH G t k (eH G t k + 1)) j = TT G j + (if j = k then 1 else 0) := by
  unfold TT
  have e := sn_upd (f := pc G j) (f' := pc (wH G t k (eH G t k + 1)) j) (p := t) (fun q hq => by rw [pc_wH, if_neg (fun z => hq z.1)]; rfl) (d := 4) (i := 0) (Nat.zero_le _) (by omega)
  have e1 : pc (wH G t k (eH G t k + 1)) j t = pc G j t + (if j = k then 1 else 0) := by
    rw [pc_wH]
    unfold pc
    by_cases y : j = k
    · subst y
      rw [if_pos ⟨rfl, rfl⟩, if_pos rfl]
      omega
    · rw [if_neg (fun z => y z.2), if_neg y]
      omega
  omega
theorem u2_row {α : Type} (f : Nat → Nat → α) (t k : Nat) (v : α) : u2 f t k v t = u1 (f t) k v := by
  funext j
  unfold u2 u1
  by_cases y : j = k
  · rw [if_pos ⟨rfl, y⟩, if_pos y]
  · rw [if_neg (fun z => y z.2), if_neg y]
theorem u2_off {α : Type} (f : Nat → Nat → α) {t p : Nat} (k : Nat) (v : α) (h : p ≠ t) : u2 f t k v p = f p := by
  funext j
  exact if_neg (fun z => h z.1)
theorem sz_add {t k : Nat} (hk : k < 25) (p : Nat) : sz (wH G t k (eH G t k + 1)) p = sz G p + (if p = t then 1 else 0) := by
  have e : sz (wH G t k (eH G t k + 1)) p = sn (u2 (eH G) t k (eH G t k + 1) p) 0 25 + 3 * eN G p := rfl
  rw [e]
  unfold sz
  by_cases y : p = t
  · subst y
    rw [u2_row, if_pos rfl]
    have := sn_u1 (eH G p) k (eH G p k + 1) 25 0 (Nat.zero_le _) (by omega)
    omega
  · rw [u2_off _ _ _ y, if_neg y]
    omega
/-- discarded -/
theorem TT_riv {k : Nat} (ht : eS G 5 < 4) (h0 : eH G (eS G 5) k ≠ 0) (j : Nat) : TT (gRiv G k) j = TT G j := by
  refine sn_eq 4 0 fun p _ _ => ?_
  show u2 (eH G) (eS G 5) k (eH G (eS G 5) k - 1) p j + (sn (fun i => tlN (eV G p i / 100) (eV G p i % 100) j) 0 (eN G p) + sn (fun i => if u2 (eR G) (eS G 5) (eM G (eS G 5)) k p i = j then 1 else 0) 0 (u1 (eM G) (eS G 5) (eM G (eS G 5) + 1) p)) = eH G p j + snP G p j
  by_cases y : p = eS G 5
  · rw [y, u2_row, u2_row, u1_at, sn_last, Nat.zero_add, u1_at, sn_eq (f := fun i => if u1 (eR G (eS G 5)) (eM G (eS G 5)) k i = j then 1 else 0) (g := fun i => if eR G (eS G 5) i = j then 1 else 0) _ 0 (fun i _ hi => by rw [u1_ne _ _ (show i ≠ eM G (eS G 5) by omega)])]
    unfold snP
    by_cases z : j = k
    · subst z
      rw [u1_at, if_pos rfl]
      omega
    · rw [u1_ne _ _ z, if_neg (fun q => z q.symm)]
      omega
  · rw [u2_off _ _ _ y, u2_off _ _ _ y, u1_ne _ _ y]
    rfl
theorem sz_riv {k : Nat} (hk : k < 25) (h0 : eH G (eS G 5) k ≠ 0) (p : Nat) : sz (gRiv G k) p + (if p = eS G 5 then 1 else 0) = sz G p := by
  have e : sz (gRiv G k) p = sn (u2 (eH G) (eS G 5) k (eH G (eS G 5) k - 1) p) 0 25 + 3 * eN G p := rfl
  rw [e]
  unfold sz
  by_cases y : p = eS G 5
  · rw [y, u2_row, if_pos rfl]
    have := sn_u1 (eH G (eS G 5)) k (eH G (eS G 5) k - 1) 25 0 (Nat.zero_le _) (by omega)
    omega
  · rw [u2_off _ _ _ y, if_neg y]
    omega
/-- a set laid open -/
theorem TT_set {p f l : Nat} (hf : f < 4) (hl : l < 25) (hle : ∀ k, k < 25 → tlN f l k ≤ eH G p k) {j : Nat} (hj : j < 25) : TT (gSet G p f l) j = TT G j := by
  refine sn_eq 4 0 fun q _ _ => ?_
  show (if q = p ∧ j < 25 then eH G q j - tlN f l j else eH G q j) + (sn (fun i => tlN (u2 (eV G) p (eN G p) (100 * f + l) q i / 100) (u2 (eV G) p (eN G p) (100 * f + l) q i % 100) j) 0 (u1 (eN G) p (eN G p + 1) q) + sn (fun i => if eR G q i = j then 1 else 0) 0 (eM G q)) = eH G q j + snP G q j
  by_cases y : q = p
  · subst y
    rw [if_pos ⟨rfl, hj⟩, u2_row, u1_at, sn_last, Nat.zero_add, u1_at, show (100 * f + l) / 100 = f by omega, show (100 * f + l) % 100 = l by omega, sn_eq (f := fun i => tlN (u1 (eV G q) (eN G q) (100 * f + l) i / 100) (u1 (eV G q) (eN G q) (100 * f + l) i % 100) j) (g := fun i => tlN (eV G q i / 100) (eV G q i % 100) j) _ 0 (fun i _ hi => by rw [u1_ne _ _ (show i ≠ eN G q by omega)])]
    have := hle j hj
    unfold snP
    omega
  · rw [if_neg (fun z => y z.1), u2_off _ _ _ y, u1_ne _ _ y]
    rfl
theorem sn_sub {g h : Nat → Nat} : ∀ (d i : Nat), (∀ k, i ≤ k → k < i + d → h k ≤ g k) → sn (fun k => g k - h k) i d + sn h i d = sn g i d := by
  intro d i hh
  rw [← sn_pl]
  exact sn_eq d i (fun k h1 h2 => by have := hh k h1 h2; show g k - h k + h k = g k; omega)
theorem sn_tl : ∀ f, f < 4 → ∀ l, l < 25 → (f = 1 → l < 23) → sn (tlN f l) 0 25 = (if f ≤ 1 then 3 else 4) := by decide
theorem sz_set {p f l : Nat} (hf : f < 4) (hl : l < 25) (h1 : f = 1 → l < 23) (hle : ∀ k, k < 25 → tlN f l k ≤ eH G p k) (q : Nat) : sz (gSet G p f l) q + (if q = p ∧ 2 ≤ f then 1 else 0) = sz G q := by
  have e : sz (gSet G p f l) q = sn (fun k => if q = p ∧ k < 25 then eH G q k - tlN f l k else eH G q k) 0 25 + 3 * u1 (eN G) p (eN G p + 1) q := rfl
  rw [e]
  unfold sz
  by_cases y : q = p
  · subst y
    rw [sn_eq (g := fun k => eH G q k - tlN f l k) 25 0 (fun k _ h2 => if_pos ⟨rfl, by omega⟩), u1_at]
    have a := sn_sub (g := eH G q) (h := tlN f l) 25 0 (fun k _ h2 => hle k (by omega))
    rw [sn_tl f hf l hl h1] at a
    by_cases z : f ≤ 1
    · rw [if_pos z] at a
      rw [if_neg (fun w => by have := w.2; omega)]
      omega
    · rw [if_neg z] at a
      rw [if_pos ⟨rfl, by omega⟩]
      omega
  · rw [sn_eq (g := eH G q) 25 0 (fun k _ _ => if_neg (fun z => y z.1)), u1_ne _ _ y, if_neg (fun z => y z.1)]
    omega
/-- the tile goes over -/
theorem TT_lv {p : Nat} (ht : eS G 5 < 4) (hp : p < 4) (hpt : p ≠ eS G 5) (hM : 0 < eM G (eS G 5)) (j : Nat) : TT (gLv G p) j = TT G j := by
  have e1 := sn_upd (f := pc G j) (f' := u1 (pc G j) p (pc G j p + if j = lst G then 1 else 0)) (p := p) (fun q hq => u1_ne _ _ hq) (d := 4) (i := 0) (Nat.zero_le _) (by omega)
  have hl : ∀ q, pc (gLv G p) j q = u2 (eH G) p (lst G) (eH G p (lst G) + 1) q j + (sn (fun i => tlN (eV G q i / 100) (eV G q i % 100) j) 0 (eN G q) + sn (fun i => if eR G q i = j then 1 else 0) 0 (u1 (eM G) (eS G 5) (eM G (eS G 5) - 1) q)) := fun q => rfl
  have e2 := sn_upd (f := u1 (pc G j) p (pc G j p + if j = lst G then 1 else 0)) (f' := pc (gLv G p) j) (p := eS G 5) (fun q hq => by
    rw [hl q, u1_ne _ _ hq]
    by_cases y : q = p
    · subst y
      rw [u2_row, u1_at]
      unfold pc snP
      by_cases z : j = lst G
      · rw [z, u1_at, if_pos rfl]
        omega
      · rw [u1_ne _ _ z, if_neg z]
        omega
    · rw [u2_off _ _ _ y, u1_ne _ _ y]
      rfl) (d := 4) (i := 0) (Nat.zero_le _) (by omega)
  have e3 : pc (gLv G p) j (eS G 5) + (if j = lst G then 1 else 0) = pc G j (eS G 5) := by
    obtain ⟨m, hm⟩ : ∃ m, eM G (eS G 5) = m + 1 := ⟨eM G (eS G 5) - 1, by omega⟩
    have hlst : lst G = eR G (eS G 5) m := by unfold lst; rw [hm]; rfl
    rw [hl, u2_off _ _ _ (fun z => hpt z.symm), u1_at]
    unfold pc snP
    rw [hm, show m + 1 - 1 = m from rfl, sn_last, Nat.zero_add, ← hlst]
    by_cases z : j = lst G
    · rw [if_pos z, if_pos z.symm]
      omega
    · rw [if_neg z, if_neg (fun q => z q.symm)]
      omega
  rw [u1_at] at e1
  rw [u1_ne _ _ (fun z => hpt z.symm)] at e2
  unfold TT
  omega
theorem sz_lv {p : Nat} (hl : lst G < 25) (q : Nat) : sz (gLv G p) q = sz G q + (if q = p then 1 else 0) := sz_add hl q
theorem eM_up {t v : Nat} (ht : t < 4) : sn (u1 (eM G) t v) 0 4 + eM G t = sn (eM G) 0 4 + v := sn_u1 (eM G) t v 4 0 (Nat.zero_le _) (by omega)
/-! what left the wall -/
theorem DC_draw {s s' : Nat → Nat} (h0 : s' 0 = s 0) (h1 : s' 1 = s 1) (h2 : s' 2 = s 2 + 1) (h3 : s' 3 = s 3) (k : Nat) : DC s' k = DC s k + (if k = gs s (40 + s 2) then 1 else 0) := by
  have e : gs s' = gs s := funext fun t => by unfold gs; rw [h0, h1]
  unfold DC ct
  rw [e, h2, h3, ← Nat.add_assoc, sn_last, Nat.zero_add]
  by_cases y : k = gs s (40 + s 2)
  · rw [if_pos y, if_pos y.symm]
    omega
  · rw [if_neg y, if_neg (fun z => y z.symm)]
    omega
theorem DC_four {s s' : Nat → Nat} (h0 : s' 0 = s 0) (h1 : s' 1 = s 1) (h2 : s' 2 = s 2) (h3 : s' 3 = s 3 + 1) (h4 : s 3 < 100) (k : Nat) : DC s' k = DC s k + (if k = gs s (99 - s 3) then 1 else 0) := by
  have e : gs s' = gs s := funext fun t => by unfold gs; rw [h0, h1]
  unfold DC ct
  rw [e, h2, h3, show 100 - (s 3 + 1) = 99 - s 3 by omega]
  conv => lhs; rw [show sn (fun t => if gs s t = k then 1 else 0) (99 - s 3) (s 3 + 1) = (if gs s (99 - s 3) = k then 1 else 0) + sn (fun t => if gs s t = k then 1 else 0) (99 - s 3 + 1) (s 3) from rfl, show 99 - s 3 + 1 = 100 - s 3 by omega]
  by_cases y : k = gs s (99 - s 3)
  · rw [if_pos y, if_pos y.symm]
    omega
  · rw [if_neg y, if_neg (fun z => y z.symm)]
    omega
theorem DC_same {s s' : Nat → Nat} (h0 : s' 0 = s 0) (h1 : s' 1 = s 1) (h2 : s' 2 = s 2) (h3 : s' 3 = s 3) (k : Nat) : DC s' k = DC s k := by
  have e : gs s' = gs s := funext fun t => by unfold gs; rw [h0, h1]
  unfold DC ct
  rw [e, h2, h3]
end CNT
