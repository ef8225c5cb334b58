/-! ===== THE GAME: what always holds, 3 ===== -/
def W1 (G : zG) : Prop := eS G 0 < 100 ∧ eS G 1 < 100 ∧ eS G 2 + eS G 3 ≤ 36 ∧ eS G 3 ≤ 4 ∧ eS G 4 < 4 ∧ eS G 5 < 4 ∧ eS G 8 ≤ 25 ∧ eS G 9 ≤ 1 ∧ (eS G 7 ≠ 0 → eS G 0 % 2 ≠ 0 ∧ eS G 0 % 5 ≠ 0)
def W2 (G : zG) : Prop := ∀ p, p < 4 → (∀ j, j < eN G p → eV G p j < 400) ∧ (∀ j, j < eM G p → eR G p j < 25)
def W3 (G : zG) : Prop := ∀ p, p < 4 → (eS G 4 ≠ 3 → sz G p = if eS G 4 = 1 ∧ p = eS G 5 then 11 else 10) ∧ sz G p ≤ 11 ∧ (eS G 7 = 0 → sz G p = 0)
def W4 (G : zG) : Prop := sn (eM G) 0 4 + (if eS G 4 = 1 then 1 else 0) ≤ eS G 2 + eS G 3
def W5 (G : zG) : Prop := ∀ k, k < 25 → TT G k ≤ DC (eS G) k
def WX (G : zG) : Prop := W1 G ∧ W2 G ∧ W3 G ∧ W4 G ∧ W5 G ∧ WL G ∧ WD G ∧ WC G ∧ W8 G ∧ WR G
section WXS
variable {G : zG}
theorem sn_ge2 {f : Nat → Nat} {p q d i : Nat} (hpq : p ≠ q) (h1 : i ≤ p) (h2 : p < i + d) (h3 : i ≤ q) (h4 : q < i + d) : f p + f q ≤ sn f i d := by
  have a := sn_u1 f q 0 d i h3 h4
  have b := sn_ge (u1 f q 0) p d i h1 h2
  rw [u1_ne _ _ hpq] at b
  omega
theorem WX.tt (h : WX G) (h7 : eS G 7 ≠ 0) {k : Nat} (hk : k < 25) : TT G k ≤ 4 := by
  obtain ⟨⟨a0, a1, a2, a3, a4, a5, a8, a9, ap⟩, b, c, d, e, -⟩ := h
  exact Nat.le_trans (e k hk) (DC_4 a0 (ap h7).1 (ap h7).2 (by omega) k)
theorem WX.f (h : WX G) (hr : eS G 7 < 2 ^ 20) : WF G := by
  have hh := h
  obtain ⟨⟨a0, a1, a2, a3, a4, a5, a8, a9, ap⟩, b, c, d, e, l, D, C, e8, r⟩ := h
  refine ⟨a0, a1, by omega, a3, a4, a5, ?_, hr, a8, a9, fun p hp => ⟨fun k hk => ?_, ?_, ?_, (b p hp).2⟩⟩
  · rcases D with ⟨_, z⟩ | ⟨_, z⟩ <;> omega
  · by_cases y : eS G 7 = 0
    · have z := (c p hp).2.2 y
      unfold sz at z
      have := sn_ge (eH G p) k 25 0 (Nat.zero_le _) (by omega)
      omega
    · have t := hh.tt y hk
      unfold TT at t
      have := sn_ge (pc G k) p 4 0 (Nat.zero_le _) (by omega)
      have e : pc G k p = eH G p k + snP G p k := rfl
      omega
  · have z := (c p hp).2.1
    unfold sz at z
    omega
  · have := sn_ge (eM G) p 4 0 (Nat.zero_le _) (by omega)
    unfold W4 at d
    omega
theorem WX.z (h : WX G) : WZ G := fun p hp => (h.2.2.1 p hp).2.1
theorem WX.v (h : WX G) : WV G := fun p hp => (h.2.1 p hp).1
theorem WX.ls (h : WX G) (h2 : eS G 4 = 2) : lst G < 25 := by
  obtain ⟨⟨a0, a1, a2, a3, a4, a5, a8, a9, ap⟩, b, c, d, e, l, -⟩ := h
  have := l h2
  exact (b _ a5).2 _ (by omega)
theorem WX.t (h : WX G) : WT G := fun h2 p hp => by
  have hl := h.ls h2
  have t := h.tt (h.2.2.2.2.2.2.2.2.2 (by omega)) hl
  obtain ⟨⟨a0, a1, a2, a3, a4, a5, a8, a9, ap⟩, b, c, d, e, l, -⟩ := h
  have hM := l h2
  have hr : 1 ≤ sn (fun i => if eR G (eS G 5) i = lst G then 1 else 0) 0 (eM G (eS G 5)) := by
    have := sn_ge (fun i => if eR G (eS G 5) i = lst G then 1 else 0) (eM G (eS G 5) - 1) (eM G (eS G 5)) 0 (Nat.zero_le _) (by omega)
    rw [if_pos (show eR G (eS G 5) (eM G (eS G 5) - 1) = lst G from rfl)] at this
    exact this
  unfold TT at t
  have hs : 1 ≤ snP G (eS G 5) (lst G) := Nat.le_trans hr (Nat.le_add_left _ _)
  have ep : pc G (lst G) p = eH G p (lst G) + snP G p (lst G) := rfl
  have et : pc G (lst G) (eS G 5) = eH G (eS G 5) (lst G) + snP G (eS G 5) (lst G) := rfl
  by_cases y : p = eS G 5
  · have := sn_ge (pc G (lst G)) p 4 0 (Nat.zero_le _) (by omega)
    rw [← y] at hs
    omega
  · have := sn_ge2 (f := pc G (lst G)) y (d := 4) (i := 0) (Nat.zero_le _) (by omega) (Nat.zero_le _) (by omega)
    omega
theorem WX.z1 (h : WX G) : WZ1 G := fun h1 => by
  have a5 := h.1.2.2.2.2.2.1
  have := (h.2.2.1 _ a5).1 (by omega)
  rw [if_pos ⟨h1, rfl⟩] at this
  exact this
theorem WX.q (h : WX G) (hr : eS G 7 < 2 ^ 20) : WQ G := ⟨h.f hr, h.v, h.2.2.2.2.2.2.1, fun h7 p hp => (h.2.2.1 p hp).2.2 h7, h.z⟩
theorem sn_crl {g : Nat → Nat} {t a : Nat} (h1 : a ≤ t) (h2 : t ≤ a + 2) (ha : a + 2 < 25) (h : crl g t 3 a = true) : 2 ≤ sn g 0 25 := by
  have c := crl_all g t 3 a h
  have b1 := c a (by omega) (by omega)
  have b2 := c (a + 1) (by omega) (by omega)
  have b3 := c (a + 2) (by omega) (by omega)
  have s1 := sn_ge2 (f := g) (p := a) (q := a + 1) (d := 25) (i := 0) (by omega) (by omega) (by omega) (by omega) (by omega)
  have s2 := sn_ge2 (f := g) (p := a) (q := a + 2) (d := 25) (i := 0) (by omega) (by omega) (by omega) (by omega) (by omega)
  have s3 := sn_ge2 (f := g) (p := a + 1) (q := a + 2) (d := 25) (i := 0) (by omega) (by omega) (by omega) (by omega) (by omega)
  omega
/-- who may claim has tiles enough -/
theorem WX.may (h : WX G) {p w : Nat} {i : Int32} (hp : p < 4) (hm : oMay G p w i = true) : (eS G 4 = 2 ∧ p ≠ eS G 5 ∧ eC G p = false) ∧ eN G p < 3 := by
  unfold oMay at hm
  rw [Bool.and_eq_true] at hm
  obtain ⟨m1, m2⟩ := hm
  have m1' := of_decide_eq_true m1
  refine ⟨m1', ?_⟩
  have hl := h.ls m1'.1
  have hz := (h.2.2.1 p hp).1 (by omega)
  rw [if_neg (fun z => by have := z.1; omega)] at hz
  unfold sz at hz
  have h2 : 2 ≤ sn (eH G p) 0 25 := by
    by_cases y : w = 1
    · rw [if_pos y, Bool.and_eq_true] at m2
      have m3 := m2.2
      unfold crow at m3
      by_cases z : i < 0
      · rw [if_pos z] at m3
        cases m3
      · rw [if_neg z] at m3
        by_cases u : rw_ i.toNatClampNeg = true ∧ i.toNatClampNeg ≤ lst G ∧ lst G ≤ i.toNatClampNeg + 2
        · rw [if_pos u] at m3
          have u1 := of_decide_eq_true u.1
          exact sn_crl u.2.1 u.2.2 (by omega) m3
        · rw [if_neg u] at m3
          cases m3
    · rw [if_neg y] at m2
      have := sn_ge (eH G p) (lst G) 25 0 (Nat.zero_le _) (by omega)
      by_cases z : w = 2
      · rw [if_pos z, Bool.and_eq_true] at m2
        have := of_decide_eq_true m2.1
        omega
      · rw [if_neg z] at m2
        have := of_decide_eq_true m2
        omega
  omega
theorem WX.pass (h : WX G) (h2 : eS G 4 = 2) : WX (wS (wS G 5 ((eS G 5 + 1) % 4)) 4 0) := by
  obtain ⟨⟨a0, a1, a2, a3, a4, a5, a8, a9, ap⟩, b, c, d, e, l, D, C, e8, r⟩ := h
  refine ⟨⟨a0, a1, a2, a3, (show (0 : Nat) < 4 by decide), Nat.mod_lt _ (by decide), a8, a9, ap⟩, b, fun p hp => ?_, ?_, e, ?_, D, ?_, e8, fun _ => r (by omega)⟩
  · obtain ⟨c1, c2, c3⟩ := c p hp
    refine ⟨fun _ => ?_, c2, c3⟩
    rw [if_neg (fun z => absurd (show (0 : Nat) = 1 from z.1) (by decide))]
    have := c1 (by omega)
    rw [if_neg (fun z => by have := z.1; omega)] at this
    exact this
  · unfold W4 at *
    show sn (eM G) 0 4 + (if (0 : Nat) = 1 then 1 else 0) ≤ eS G 2 + eS G 3
    rw [if_neg (by decide)]
    omega
  · exact fun z => absurd (show (0 : Nat) = 2 from z) (by decide)
  · exact fun z => absurd (show (0 : Nat) = 1 from z) (by decide)
theorem WX.over (h : WX G) (h3 : eS G 4 ≠ 3) : WX (wS G 4 3) := by
  obtain ⟨⟨a0, a1, a2, a3, a4, a5, a8, a9, ap⟩, b, c, d, e, l, D, C, e8, r⟩ := h
  refine ⟨⟨a0, a1, a2, a3, (show (3 : Nat) < 4 by decide), a5, a8, a9, ap⟩, b, fun p hp => ⟨fun z => absurd (show (3 : Nat) = 3 from rfl) z, (c p hp).2⟩, ?_, e, fun z => absurd (show (3 : Nat) = 2 from z) (by decide), D, fun z => absurd (show (3 : Nat) = 1 from z) (by decide), e8, fun z => absurd (show (3 : Nat) = 3 from rfl) z⟩
  unfold W4 at *
  show sn (eM G) 0 4 + (if (3 : Nat) = 1 then 1 else 0) ≤ eS G 2 + eS G 3
  rw [if_neg (by decide)]
  omega
theorem WX.draw (h : WX G) (h0 : eS G 4 = 0) : WX (gDraw G) := by
  unfold gDraw
  by_cases y : gCan G = true
  · rw [if_pos y]
    have y' := of_decide_eq_true y
    have hk : gK G (40 + eS G 2) < 25 := gK_lt G _
    obtain ⟨⟨a0, a1, a2, a3, a4, a5, a8, a9, ap⟩, b, c, d, e, l, D, C, e8, r⟩ := h
    refine ⟨⟨a0, a1, ?_, a3, ?_, a5, ?_, ?_, ap⟩, b, fun p hp => ?_, ?_, fun k hk2 => ?_, fun z => ?_, D, fun z _ => rfl, fun _ z => ?_, fun _ => y'.1⟩
    · show eS G 2 + 1 + eS G 3 ≤ 36
      omega
    · show (1 : Nat) < 4
      decide
    · show gK G (40 + eS G 2) + 1 ≤ 25
      omega
    · show (1 : Nat) ≤ 1
      decide
    · obtain ⟨c1, c2, c3⟩ := c p hp
      have e1 : sz (gRec (wS (wS G 2 (eS G 2 + 1)) 4 1) (gK G (40 + eS G 2))) p = sz G p + (if p = eS G 5 then 1 else 0) := sz_add (G := G) hk p
      have c1' := c1 (by omega)
      rw [if_neg (fun z => by have := z.1; omega)] at c1'
      rw [e1, c1']
      refine ⟨fun _ => ?_, ?_, fun z => absurd z y'.1⟩
      · by_cases u : p = eS G 5
        · rw [if_pos u, if_pos ⟨rfl, u⟩]
        · rw [if_neg u, if_neg (fun z => u z.2)]
      · split <;> omega
    · unfold W4 at *
      show sn (eM G) 0 4 + (if (1 : Nat) = 1 then 1 else 0) ≤ eS G 2 + 1 + eS G 3
      rw [if_pos rfl]
      omega
    · have e1 : TT (gRec (wS (wS G 2 (eS G 2 + 1)) 4 1) (gK G (40 + eS G 2))) k = TT G k + (if k = gK G (40 + eS G 2) then 1 else 0) := TT_add (G := G) a5 k
      have e2 : DC (eS (gRec (wS (wS G 2 (eS G 2 + 1)) 4 1) (gK G (40 + eS G 2)))) k = DC (eS G) k + (if k = gs (eS G) (40 + eS G 2) then 1 else 0) := DC_draw (s := eS G) (s' := eS (gRec (wS (wS G 2 (eS G 2 + 1)) 4 1) (gK G (40 + eS G 2)))) rfl rfl rfl rfl k
      rw [e1, e2]
      exact Nat.add_le_add_right (e k hk2) _
    · exact absurd (show (1 : Nat) = 2 from z) (by decide)
    · exact absurd (show gK G (40 + eS G 2) + 1 = 0 from z) (by omega)
  · rw [if_neg y]
    exact h.over (by omega)
theorem WX.riv (h : WX G) (h1 : eS G 4 = 1) {k : Nat} (hk : k < 25) (h0 : eH G (eS G 5) k ≠ 0) : WX (gRiv G k) := by
  obtain ⟨⟨a0, a1, a2, a3, a4, a5, a8, a9, ap⟩, b, c, d, e, l, D, C, e8, r⟩ := h
  refine ⟨⟨a0, a1, a2, a3, ?_, a5, a8, a9, ap⟩, fun p hp => ⟨(b p hp).1, ?_⟩, fun p hp => ?_, ?_, fun j hj => ?_, fun _ => ?_, D, fun z => ?_, e8, fun _ => r (by omega)⟩
  · show (2 : Nat) < 4
    decide
  · show ∀ j, j < u1 (eM G) (eS G 5) (eM G (eS G 5) + 1) p → u2 (eR G) (eS G 5) (eM G (eS G 5)) k p j < 25
    intro j hj
    by_cases y : p = eS G 5
    · rw [y, u1_at] at hj
      rw [y, u2_row]
      by_cases z : j = eM G (eS G 5)
      · rw [z, u1_at]
        exact hk
      · rw [u1_ne _ _ z]
        exact (b _ a5).2 j (by omega)
    · rw [u1_ne _ _ y] at hj
      rw [u2_off _ _ _ y]
      exact (b p hp).2 j hj
  · obtain ⟨c1, c2, c3⟩ := c p hp
    have e1 := sz_riv hk h0 p
    have c1' := c1 (by omega)
    refine ⟨fun _ => ?_, by omega, fun z => by have := c3 z; omega⟩
    rw [if_neg (fun z => absurd (show (2 : Nat) = 1 from z.1) (by decide))]
    by_cases u : p = eS G 5
    · rw [if_pos u] at e1
      rw [if_pos ⟨h1, u⟩] at c1'
      omega
    · rw [if_neg u] at e1
      rw [if_neg (fun z => u z.2)] at c1'
      omega
  · unfold W4 at *
    show sn (u1 (eM G) (eS G 5) (eM G (eS G 5) + 1)) 0 4 + (if (2 : Nat) = 1 then 1 else 0) ≤ eS G 2 + eS G 3
    have := eM_up (G := G) (v := eM G (eS G 5) + 1) a5
    rw [if_neg (by decide)]
    rw [if_pos h1] at d
    omega
  · rw [TT_riv a5 h0]
    exact e j hj
  · show 0 < u1 (eM G) (eS G 5) (eM G (eS G 5) + 1) (eS G 5)
    rw [u1_at]
    omega
  · exact absurd (show (2 : Nat) = 1 from z) (by decide)
theorem WX.cal (h : WX G) (h1 : eS G 4 = 1) (p : Nat) (h9 : eS G 9 = 1) : WX (gCal G p) := by
  obtain ⟨a, b, c, d, e, l, D, C, e8, r⟩ := h
  exact ⟨a, b, c, d, e, l, D, fun _ _ => h9, e8, r⟩
end WXS
