/-! ===== THE GAME: what always holds, 4 ===== -/
def WY (G : zG) : Prop := W1 G ∧ W2 G ∧ (∀ p, p < 4 → sz G p = 10) ∧ W4 G ∧ W5 G ∧ WD G ∧ eS G 4 = 1 ∧ eS G 7 ≠ 0
section WXT
variable {G : zG}
theorem WY.df (h : WY G) (h4 : gF4 G = true) : WX (gDF G) := by
  obtain ⟨⟨a0, a1, a2, a3, a4, a5, a8, a9, ap⟩, b, c, d, e, D, s4, s7⟩ := h
  have y := of_decide_eq_true h4
  have hk : gK G (99 - eS G 3) < 25 := gK_lt G _
  refine ⟨⟨a0, a1, ?_, ?_, a4, a5, ?_, ?_, ap⟩, b, fun p hp => ?_, ?_, fun k hk2 => ?_, fun z => ?_, D, fun _ _ => rfl, fun _ z => ?_, fun _ => s7⟩
  · show eS G 2 + (eS G 3 + 1) ≤ 36
    omega
  · show eS G 3 + 1 ≤ 4
    omega
  · show gK G (99 - eS G 3) + 1 ≤ 25
    omega
  · show (1 : Nat) ≤ 1
    decide
  · have e1 : sz (gDF G) p = sz G p + (if p = eS G 5 then 1 else 0) := sz_add (G := G) hk p
    rw [e1, c p hp]
    refine ⟨fun _ => ?_, ?_, fun z => absurd z s7⟩
    · by_cases u : p = eS G 5
      · rw [if_pos u, if_pos ⟨s4, u⟩]
      · rw [if_neg u, if_neg (fun z => u z.2)]
    · split <;> omega
  · unfold W4 at *
    show sn (eM G) 0 4 + (if eS G 4 = 1 then 1 else 0) ≤ eS G 2 + (eS G 3 + 1)
    omega
  · have e1 : TT (gDF G) k = TT G k + (if k = gK G (99 - eS G 3) then 1 else 0) := TT_add (G := G) a5 k
    have e2 : DC (eS (gDF G)) k = DC (eS G) k + (if k = gs (eS G) (99 - eS G 3) then 1 else 0) := DC_four (s := eS G) (s' := eS (gDF G)) rfl rfl rfl rfl (by omega) k
    rw [e1, e2]
    exact Nat.add_le_add_right (e k hk2) _
  · exact absurd (show eS G 4 = 2 from z) (by omega)
  · exact absurd (show gK G (99 - eS G 3) + 1 = 0 from z) (by omega)
theorem W2.set {p f l : Nat} (b : W2 G) (hf : f < 4) (hl : l < 25) : W2 (gSet G p f l) := fun q hq => by
  refine ⟨?_, (b q hq).2⟩
  show ∀ j, j < u1 (eN G) p (eN G p + 1) q → u2 (eV G) p (eN G p) (100 * f + l) q j < 400
  intro j hj
  by_cases y : q = p
  · rw [y, u1_at] at hj
    rw [y, u2_row]
    by_cases z : j = eN G p
    · rw [z, u1_at]
      omega
    · rw [u1_ne _ _ z]
      exact (b p (y ▸ hq)).1 j (by omega)
  · rw [u1_ne _ _ y] at hj
    rw [u2_off _ _ _ y]
    exact (b q hq).1 j hj
theorem WX.four (h : WX G) {c : Nat} (hc : c < 25) (hf : fOk G c) : WX (gDF (gSet G (eS G 5) 3 c)) := by
  obtain ⟨f1, f2, f3, f4⟩ := hf
  obtain ⟨⟨a0, a1, a2, a3, a4, a5, a8, a9, ap⟩, b, cc, d, e, l, D, C, e8, r⟩ := h
  have hle : ∀ k, k < 25 → tlN 3 c k ≤ eH G (eS G 5) k := fun k _ => by
    unfold tlN
    rw [if_neg (by decide)]
    by_cases y : k = c
    · rw [if_pos y, if_neg (by decide), y]
      exact f3
    · rw [if_neg y]
      exact Nat.zero_le _
  refine WY.df (G := gSet G (eS G 5) 3 c) ⟨⟨a0, a1, a2, a3, a4, a5, a8, a9, ap⟩, W2.set b (by decide) hc, fun p hp => ?_, d, fun k hk => ?_, D, f1, r (by omega)⟩ f4
  · have e1 := sz_set (G := G) (p := eS G 5) (f := 3) (l := c) (by decide) hc (fun z => absurd z (by decide)) hle p
    have c1 := (cc p hp).1 (by omega)
    by_cases y : p = eS G 5
    · rw [if_pos ⟨f1, y⟩] at c1
      rw [if_pos ⟨y, by decide⟩] at e1
      omega
    · rw [if_neg (fun z => y z.2)] at c1
      rw [if_neg (fun z => y z.1)] at e1
      omega
  · rw [TT_set (by decide) hc hle hk]
    exact e k hk
/-- what holds when the tile has gone over -/
theorem WX.lv (h : WX G) {p : Nat} (hp : p < 4) (h2 : eS G 4 = 2) (hpt : p ≠ eS G 5) : W1 (gLv G p) ∧ W2 (gLv G p) ∧ (∀ q, q < 4 → sz (gLv G p) q = if q = p then 11 else 10) ∧ sn (eM (gLv G p)) 0 4 + 1 ≤ eS G 2 + eS G 3 ∧ (∀ k, k < 25 → TT (gLv G p) k ≤ DC (eS G) k) ∧ WD (gLv G p) ∧ eS G 7 ≠ 0 := by
  have hl := h.ls h2
  obtain ⟨⟨a0, a1, a2, a3, a4, a5, a8, a9, ap⟩, b, c, d, e, l, D, C, e8, r⟩ := h
  have hM := l h2
  refine ⟨⟨a0, a1, a2, a3, (show (1 : Nat) < 4 by decide), hp, a8, (show (0 : Nat) ≤ 1 by decide), ap⟩, fun q hq => ⟨(b q hq).1, ?_⟩, fun q hq => ?_, ?_, fun k hk => ?_, D, r (by omega)⟩
  · show ∀ j, j < u1 (eM G) (eS G 5) (eM G (eS G 5) - 1) q → eR G q j < 25
    intro j hj
    by_cases y : q = eS G 5
    · rw [y, u1_at] at hj
      rw [y]
      exact (b _ a5).2 j (by omega)
    · rw [u1_ne _ _ y] at hj
      exact (b q hq).2 j hj
  · rw [sz_lv hl]
    have c1 := (c q hq).1 (by omega)
    rw [if_neg (fun z => by have := z.1; omega)] at c1
    by_cases y : q = p
    · rw [if_pos y, if_pos y]
      omega
    · rw [if_neg y, if_neg y]
      omega
  · show sn (u1 (eM G) (eS G 5) (eM G (eS G 5) - 1)) 0 4 + 1 ≤ eS G 2 + eS G 3
    have := eM_up (G := G) (v := eM G (eS G 5) - 1) a5
    unfold W4 at d
    omega
  · rw [TT_lv a5 hp hpt hM]
    exact e k hk
theorem WX.clm (h : WX G) {p w : Nat} {i : Int32} (hp : p < 4) (hw2 : w ≤ 2) (hm : oMay G p w i = true) : WX (gClm G p w i) := by
  obtain ⟨⟨m1, m2, m3⟩, -⟩ := h.may hp hm
  obtain ⟨l, hl, hcl, -, -, hle⟩ := may_le hm hw2 (h.ls m1)
  obtain ⟨⟨a0, a1, a2, a3, a4, a5, a8, a9, ap⟩, b, c, d, e, D, r⟩ := h.lv hp m1 m2
  have h23 : w = 1 → l < 23 := fun y => by
    unfold oMay at hm
    rw [Bool.and_eq_true, if_pos y, Bool.and_eq_true] at hm
    have m4 := hm.2.2
    unfold crow at m4
    unfold cLow at hcl
    rw [if_pos y] at hcl
    by_cases z : i < 0
    · rw [if_pos z] at m4
      cases m4
    · rw [if_neg z] at m4
      by_cases u : rw_ i.toNatClampNeg = true ∧ i.toNatClampNeg ≤ lst G ∧ lst G ≤ i.toNatClampNeg + 2
      · have u1 := of_decide_eq_true u.1
        omega
      · rw [if_neg u] at m4
        cases m4
  have hs := fun q => sz_set (G := gLv G p) (p := p) (f := w) (l := l) (by omega) hl h23 hle q
  have hT : ∀ k, k < 25 → TT (gSet (gLv G p) p w l) k ≤ DC (eS G) k := fun k hk => by
    rw [TT_set (by omega) hl hle hk]
    exact e k hk
  have hW4 : W4 (gSet (gLv G p) p w l) := by
    unfold W4
    show sn (eM (gLv G p)) 0 4 + (if (1 : Nat) = 1 then 1 else 0) ≤ eS G 2 + eS G 3
    rw [if_pos rfl]
    exact d
  unfold gClm
  rw [← hcl]
  by_cases y : w = 2
  · rw [if_pos y]
    have h4 : gF4 G = true := by
      unfold oMay at hm
      rw [Bool.and_eq_true, if_neg (by omega), if_pos y, Bool.and_eq_true] at hm
      exact hm.2.2
    refine WY.df (G := gSet (gLv G p) p w l) ⟨⟨a0, a1, a2, a3, a4, a5, a8, a9, ap⟩, W2.set b (by omega) hl, fun q hq => ?_, hW4, fun k hk => ?_, D, rfl, r⟩ h4
    · have s1 := hs q
      have c1 := c q hq
      by_cases z : q = p
      · rw [if_pos ⟨z, by omega⟩] at s1
        rw [if_pos z] at c1
        omega
      · rw [if_neg (fun u => z u.1)] at s1
        rw [if_neg z] at c1
        omega
    · exact Nat.le_trans (hT k hk) (Nat.le_of_eq (DC_same (s := eS (gSet (gLv G p) p w l)) (s' := eS G) rfl rfl rfl rfl k))
  · rw [if_neg y]
    refine ⟨⟨a0, a1, a2, a3, a4, a5, a8, a9, ap⟩, W2.set b (by omega) hl, fun q hq => ?_, hW4, fun k hk => ?_, fun z => ?_, D, fun _ z => ?_, fun z => ?_, fun _ => r⟩
    · have s1 := hs q
      have c1 := c q hq
      rw [if_neg (fun u => by have := u.2; omega), Nat.add_zero] at s1
      rw [s1, c1]
      refine ⟨fun _ => ?_, by split <;> omega, fun z => absurd z r⟩
      by_cases z : q = p
      · rw [if_pos z, if_pos ⟨rfl, z⟩]
      · rw [if_neg z, if_neg (fun u => z u.2)]
    · exact Nat.le_trans (hT k hk) (Nat.le_of_eq (DC_same (s := eS (gSet (gLv G p) p w l)) (s' := eS G) rfl rfl rfl rfl k))
    · exact absurd (show (1 : Nat) = 2 from z) (by decide)
    · have : eC G p = true := z
      rw [m3] at this
      cases this
    · exact absurd (show (0 : Nat) = 0 from rfl) z
theorem WX.win (h : WX G) {p : Nat} (hp : p < 4) (hw : wOk G p = true) : WX (gWin G p) := by
  unfold gWin
  unfold wOk at hw
  by_cases y : eS G 4 = 1
  · rw [if_pos y]
    exact h.over (by omega)
  · rw [if_neg y] at hw ⊢
    unfold oByDis at hw
    rw [Bool.and_eq_true] at hw
    have m := of_decide_eq_true hw.1
    have hE := h.2.2.2.2.2.2.2.2.1
    obtain ⟨a0, a1, a2, a3, a4, a5, a8, a9, ap⟩ := h.1
    obtain ⟨-, b, c, d, e, D, r⟩ := h.lv hp m.1 m.2
    refine ⟨⟨a0, a1, a2, a3, (show (3 : Nat) < 4 by decide), a5, a8, a9, ap⟩, b, fun q hq => ⟨fun z => absurd (show (3 : Nat) = 3 from rfl) z, ?_, fun z => absurd z r⟩, ?_, e, fun z => absurd (show (3 : Nat) = 2 from z) (by decide), D, fun z => absurd (show (3 : Nat) = 1 from z) (by decide), hE, fun z => absurd (show (3 : Nat) = 3 from rfl) z⟩
    · have c1 := c q hq
      have e1 : sz (wS (gTk G p) 4 3) q = sz (gLv G p) q := rfl
      rw [e1, c1]
      split <;> omega
    · show sn (eM (gLv G p)) 0 4 + (if (3 : Nat) = 1 then 1 else 0) ≤ eS G 2 + eS G 3
      rw [if_neg (by decide)]
      omega
/-! a lay -/
theorem gDeal_pc (p j : Nat) : ∀ (d i : Nat) (G : zG) (q : Nat), pc (gDeal p d i G) j q = pc G j q + (if q = p then ct (eS G) j (10 * p + i) d else 0) := by
  intro d
  induction d with
  | zero =>
    intro i G q
    rw [gDeal]
    unfold ct
    rw [sn]
    split <;> omega
  | succ d ih =>
    intro i G q
    rw [gDeal, ih (i + 1), pc_wH]
    have e : ct (eS (wH G p (gK G (10 * p + i)) (eH G p (gK G (10 * p + i)) + 1))) j (10 * p + (i + 1)) d = ct (eS G) j (10 * p + i + 1) d := rfl
    rw [e]
    have e2 : ct (eS G) j (10 * p + i) (d + 1) = (if gK G (10 * p + i) = j then 1 else 0) + ct (eS G) j (10 * p + i + 1) d := rfl
    rw [e2]
    unfold pc
    by_cases y : q = p
    · subst y
      rw [if_pos rfl, if_pos rfl]
      by_cases z : j = gK G (10 * q + i)
      · rw [if_pos ⟨rfl, z⟩, if_pos z.symm, ← z]
        omega
      · rw [if_neg (fun u => z u.2), if_neg (fun u => z u.symm)]
        omega
    · rw [if_neg (fun u => y u.1), if_neg y, if_neg y]
theorem gDeal_sz (p : Nat) : ∀ (d i : Nat) (G : zG) (q : Nat), sz (gDeal p d i G) q = sz G q + (if q = p then d else 0) := by
  intro d
  induction d with
  | zero =>
    intro i G q
    rw [gDeal]
    split <;> omega
  | succ d ih =>
    intro i G q
    rw [gDeal, ih (i + 1), sz_add (gK_lt G _)]
    split <;> omega
theorem gDeal_N (p : Nat) : ∀ (d i : Nat) (G : zG), eN (gDeal p d i G) = eN G ∧ eM (gDeal p d i G) = eM G := by
  intro d
  induction d with
  | zero => exact fun _ _ => ⟨rfl, rfl⟩
  | succ d ih => exact fun i G => ih (i + 1) _
theorem gClr_pc {j : Nat} (hj : j < 25) (G : zG) (p q : Nat) : pc (gClr G p) j q = if q = p then 0 else pc G j q := by
  have e : pc (gClr G p) j q = (if q = p ∧ j < 25 then 0 else eH G q j) + (sn (fun i => tlN (eV G q i / 100) (eV G q i % 100) j) 0 (u1 (eN G) p 0 q) + sn (fun i => if eR G q i = j then 1 else 0) 0 (u1 (eM G) p 0 q)) := rfl
  rw [e]
  by_cases y : q = p
  · rw [if_pos ⟨y, hj⟩, if_pos y, y, u1_at, u1_at]
    rfl
  · rw [if_neg (fun z => y z.1), if_neg y, u1_ne _ _ y, u1_ne _ _ y]
    rfl
theorem gClr_sz (G : zG) (p q : Nat) : sz (gClr G p) q = if q = p then 0 else sz G q := by
  have e : sz (gClr G p) q = sn (fun k => if q = p ∧ k < 25 then 0 else eH G q k) 0 25 + 3 * u1 (eN G) p 0 q := rfl
  rw [e]
  by_cases y : q = p
  · rw [if_pos y, y, u1_at, sn_0 _ 25 0 (fun k _ h2 => if_pos ⟨rfl, by omega⟩)]
  · rw [if_neg y, u1_ne _ _ y, sn_eq (g := eH G q) 25 0 (fun k _ _ => if_neg (fun z => y z.1))]
    rfl
theorem gAll_pc {j : Nat} (hj : j < 25) : ∀ (d p : Nat) (G : zG) (q : Nat), pc (gAll d p G) j q = if p ≤ q ∧ q < p + d then ct (eS G) j (10 * q) 10 else pc G j q := by
  intro d
  induction d with
  | zero =>
    intro p G q
    rw [gAll, if_neg (by omega)]
  | succ d ih =>
    intro p G q
    rw [gAll, ih (p + 1), gDeal_S, gDeal_pc, gClr_pc hj]
    have e : eS (gClr G p) = eS G := rfl
    rw [e]
    by_cases y : q = p
    · subst y
      rw [if_neg (by omega), if_pos rfl, if_pos rfl, if_pos (by omega), Nat.zero_add]
      rfl
    · rw [if_neg y, if_neg y]
      by_cases z : p ≤ q ∧ q < p + (d + 1)
      · rw [if_pos z, if_pos (by omega)]
      · rw [if_neg z, if_neg (by omega), Nat.add_zero]
theorem gAll_sz : ∀ (d p : Nat) (G : zG) (q : Nat), sz (gAll d p G) q = if p ≤ q ∧ q < p + d then 10 else sz G q := by
  intro d
  induction d with
  | zero =>
    intro p G q
    rw [gAll, if_neg (by omega)]
  | succ d ih =>
    intro p G q
    rw [gAll, ih (p + 1), gDeal_sz, gClr_sz]
    by_cases y : q = p
    · subst y
      rw [if_neg (by omega), if_pos rfl, if_pos rfl, if_pos (by omega)]
    · rw [if_neg y, if_neg y]
      by_cases z : p ≤ q ∧ q < p + (d + 1)
      · rw [if_pos z, if_pos (by omega)]
      · rw [if_neg z, if_neg (by omega), Nat.add_zero]
theorem gAll_N : ∀ (d p : Nat) (G : zG) (q : Nat), (eN (gAll d p G) q = if p ≤ q ∧ q < p + d then 0 else eN G q) ∧ (eM (gAll d p G) q = if p ≤ q ∧ q < p + d then 0 else eM G q) := by
  intro d
  induction d with
  | zero =>
    intro p G q
    rw [gAll, if_neg (by omega), if_neg (by omega)]
    exact ⟨rfl, rfl⟩
  | succ d ih =>
    intro p G q
    rw [gAll, (ih (p + 1) _ q).1, (ih (p + 1) _ q).2, (gDeal_N p 10 0 _).1, (gDeal_N p 10 0 _).2]
    have e1 : eN (gClr G p) q = u1 (eN G) p 0 q := rfl
    have e2 : eM (gClr G p) q = u1 (eM G) p 0 q := rfl
    rw [e1, e2]
    by_cases y : q = p
    · rw [y, u1_at, u1_at, if_neg (by omega), if_pos (by omega), if_pos (by omega)]
      exact ⟨rfl, rfl⟩
    · rw [u1_ne _ _ y, u1_ne _ _ y]
      by_cases z : p ≤ q ∧ q < p + (d + 1)
      · rw [if_pos z, if_pos z, if_pos (by omega), if_pos (by omega)]
        exact ⟨rfl, rfl⟩
      · rw [if_neg z, if_neg z, if_neg (by omega), if_neg (by omega)]
        exact ⟨rfl, rfl⟩
theorem WX.lay (h : WX G) {st sh : Nat} (hst : st < 100) (h2 : st % 2 ≠ 0) (h5 : st % 5 ≠ 0) (hsh : sh < 100) : WX (gLay G st sh) := by
  obtain ⟨-, -, -, -, -, -, D, -⟩ := h
  have hS : eS (gLay G st sh) = eS (gBeg G st sh) := gAll_S 4 0 _
  have hN : ∀ p, p < 4 → eN (gLay G st sh) p = 0 ∧ eM (gLay G st sh) p = 0 := fun p hp => by
    obtain ⟨x, y⟩ := gAll_N 4 0 (gBeg G st sh) p
    rw [if_pos (by omega)] at x y
    exact ⟨x, y⟩
  have s0 : eS (gLay G st sh) 0 = st := by rw [hS]; rfl
  have s1 : eS (gLay G st sh) 1 = sh := by rw [hS]; rfl
  have s2 : eS (gLay G st sh) 2 = 0 := by rw [hS]; rfl
  have s3 : eS (gLay G st sh) 3 = 0 := by rw [hS]; rfl
  have s4 : eS (gLay G st sh) 4 = 0 := by rw [hS]; rfl
  have s5 : eS (gLay G st sh) 5 = eS G 6 % 4 := by rw [hS]; rfl
  have s6 : eS (gLay G st sh) 6 = eS G 6 % 4 + 1 := by rw [hS]; rfl
  have s7 : eS (gLay G st sh) 7 = eS G 7 + 1 := by rw [hS]; rfl
  have s8 : eS (gLay G st sh) 8 = 0 := by rw [hS]; rfl
  have s9 : eS (gLay G st sh) 9 = 0 := by rw [hS]; rfl
  refine ⟨⟨by omega, by omega, by omega, by omega, by omega, by omega, by omega, by omega, fun _ => ⟨by omega, by omega⟩⟩, fun p hp => ⟨fun j hj => ?_, fun j hj => ?_⟩, fun p hp => ?_, ?_, fun k hk => ?_, fun z => ?_, ?_, fun z => ?_, fun z => ?_, fun _ => by omega⟩
  · have := (hN p hp).1
    omega
  · have := (hN p hp).2
    omega
  · have e : sz (gLay G st sh) p = 10 := (gAll_sz 4 0 (gBeg G st sh) p).trans (if_pos (by omega))
    rw [e]
    exact ⟨fun _ => by rw [if_neg (fun z => by have := z.1; omega)], by omega, fun z => by omega⟩
  · unfold W4
    have e : sn (eM (gLay G st sh)) 0 4 = 0 := sn_0 _ 4 0 (fun k _ h => (hN k (by omega)).2)
    rw [e, if_neg (by omega)]
    omega
  · have e : TT (gLay G st sh) k = sn (fun q => ct (eS (gBeg G st sh)) k (10 * q) 10) 0 4 := sn_eq 4 0 fun q _ hq => (gAll_pc hk 4 0 (gBeg G st sh) q).trans (if_pos (by omega))
    have e2 : sn (fun q => ct (eS (gBeg G st sh)) k (10 * q) 10) 0 4 = ct (eS (gBeg G st sh)) k 0 40 := by
      unfold ct
      rw [show (40 : Nat) = 10 + (10 + (10 + 10)) from rfl, sn_add _ (10 + (10 + 10)) 10 0, sn_add _ (10 + 10) 10, sn_add _ 10 10]
      rfl
    rw [e, e2, hS]
    exact Nat.le_add_right _ _
  · omega
  · rcases D with ⟨z1, z2⟩ | ⟨z1, z2⟩
    · exact Or.inr ⟨by omega, by omega⟩
    · exact Or.inr ⟨by omega, by omega⟩
  · omega
  · omega
end WXT
