/-! ===== THE GAME: near and far; what is best ===== -/
theorem mx_ex {p : Nat → Prop} : ∀ B : Nat, (∀ v, p v → v ≤ B) → (∃ v, p v) → ∃ v, p v ∧ ∀ w, p w → w ≤ v := by
  intro B
  induction B with
  | zero =>
    rintro h ⟨v, hv⟩
    exact ⟨v, hv, fun w hw => by have a := h w hw; omega⟩
  | succ B ih =>
    intro h hx
    by_cases y : p (B + 1)
    · exact ⟨B + 1, y, h⟩
    · exact ih (fun v hv => by
        have a := h v hv
        have b : v ≠ B + 1 := fun z => y (z ▸ hv)
        omega) hx
theorem fvl_MB (n : Nat) (g : Nat → Nat) : MB n 1 0 25 g (fvl n g) := by
  obtain ⟨v, ⟨L, h, a, b⟩, c⟩ := mx_ex (p := fun v => ∃ L h, OB n 1 0 25 g L h ∧ pvl L + pv h = v) (2 * n + 1) (fun v q => by
    obtain ⟨L, h, a, b⟩ := q
    rw [← b]
    exact a.le) ⟨0, [], none, OB.nil g _ _ _ _, rfl⟩
  have m : MB n 1 0 25 g v := ⟨⟨L, h, a, b⟩, fun L2 h2 x => c _ ⟨L2, h2, x, rfl⟩⟩
  rw [fvl_eq m]
  exact m
/-- how near a hand is -/
noncomputable def nrv (N : Nat) (g : Nat → Nat) : Nat := 2 * N + fvl (3 - N) g
section NRV
variable {N k : Nat} {g g' : Nat → Nat}
theorem frv_n (N : Nat) (g : Nat → Nat) : frv N g = 6 - nI (nrv N g) := rfl
theorem nrv_7 (hN : N ≤ 3) : nrv N g ≤ 7 := by
  have a := (fvl_MB (3 - N) g).le
  unfold nrv
  omega
theorem nrv_mono (h : ∀ k, k < 25 → g k ≤ g' k) : nrv N g ≤ nrv N g' := Nat.add_le_add_left ((fvl_MB _ g).mono (fvl_MB _ g') h) _
theorem nrv_one (hk : k < 25) : nrv N (u1 g k (g k + 1)) ≤ nrv N g + 1 := by
  have a := (fvl_MB (3 - N) g).one hk (fvl_MB (3 - N) (u1 g k (g k + 1)))
  unfold nrv
  omega
theorem u1_pm (h : g k ≠ 0) : u1 (u1 g k (g k - 1)) k (u1 g k (g k - 1) k + 1) = g := funext fun j => by
  by_cases y : j = k
  · rw [y, u1_at, u1_at]; omega
  · rw [u1_ne _ _ y, u1_ne _ _ y]
theorem nrv_drop (hk : k < 25) (h : g k ≠ 0) : nrv N g ≤ nrv N (u1 g k (g k - 1)) + 1 := by
  have a := nrv_one (N := N) (g := u1 g k (g k - 1)) hk
  rw [u1_pm h] at a
  exact a
theorem nrv_less : nrv N (u1 g k (g k - 1)) ≤ nrv N g := nrv_mono fun j _ => by
  by_cases y : j = k
  · rw [y, u1_at]; omega
  · rw [u1_ne _ _ y]; exact Nat.le_refl _
theorem nrv_more : nrv N g ≤ nrv N (u1 g k (g k + 1)) := nrv_mono fun j _ => by
  by_cases y : j = k
  · rw [y, u1_at]; omega
  · rw [u1_ne _ _ y]; exact Nat.le_refl _
theorem nrv_ten (hN : N ≤ 3) (hs : sn g 0 25 + 3 * N = 10) : nrv N g ≤ 6 := by
  have a := (fvl_MB (3 - N) g).ten (by omega)
  unfold nrv
  omega
theorem nrv_cmp (hN : N ≤ 3) (hs : sn g 0 25 + 3 * N = 11) (hc : cmp 25 0 g = true) : nrv N g = 7 := by
  have a := fvl_eq ((cmp_MB (n := 3 - N) (by omega)).mp hc)
  unfold nrv
  omega
theorem nrv_wait (hN : N ≤ 3) (hs : sn g 0 25 + 3 * N = 10) : nrv N g = 6 ↔ ∃ k, k < 25 ∧ cmp 25 0 (u1 g k (g k + 1)) = true := by
  rw [← wait_MB (n := 3 - N) (by omega) (fvl_MB (3 - N) g)]
  unfold nrv
  omega
theorem wt_z (g : Nat → Nat) : ∀ (d i : Nat) (acc : Int64), (∀ k, i ≤ k → k < i + d → cmp 25 0 (u1 g k (g k + 1)) ≠ true) → wt d i g acc = acc := by
  intro d
  induction d with
  | zero => exact fun _ _ _ => rfl
  | succ d ih =>
    intro i acc h
    rw [wt, if_neg (h i (Nat.le_refl _) (by omega))]
    exact ih (i + 1) acc fun k h1 h2 => h k (by omega) (by omega)
theorem wts_ne (hN : N ≤ 3) : wts N g ≠ 0 ↔ sn g 0 25 + 3 * N = 10 ∧ nrv N g = 6 := by
  constructor
  · intro h
    by_cases y : sn g 0 25 + 3 * N = 10
    · refine ⟨y, Classical.byContradiction fun z => h ?_⟩
      unfold wts
      rw [if_pos y]
      exact wt_z g 25 0 0 fun k _ h2 hc => z ((nrv_wait hN y).mpr ⟨k, by omega, hc⟩)
    · exact absurd (if_neg y) h
  · rintro ⟨y, z⟩ h
    obtain ⟨k, hk, hc⟩ := (nrv_wait hN y).mp z
    have b := bt_wts hk N g
    rw [if_pos ⟨y, hc⟩, h] at b
    have key : ∀ k, k < 25 → btk 0 k ≠ 1 := by decide +kernel
    exact key k hk b
end NRV
theorem c8_lt : ∀ a, a < 8 → ∀ b, b < 8 → ((6 - nI a < 6 - nI b) ↔ b < a) := by decide
theorem c8_eq : ∀ a, a < 8 → ∀ b, b < 8 → ((6 - nI a = 6 - nI b) ↔ a = b) := by decide
theorem c8_m1 : ∀ a, a < 8 → ((6 - nI a = -1) ↔ a = 7) := by decide
theorem c8_0 : ∀ a, a < 8 → ((6 - nI a = 0) ↔ a = 6) := by decide
theorem c8_le : ∀ a, a < 8 → ∀ b, b < 8 → ((6 - nI a - 1 ≤ 6 - nI b) ↔ b ≤ a + 1) := by decide
theorem c8_max : ∀ a, a < 8 → ((0 : Int32) < 6 - nI a ∧ 6 - nI a = 6 - nI (min a 6)) ∨ (¬ (0 : Int32) < 6 - nI a ∧ 0 = 6 - nI (min a 6)) := by decide
/-- the best of those that are there -/
theorem bst_sp {g : Nat → Nat} {F : Nat → Int32} : ∀ (d i : Nat) (b v : Int32), i + d = 25 → ((b = -1 ∧ ∀ k, k < i → g k = 0) ∨ ∃ c, c < i ∧ b = nI c ∧ g c ≠ 0 ∧ v = F c ∧ ∀ k, k < i → g k ≠ 0 → ¬ F k < F c) → (∃ k, k < 25 ∧ g k ≠ 0) → ∃ c, c < 25 ∧ bst g F d i b v = nI c ∧ g c ≠ 0 ∧ ∀ k, k < 25 → g k ≠ 0 → ¬ F k < F c := by
  intro d
  induction d with
  | zero =>
    intro i b v hi h hx
    rcases h with ⟨-, h⟩ | ⟨c, h1, h2, h3, -, h5⟩
    · obtain ⟨k, k1, k2⟩ := hx
      exact absurd (h k (by omega)) k2
    · exact ⟨c, by omega, h2, h3, fun k k1 => h5 k (by omega)⟩
  | succ d ih =>
    intro i b v hi h hx
    rw [bst]
    by_cases y : g i ≠ 0 ∧ (b = -1 ∨ F i < v ∨ (F i = v ∧ g i < g b.toNatClampNeg))
    · rw [if_pos y]
      refine ih (i + 1) _ _ (by omega) (Or.inr ⟨i, Nat.lt_succ_self i, rfl, y.1, rfl, fun k k1 k2 => ?_⟩) hx
      by_cases ki : k = i
      · rw [ki]
        exact fun z => Int32.lt_irrefl z
      · rcases h with ⟨-, h⟩ | ⟨c, h1, h2, h3, h4, h5⟩
        · exact absurd (h k (by omega)) k2
        · have q := h5 k (by omega) k2
          rw [← h4] at q
          rcases y.2 with z | z | z
          · rw [h2] at z
            have key : ∀ c, c < 25 → nI c ≠ -1 := by decide
            exact absurd z (key c (by omega))
          · exact fun u => q (Int32.lt_trans u z)
          · rw [z.1]
            exact q
    · rw [if_neg y]
      refine ih (i + 1) b v (by omega) ?_ hx
      rcases h with ⟨h0, h⟩ | ⟨c, h1, h2, h3, h4, h5⟩
      · refine Or.inl ⟨h0, fun k k1 => ?_⟩
        by_cases ki : k = i
        · rw [ki]
          exact Classical.byContradiction fun z => y ⟨z, Or.inl h0⟩
        · exact h k (by omega)
      · refine Or.inr ⟨c, by omega, h2, h3, h4, fun k k1 k2 => ?_⟩
        by_cases ki : k = i
        · rw [ki] at k2 ⊢
          rw [← h4]
          exact fun z => y ⟨k2, Or.inr (Or.inl z)⟩
        · exact h5 k (by omega) k2
/-- who has the turn has eleven -/
theorem sz_t {G : zG} (hx : WX G) (h1 : eS G 4 = 1) : sn (eH G (eS G 5)) 0 25 + 3 * eN G (eS G 5) = 11 := by
  have a := (hx.2.2.1 (eS G 5) hx.1.2.2.2.2.2.1).1 (by omega)
  rw [if_pos ⟨h1, rfl⟩] at a
  exact a
theorem sz_n {G : zG} (hx : WX G) (h1 : eS G 4 ≠ 1) (h3 : eS G 4 ≠ 3) {p : Nat} (hp : p < 4) : sn (eH G p) 0 25 + 3 * eN G p = 10 := by
  have a := (hx.2.2.1 p hp).1 h3
  rw [if_neg (fun z => h1 z.1)] at a
  exact a
theorem best_sp {G : zG} (hx : WX G) (hw : WF G) (h1 : eS G 4 = 1) : ∃ b, b < 25 ∧ bsv G = nI b ∧ eH G (eS G 5) b ≠ 0 ∧ nrv (eN G (eS G 5)) (u1 (eH G (eS G 5)) b (eH G (eS G 5) b - 1)) = min (nrv (eN G (eS G 5)) (eH G (eS G 5))) 6 := by
  have ht : eS G 5 < 4 := hx.1.2.2.2.2.2.1
  have hs := sz_t hx h1
  have hN := (hw.2.2.2.2.2.2.2.2.2.2 _ ht).2.1
  have hb : bsv G = bst (eH G (eS G 5)) (fun i => frw G (eS G 5) i (eH G (eS G 5) i - 1)) 25 0 (-1) 0 := if_pos h1
  have hF : ∀ i, frw G (eS G 5) i (eH G (eS G 5) i - 1) = 6 - nI (nrv (eN G (eS G 5)) (u1 (eH G (eS G 5)) i (eH G (eS G 5) i - 1))) := fun i => rfl
  generalize eH G (eS G 5) = g at *
  generalize eN G (eS G 5) = N at *
  have hx1 : ∃ k, k < 25 ∧ g k ≠ 0 := Classical.byContradiction fun z => by
    have := sn_0 g 25 0 fun k _ hk => Classical.byContradiction fun y => z ⟨k, by omega, y⟩
    omega
  obtain ⟨b, b1, b2, b3, b4⟩ := bst_sp (F := fun i => frw G (eS G 5) i (g i - 1)) 25 0 (-1) 0 rfl (Or.inl ⟨rfl, fun k hk => absurd hk (Nat.not_lt_zero k)⟩) hx1
  refine ⟨b, b1, hb.trans b2, b3, ?_⟩
  have le : ∀ k, k < 25 → g k ≠ 0 → nrv N (u1 g k (g k - 1)) ≤ nrv N (u1 g b (g b - 1)) := fun k k1 k2 => by
    have q := b4 k k1 k2
    rw [hF k, hF b, c8_lt _ (Nat.lt_succ_of_le (nrv_7 hN)) _ (Nat.lt_succ_of_le (nrv_7 hN))] at q
    omega
  have s10 : ∀ k, k < 25 → g k ≠ 0 → sn (u1 g k (g k - 1)) 0 25 + 3 * N = 10 := fun k k1 k2 => by
    have := sn_u1 g k (g k - 1) 25 0 (Nat.zero_le _) (by omega)
    omega
  have l1 := nrv_less (N := N) (g := g) (k := b)
  have l2 := nrv_drop (N := N) b1 b3
  have l3 := nrv_ten hN (s10 b b1 b3)
  have l4 := nrv_7 (g := g) hN
  by_cases y : nrv N g = 7
  · omega
  · have hv : fvl (3 - N) g ≠ 2 * (3 - N) + 1 := fun z => y (by unfold nrv; omega)
    obtain ⟨k, k1, k2, k3⟩ := (fvl_MB (3 - N) g).keep (by omega) hv
    have ek : nrv N (u1 g k (g k - 1)) = nrv N g := by
      unfold nrv
      rw [fvl_eq k3]
    have := le k k1 k2
    omega
/-- who can win has a hand that is complete -/
theorem win_far {G : zG} {e : zPt} (hx : WX G) (hw : WF G) {p : Nat} (hp : p < 4) (z : wOk G p = true) : opl (gWin G p) e p 6 = -1 := by
  obtain ⟨a1, a2, -⟩ := win_ok hx hp z
  have hN := (hw.2.2.2.2.2.2.2.2.2.2 _ hp).2.1
  have eH' : eH (gWin G p) = eH (gWt G p) := by
    unfold gWin gWt
    split <;> rfl
  have eN' : eN (gWin G p) = eN G := by
    unfold gWin
    split <;> rfl
  show frv (eN (gWin G p) p) (eH (gWin G p) p) = -1
  rw [eH', eN', frv_n, nrv_cmp hN a2 a1]
  decide
/-- what is drawn is in the hand of who has the turn -/
def WH (G : zG) : Prop := eS G 4 = 1 → eS G 9 = 1 → eS G 8 ≠ 0 ∧ eH G (eS G 5) (eS G 8 - 1) ≠ 0
theorem WH.no {G : zG} (h : eS G 4 ≠ 1) : WH G := fun z => absurd z h
theorem WH.no9 {G : zG} (h : eS G 9 ≠ 1) : WH G := fun _ z => absurd z h
theorem WH.rec_ (G : zG) (k : Nat) : WH (gRec G k) := fun _ _ => by
  refine ⟨Nat.succ_ne_zero k, ?_⟩
  show u2 (eH G) (eS G 5) k (eH G (eS G 5) k + 1) (eS G 5) (k + 1 - 1) ≠ 0
  rw [Nat.add_sub_cancel, u2_at]
  exact Nat.succ_ne_zero _
theorem WH.draw (G : zG) : WH (gDraw G) := by
  unfold gDraw
  split
  · exact WH.rec_ _ _
  · exact WH.no (show ¬ (3 : Nat) = 1 by decide)
theorem WH.clm (G : zG) (p w : Nat) (i : Int32) : WH (gClm G p w i) := by
  unfold gClm
  split
  · exact WH.rec_ _ _
  · exact WH.no9 (show ¬ (0 : Nat) = 1 by decide)
theorem WH.win (G : zG) (p : Nat) : WH (gWin G p) := by
  unfold gWin
  split
  · exact WH.no (show ¬ (3 : Nat) = 1 by decide)
  · exact WH.no (show ¬ (3 : Nat) = 1 by decide)
/-- some kind can be discarded -/
theorem dsc_ex {G : zG} (hx : WX G) (hh : WH G) (h1 : eS G 4 = 1) : ∃ q, q < 25 ∧ dOk G q := by
  have hs := sz_t hx h1
  obtain ⟨⟨-, -, -, -, -, ht, h8, -⟩, -, -, -, -, -, -, hc, -, -⟩ := hx
  by_cases y : eC G (eS G 5) = true
  · obtain ⟨a, b⟩ := hh h1 (hc h1 y)
    exact ⟨eS G 8 - 1, by omega, h1, b, fun _ => by omega⟩
  · have hx1 : ∃ k, k < 25 ∧ eH G (eS G 5) k ≠ 0 := Classical.byContradiction fun z => by
      have e0 := sn_0 (eH G (eS G 5)) 25 0 fun k _ hk => Classical.byContradiction fun y => z ⟨k, by omega, y⟩
      omega
    obtain ⟨k, k1, k2⟩ := hx1
    exact ⟨k, k1, h1, k2, fun z => absurd z y⟩
