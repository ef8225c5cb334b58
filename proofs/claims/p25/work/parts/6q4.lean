/-! ===== THE LAW: what is offered; who is ready ===== -/
section OFFS
variable {n : Nat} {xs : Nat → Int32} {c C k rr : Nat} {M : zM} {G : zG} {e : zPt}
theorem clm_V (G : zG) (p w : Nat) (i : Int32) : eV (gClm G p w i) p (eN G p) = 100 * w + cLow G w i := by
  unfold gClm
  split
  · exact u2_at _ _ _ _
  · exact u2_at _ _ _ _
theorem clm_N (G : zG) (p w : Nat) (i : Int32) : eN (gClm G p w i) p = eN G p + 1 := by
  unfold gClm
  split
  · exact u1_at _ _ _
  · exact u1_at _ _ _
theorem clm_C (G : zG) (p w : Nat) (i : Int32) : eC (gClm G p w i) = eC G := by
  unfold gClm
  split <;> rfl
theorem clm_4 (G : zG) (p w : Nat) (i : Int32) : eS (gClm G p w i) 4 = 1 := by
  unfold gClm
  split <;> rfl
theorem clm_5 (G : zG) (p w : Nat) (i : Int32) : eS (gClm G p w i) 5 = p := by
  unfold gClm
  split <;> rfl
theorem may_next {p : Nat} {i : Int32} (z : oMay G p 1 i = true) : p = (eS G 5 + 1) % 4 := by
  unfold oMay at z
  rw [Bool.and_eq_true, if_pos rfl, Bool.and_eq_true] at z
  exact of_decide_eq_true z.2.1
theorem pk_nxt (t : Nat) (ht : t < 4) : zmd (nI t + (1 : Int32)) (4 : Int32) = nI ((t + 1) % 4) := by
  rw [nI_1]
  exact pk_rem (a := t + 1) (d := 4) (by omega) (by decide) (by decide)
/-- what is offered: somebody wins, claims, or all pass -/
theorem w_off (g : GI k rr G e) (hk : k + 1 ≤ 600) (h2 : eS G 4 = 2) (x y : Int32) : ∀ (d m i c : Nat) (M : zM), i + d = 4 → d < m → QK n xs c M G e → GO n xs (c + d + 1) (fun v G' e' => v = 1 ∧ GI (k + 1) rr G' e') (f_L_isOffered_16 m 1000 x y (nI (lst G)) (nI (eS G 5)) (nI i) M) := by
  have ht := g.1.1.1.2.2.2.2.2.1
  have hl := g.1.1.ls h2
  obtain ⟨lk, hlk⟩ := g.lk
  intro d
  induction d with
  | zero =>
    intro m i c M hi hm h
    obtain ⟨m, rfl⟩ : ∃ x, m = x + 1 := ⟨m - 1, by omega⟩
    rw [f_L_isOffered_16, if_pos (le_t (x := 4) 4 i (by omega) (by omega))]
    refine P_below _ (m := 4) (by decide) (by decide) rfl fun p hp => ?_
    dsimp only
    refine h.pl g hp 1 (by decide) rfl rfl fun M1 m1 => ?_
    refine P_below _ (m := 3) (by decide) (by decide) rfl fun w hw => ?_
    refine P_below _ (m := 3) (by decide) (by decide) rfl fun b _ => ?_
    dsimp only
    refine m1.claim g hp (w := w) (by omega) rfl rfl (fun z M2 m2 => ?_) (fun z M2 m2 => ?_)
    · have g2 := g.clm hk hp (by omega) z
      obtain ⟨⟨-, z2, z3⟩, z4⟩ := g.1.1.may hp z
      obtain ⟨l, l1, l2, -⟩ := may_le z (by omega) hl
      rw [if_pos (show nI (eN G p + 1) = opl G e p 1 + (1 : Int32) from (nI_1 _).symm), if_neg (eq_f (x := nI p) (y := nI (eS G 5)) p (eS G 5) z2 (by omega) (by omega))]
      refine m2.many g2 0 (by decide) rfl fun M3 m3 => ?_
      rw [if_pos (show mny (gClm G p w (nI (lst G) - nI b)) e 0 = 1 from congrArg nI (clm_4 G p w _))]
      refine m3.many g2 1 (by decide) rfl fun M4 m4 => ?_
      rw [if_pos (show mny (gClm G p w (nI (lst G) - nI b)) e 1 = nI p from by
        show (if eS (gClm G p w (nI (lst G) - nI b)) 4 = 3 then -1 else nI (eS (gClm G p w (nI (lst G) - nI b)) 5)) = nI p
        rw [clm_4, clm_5, if_neg (by decide)])]
      refine m4.pl g2 hp 5 (by decide) rfl rfl fun M5 m5 => ?_
      rw [if_pos (show opl (gClm G p w (nI (lst G) - nI b)) e p 5 = 0 from by
        show b32 (eC (gClm G p w (nI (lst G) - nI b)) p) = 0
        rw [clm_C, z3]
        rfl)]
      have last : ∀ M6, QK n xs c M6 (gClm G p w (nI (lst G) - nI b)) e → GO n xs (c + 0 + 1) (fun v G' e' => v = 1 ∧ GI (k + 1) rr G' e') (f_L_isOffered_160 1000 (nI p) (opl G e p 1) (nI w) M6) := fun M6 m6 => by
        unfold f_L_isOffered_160
        refine m6.ofSet g2 hp (j := eN G p) (by rw [clm_N]; omega) rfl rfl fun M7 m7 => ?_
        have ev : nI (eV (gClm G p w (nI (lst G) - nI b)) p (eN G p)) / (100 : Int32) = nI w := by
          have e100 : (100 * w + l) / 100 = w := by omega
          rw [clm_V, ← l2]
          exact (pk_div (a := 100 * w + l) (d := 100) (by omega) (by decide) (by decide)).trans (congrArg nI e100)
        rw [if_pos ev]
        exact GO.r m7 (by omega) ⟨rfl, g2⟩
      by_cases w1 : nI w = 1
      · have w1' : w = 1 := Classical.byContradiction fun u => eq_f (x := nI w) (y := 1) w 1 u (by omega) (by decide) rfl rfl w1
        subst w1'
        rw [if_pos w1, if_pos (show nI p = zmd (nI (eS G 5) + (1 : Int32)) (4 : Int32) from by rw [pk_nxt _ ht, ← may_next z])]
        exact last M5 m5
      · rw [if_neg w1]
        exact last M5 m5
    · rw [if_pos rfl]
      refine m2.pass g h2 fun M3 m3 => ?_
      rw [if_pos (pk_nxt _ ht).symm]
      exact GO.r m3 (by omega) ⟨rfl, g.pass hk h2⟩
  | succ d ih =>
    intro m i c M hi hm h
    obtain ⟨m, rfl⟩ : ∃ x, m = x + 1 := ⟨m - 1, by omega⟩
    have next : ∀ c' M1, c' ≤ c + 1 → QK n xs c' M1 G e → GO n xs (c + (d + 1) + 1) (fun v G' e' => v = 1 ∧ GI (k + 1) rr G' e') (f_L_isOffered_16 m 1000 x y (nI (lst G)) (nI (eS G 5)) (nI i + 1) M1) := fun c' M1 hc h1 => by
      rw [nI_1]
      have r := ih m (i + 1) (c + 1) M1 (by omega) (by omega) (h1.w hc)
      rw [show c + 1 + d + 1 = c + (d + 1) + 1 by omega] at r
      exact r
    rw [f_L_isOffered_16, if_neg (le_f (x := 4) 4 i (by omega) (by decide))]
    by_cases u : nI i = nI (eS G 5)
    · rw [if_pos u]
      exact next c M (Nat.le_succ c) h
    · rw [if_neg u]
      refine h.worth g (p := i) (by omega) hl hlk rfl rfl fun M1 m1 => ?_
      by_cases w0 : wth G i (lst G) lk ≤ 0
      · rw [if_pos w0]
        exact next c M1 (Nat.le_succ c) m1
      · rw [if_neg w0]
        refine (w_isWon m1 g hk (p := i) (by omega) rfl).b fun v M2 G2 e2 m2 q => ?_
        dsimp only
        obtain ⟨g2, q | ⟨q1, q2, q3⟩⟩ := q
        · rw [if_neg (show ¬ v = 0 by rw [q]; decide)]
          exact GO.r m2 (by omega) ⟨rfl, g2⟩
        · rw [if_pos q1]
          subst q2 q3
          exact next (c + 1) M2 (Nat.le_refl _) m2
theorem w_isOffered (h : QK n xs c M G e) (g : GI k rr G e) (hk : k + 1 ≤ 600) (h2 : eS G 4 = 2) (x y : Int32) : GO n xs (c + 5) (fun v G' e' => v = 1 ∧ GI (k + 1) rr G' e') (f_L_isOffered 1000 x y M) := by
  have e4 : mny G e 4 = nI (lst G) := if_pos h2
  have e1 : mny G e 1 = nI (eS G 5) := if_neg (by omega)
  unfold f_L_isOffered f_L_isOffered_0
  refine h.many g 4 (by decide) rfl fun M1 m1 => ?_
  refine m1.many g 1 (by decide) rfl fun M2 m2 => ?_
  rw [e4, e1]
  exact w_off g hk h2 x y 4 zN 0 c M2 rfl (by decide) m2
/-- bits of what is waited for, and what a win brings -/
theorem w_ready_9 (g : GI k rr G e) {p : Nat} (hp : p < 4) : ∀ (d m i : Nat) (M : zM), i + d = 25 → d < m → QK n xs c M G e → GO n xs c (fun v G' e' => v = 1 ∧ G' = G ∧ e' = e) (f_L_isReady_9 m 1000 (nI p) (gW G p) (nI i) M) := by
  have hN := (g.f.2.2.2.2.2.2.2.2.2.2 _ hp).2.1
  obtain ⟨lk, hlk⟩ := g.lk
  intro d
  induction d with
  | zero =>
    intro m i M hi hm h
    obtain ⟨m, rfl⟩ : ∃ x, m = x + 1 := ⟨m - 1, by omega⟩
    rw [f_L_isReady_9, if_pos (le_t (x := 25) 25 i (by omega) (by omega))]
    by_cases y : gW G p = 0
    · rw [if_pos ((lg_cmp_0 _ _).mpr y)]
      exact GO.r h (Nat.le_refl _) ⟨rfl, rfl, rfl⟩
    · rw [if_neg (fun u => y ((lg_cmp_0 _ _).mp u))]
      refine h.pl g hp 6 (by decide) rfl rfl fun M1 m1 => ?_
      rw [if_pos (show opl G e p 6 = 0 from (c8_0 _ (Nat.lt_succ_of_le (nrv_7 hN))).mpr ((wts_ne hN).mp y).2)]
      exact GO.r m1 (Nat.le_refl _) ⟨rfl, rfl, rfl⟩
  | succ d ih =>
    intro m i M hi hm h
    obtain ⟨m, rfl⟩ : ∃ x, m = x + 1 := ⟨m - 1, by omega⟩
    have next : ∀ M1, QK n xs c M1 G e → GO n xs c (fun v G' e' => v = 1 ∧ G' = G ∧ e' = e) (f_L_isReady_9 m 1000 (nI p) (gW G p) (nI i + 1) M1) := fun M1 h1 => by
      rw [nI_1]
      exact ih m (i + 1) M1 (by omega) (by omega) h1
    rw [f_L_isReady_9, if_neg (le_f (x := 25) 25 i (by omega) (by decide))]
    refine h.worth g hp (q := i) (by omega) hlk rfl rfl fun M1 m1 => ?_
    have bt := bt_wts (k := i) (by omega) (eN G p) (eH G p)
    have n01 : ¬ lg_cmp 0 1 = 0 := fun u => absurd ((lg_cmp_0 _ _).mp u) (by decide)
    have n11 : lg_cmp 1 1 = 0 := (lg_cmp_0 _ _).mpr rfl
    by_cases z : btk (gW G p) i = 0
    · have z' : (gW G p >>> ((nI i).toInt64 &&& 63)) &&& 1 = 0 := z
      have w1 : wth G p i lk = -1 := if_pos z
      rw [if_pos (show wth G p i lk ≤ 0 by rw [w1]; decide)]
      unfold f_L_isReady_31 f_L_isReady_47
      rw [z', if_neg n01, if_pos rfl]
      exact next M1 m1
    · have z1 : btk (gW G p) i = 1 := by
        show btk (wts (eN G p) (eH G p)) i = 1
        have z2 : ¬ btk (wts (eN G p) (eH G p)) i = 0 := z
        rw [bt] at z2 ⊢
        by_cases u : sn (eH G p) 0 25 + 3 * eN G p = 10 ∧ cmp 25 0 (u1 (eH G p) i (eH G p i + 1)) = true
        · exact if_pos u
        · exact absurd (if_neg u) z2
      have z' : (gW G p >>> ((nI i).toInt64 &&& 63)) &&& 1 = 1 := z1
      have w1 : wth G p i lk = nI (VLG false (wH G p i (eH G p i + 1)) p lk (eS G 6 - 1)) := if_neg z
      have w2 : ¬ wth G p i lk ≤ 0 := by
        have v1 : 1 ≤ VLG false (wH G p i (eH G p i + 1)) p lk (eS G 6 - 1) ∧ VLG false (wH G p i (eH G p i + 1)) p lk (eS G 6 - 1) ≤ 12 := by
          refine ⟨?_, Nat.min_le_right _ _⟩
          unfold VLG vsum
          omega
        rw [w1]
        exact le_f (y := 0) (VLG false (wH G p i (eH G p i + 1)) p lk (eS G 6 - 1)) 0 (by omega) (by omega)
      rw [if_neg w2]
      unfold f_L_isReady_31 f_L_isReady_47
      rw [z', if_pos n11, if_pos rfl]
      exact next M1 m1
theorem w_isReady (h : QK n xs c M G e) (g : GI k rr G e) {p : Nat} (hp : p < 4) {i1 : Int32} (hi : i1 = nI p) : GO n xs c (fun v G' e' => v = 1 ∧ G' = G ∧ e' = e) (f_L_isReady 1000 i1 M) := by
  subst hi
  unfold f_L_isReady f_L_isReady_0
  refine h.waits g hp rfl fun M1 m1 => ?_
  exact w_ready_9 g hp 25 zN 0 M1 rfl (by decide) m1
end OFFS
