/-! ===== THE LAW: who wins, what is thrown at all, a turn ===== -/
/-- it comes to an end, and the memory holds a game and points with Q -/
def GO {β : Type} (n : Nat) (xs : Nat → Int32) (C : Nat) (Q : β → zG → zPt → Prop) (x : Option (β × zM)) : Prop := ∃ v M' G' e', x = some (v, M') ∧ QK n xs C M' G' e' ∧ Q v G' e'
section GOS
variable {n : Nat} {xs : Nat → Int32} {c C k rr : Nat} {M : zM} {G : zG} {e : zPt}
theorem GO.r {β : Type} {Q : β → zG → zPt → Prop} {v : β} (h : QK n xs c M G e) (hc : c ≤ C) (q : Q v G e) : GO n xs C Q (some (v, M)) := ⟨v, M, G, e, rfl, h.w hc, q⟩
theorem GO.b {α γ : Type} {Q : α → zG → zPt → Prop} {x : Option (α × zM)} {P : Option γ → Prop} {f : α × zM → Option γ} (h : GO n xs C Q x) (kk : ∀ v M1 G1 e1, QK n xs C M1 G1 e1 → Q v G1 e1 → P (f (v, M1))) : P (x.bind f) := by
  obtain ⟨v, M1, G1, e1, rfl, h1, q⟩ := h
  exact kk v M1 G1 e1 h1 q
theorem P_below {γ : Type} {P : Option γ → Prop} (v : Int32) {m : Nat} (h0 : 0 < m) (h1 : m < 2 ^ 31) {i : Int32} (hi : i = nI m) {f : Int32 × zM → Option γ} (kk : ∀ b, b < m → P (f (nI b, M))) : P ((f_L_below v i M).bind f) := by
  subst hi
  obtain ⟨j, j1, j2⟩ := pk_andE v (m := 2147483647) 31 (by decide)
  have e1 : f_L_below v (nI m) M = some (nI (j % m), M) := by
    unfold f_L_below f_L_below_0
    rw [if_neg (eq_f (y := 0) m 0 (by omega) h1 (by decide)), j2]
    exact congrArg (fun z => some (z, M)) (pk_rem j1 h0 h1)
  rw [e1]
  exact kk _ (Nat.mod_lt _ h0)
theorem P_cell {γ : Type} {P : Option γ → Prop} (h : QK n xs c M G e) (hn : n ≤ 260) {j : Nat} (hj : j < 16) {i : Int32} (hi : i = nI j) {f : Int32 × zM → Option γ} (kk : ∀ v, P (f (v, M))) : P ((f_L_cell 0 i M).bind f) := by
  subst hi
  obtain ⟨s1, s2, s3⟩ := h.2.2.2.2.2.2.1
  have e1 : ∃ v, f_L_cell 0 (nI j) M = some (v, M) := by
    unfold f_L_cell f_L_cell_0
    rw [e_gL (by rw [s1]; decide) s2, Option.bind_some]
    by_cases y : n ≤ j
    · rw [if_pos (le_t n j y (by omega))]
      exact ⟨_, rfl⟩
    · rw [if_neg (le_f n j (by omega) (by omega)), show lA 0 M 0 (nI j) = some (mA M 0 j) from by
        unfold lA
        rw [if_pos ⟨Or.inr s1, nI_oob (by rw [s2]; omega) (by rw [s2]; omega)⟩, nI_cl (by omega)]]
      exact ⟨_, rfl⟩
  obtain ⟨v, e1⟩ := e1
  rw [e1]
  exact kk v
theorem gWin_4 (G : zG) (p : Nat) : eS (gWin G p) 4 = 3 := rfl
/-- whether it is let; then whether all is paid -/
theorem w_isWon (h : QK n xs c M G e) (g : GI k rr G e) (hk : k + 1 ≤ 600) {p : Nat} (hp : p < 4) {i1 : Int32} (hi1 : i1 = nI p) : GO n xs (c + 1) (fun v G' e' => GI (k + 1) rr G' e' ∧ (v = 1 ∨ (v = 0 ∧ G' = G ∧ e' = e))) (f_L_isWon 1000 i1 M) := by
  subst hi1
  unfold f_L_isWon f_L_isWon_0
  refine h.pl g hp 0 (by decide) rfl rfl fun M1 h1 => ?_
  refine h1.many g 6 (by decide) rfl fun M2 h2 => ?_
  refine h2.pl g hp 8 (by decide) rfl rfl fun M3 h3 => ?_
  refine h3.win g hp rfl (fun z M4 V v1 v2 h4 => ?_) (fun z M4 h4 => ?_)
  · have g4 := g.win hk hp v2 z
    rw [if_neg (le_f (y := 0) V 0 (by omega) (by omega)), if_neg (le_f (x := 13) 13 V (by omega) (by decide))]
    refine h4.pl g4 hp 0 (by decide) rfl rfl fun M5 h5 => ?_
    rw [if_pos (show opl (gWin G p) (eWin e p (eS G 5) (decide (eS G 4 = 1)) (nI V)) p 0 = opl G e p 0 + mny G e 6 + (12 : Int32) * nI V from by
      show (if p = p then e.1 p + 12 * nI V + e.2.2.1 else _) = e.1 p + e.2.2.1 + (12 : Int32) * nI V
      rw [if_pos rfl]
      grind)]
    refine h5.pl g4 hp 8 (by decide) rfl rfl fun M6 h6 => ?_
    rw [if_pos (show opl (gWin G p) (eWin e p (eS G 5) (decide (eS G 4 = 1)) (nI V)) p 8 = opl G e p 8 + (1 : Int32) from u1_at _ _ _)]
    refine h6.many g4 9 (by decide) rfl fun M7 h7 => ?_
    rw [if_pos (show mny (gWin G p) (eWin e p (eS G 5) (decide (eS G 4 = 1)) (nI V)) 9 = nI p from rfl)]
    refine h7.many g4 0 (by decide) rfl fun M8 h8 => ?_
    rw [if_pos (show mny (gWin G p) (eWin e p (eS G 5) (decide (eS G 4 = 1)) (nI V)) 0 = 3 from rfl)]
    refine h8.pl g4 hp 6 (by decide) rfl rfl fun M9 h9 => ?_
    rw [if_pos (win_far g.1.1 g.f hp z)]
    exact GO.r h9 (Nat.le_succ c) ⟨g4, Or.inl rfl⟩
  · rw [if_pos rfl]
    exact GO.r h4 (Nat.le_refl _) ⟨g.w (Nat.le_succ k) hk, Or.inr ⟨rfl, rfl, rfl⟩⟩
/-- some kind can be discarded -/
theorem w_thrown_2 (g : GI k rr G e) (hk : k + 1 ≤ 600) (h1 : eS G 4 = 1) : ∀ (d m i c : Nat) (M : zM), i + d = 25 → d < m → (∃ q, i ≤ q ∧ q < 25 ∧ dOk G q) → QK n xs c M G e → GO n xs (c + d) (fun v G' e' => v = 1 ∧ GI (k + 1) rr G' e') (f_L_isThrownAtAll_2 m 1000 (nI (eS G 5)) (nI i) M) := by
  have ht := g.1.1.1.2.2.2.2.2.1
  intro d
  induction d with
  | zero =>
    intro m i c M hi hm hq h
    obtain ⟨q, q1, q2, -⟩ := hq
    omega
  | succ d ih =>
    intro m i c M hi hm hq h
    obtain ⟨m, rfl⟩ : ∃ x, m = x + 1 := ⟨m - 1, by omega⟩
    rw [f_L_isThrownAtAll_2, if_neg (le_f (x := 25) 25 i (by omega) (by decide))]
    refine h.disc g (q := i) (by omega) rfl (fun z M1 h1' => ?_) (fun z M1 h1' => ?_)
    · have g1 := g.riv hk (by omega) z
      refine h1'.pl g1 ht 4 (by decide) rfl rfl fun M2 h2 => ?_
      rw [if_pos (show nI (eM G (eS G 5) + 1) = opl (gRiv G i) e (eS G 5) 4 from congrArg nI (u1_at _ _ _).symm)]
      exact GO.r h2 (by omega) ⟨rfl, g1⟩
    · rw [if_pos rfl]
      refine h1'.many g 0 (by decide) rfl fun M2 h2 => ?_
      rw [if_pos (show mny G e 0 = 1 from by show nI (eS G 4) = 1; rw [h1]; rfl), nI_1]
      obtain ⟨q, q1, q2, q3⟩ := hq
      have r := ih m (i + 1) (c + 1) M2 (by omega) (by omega) ⟨q, by
        have : q ≠ i := fun y => z (y ▸ q3)
        omega, q2, q3⟩ h2
      rw [show c + 1 + d = c + (d + 1) by omega] at r
      exact r
theorem w_thrown (h : QK n xs c M G e) (g : GI k rr G e) (hk : k + 1 ≤ 600) (h1 : eS G 4 = 1) {i1 : Int32} (hi1 : i1 = nI (eS G 5)) : GO n xs (c + 25) (fun v G' e' => v = 1 ∧ GI (k + 1) rr G' e') (f_L_isThrownAtAll 1000 i1 M) := by
  subst hi1
  obtain ⟨q, q1, q2⟩ := dsc_ex g.1.1 g.2.1.2 h1
  exact w_thrown_2 g hk h1 25 zN 0 c M rfl (by decide) ⟨q, Nat.zero_le _, q1, q2⟩ h
theorem w_thr_b (h : QK n xs c M G e) (g : GI k rr G e) (hk : k + 1 ≤ 600) (h1 : eS G 4 = 1) (hC : c + 25 ≤ C) {i1 : Int32} (hi1 : i1 = nI (eS G 5)) : GO n xs C (fun v G' e' => v = 1 ∧ GI (k + 1) rr G' e') ((f_L_isThrownAtAll 1000 i1 M).bind fun r => if r.1 = 0 ∨ r.1 = 1 then some (r.1, r.2) else none) := by
  refine (w_thrown h g hk h1 hi1).b fun v M1 G1 e1 h2 q => ?_
  dsimp only
  rw [if_pos (Or.inr q.1)]
  exact GO.r h2 hC q
theorem turn_w {G1 : zG} {e1 : zPt} {p : Nat} (g1 : GI k rr G1 e1) (hp : p < 4) (h1 : eS G1 4 ≠ 1) (h3 : eS G1 4 ≠ 3) : gW G1 p ≠ 0 ↔ opl G1 e1 p 6 = 0 := by
  have hN := (g1.f.2.2.2.2.2.2.2.2.2.2 p hp).2.1
  have hs := sz_n g1.1.1 h1 h3 hp
  show wts (eN G1 p) (eH G1 p) ≠ 0 ↔ 6 - nI (nrv (eN G1 p) (eH G1 p)) = 0
  rw [wts_ne hN, c8_0 _ (Nat.lt_succ_of_le (nrv_7 hN))]
  exact ⟨fun z => z.2, fun z => ⟨hs, z⟩⟩
/-- behind a discard: who waits is ready -/
theorem w_turn_340 (h : QK n xs c M G e) (g : GI k rr G e) {p : Nat} (hp : p < 4) (h1 : eS G 4 ≠ 1) (h3 : eS G 4 ≠ 3) {i1 v : Int32} (hi1 : i1 = nI p) (hv : v = opl G e p 6) : GO n xs c (fun v G' e' => v = 1 ∧ GI k rr G' e') (f_L_isTurn_340 1000 i1 v M) := by
  have t := turn_w g hp h1 h3
  unfold f_L_isTurn_340
  refine h.waits g hp hi1 fun M1 h2 => ?_
  by_cases y : gW G p = 0
  · have z : v ≠ 0 := fun z => t.mpr (hv ▸ z) y
    rw [if_pos ((lg_cmp_0 _ _).mpr y)]
    unfold f_L_isTurn_355
    rw [if_neg z]
    unfold f_L_isTurn_365
    rw [if_pos rfl]
    exact GO.r h2 (Nat.le_refl _) ⟨rfl, g⟩
  · have z : v = 0 := hv.trans (t.mp y)
    rw [if_neg (fun u => y ((lg_cmp_0 _ _).mp u))]
    unfold f_L_isTurn_355
    rw [if_pos z]
    unfold f_L_isTurn_365
    rw [if_pos rfl]
    exact GO.r h2 (Nat.le_refl _) ⟨rfl, g⟩
theorem u2_self {α : Type} (f : Nat → Nat → α) (t k : Nat) (v : α) : u2 f t k v t = u1 (f t) k v := u2_row f t k v
theorem w_turn_182 (h : QK n xs c M G e) (g : GI k rr G e) (hk : k + 1 ≤ 600) (h1 : eS G 4 = 1) {b q : Nat} (hq : q < 25) (hb25 : b < 25) (hb : nrv (eN G (eS G 5)) (u1 (eH G (eS G 5)) b (eH G (eS G 5) b - 1)) = min (nrv (eN G (eS G 5)) (eH G (eS G 5))) 6) {x : Int32} {i3 i4 i5 i6 i7 i8 i9 : Int32} (e3 : i3 = nI (eS G 5)) (e4 : i4 = nI b) (e5 : i5 = opl G e (eS G 5) 6) (e6 : i6 = nI q) (e7 : i7 = nI (eM G (eS G 5))) (e8 : i8 = nI (eH G (eS G 5) q)) (e9 : i9 = b32 (eC G (eS G 5))) : GO n xs (c + 26) (fun v G' e' => v = 1 ∧ GI (k + 1) rr G' e') (f_L_isTurn_182 1000 x i3 i4 i5 i6 i7 i8 i9 M) := by
  subst e3 e4 e5 e6 e7 e8 e9
  have ht := g.1.1.1.2.2.2.2.2.1
  have hN := (g.f.2.2.2.2.2.2.2.2.2.2 _ ht).2.1
  have hM := (g.f.2.2.2.2.2.2.2.2.2.2 _ ht).2.2.1
  unfold f_L_isTurn_182
  refine P_below _ (m := 2) (by decide) (by decide) rfl fun r _ => ?_
  dsimp only
  by_cases y : nI r = 0
  · rw [if_pos y]
    refine h.pl g ht 0 (by decide) rfl rfl fun M1 m1 => ?_
    refine m1.call g hq rfl (fun z M2 m2 => ?_) (fun z M2 m2 => ?_)
    · have z' := of_decide_eq_true z
      have g2 := g.cr hk hq z
      rw [if_pos (show e.1 (eS G 5) - 10 = opl G e (eS G 5) 0 - (10 : Int32) from rfl)]
      have w0 : gW (gRiv (gCal G (eS G 5)) q) (eS G 5) ≠ 0 := by
        show wts (eN G (eS G 5)) (u2 (eH G) (eS G 5) q (eH G (eS G 5) q - 1) (eS G 5)) ≠ 0
        rw [u2_self]
        exact z'.2.2.2.2
      refine m2.pl g2 ht 6 (by decide) rfl rfl fun M3 m3 => ?_
      rw [if_pos ((turn_w g2 ht (show ¬ (2 : Nat) = 1 by decide) (show ¬ (2 : Nat) = 3 by decide)).mp w0)]
      refine m3.waits g2 ht rfl fun M4 m4 => ?_
      rw [if_neg (fun u => w0 ((lg_cmp_0 _ _).mp u))]
      refine m4.pl g2 ht 2 (by decide) rfl rfl fun M5 m5 => ?_
      rw [if_pos (show opl (gRiv (gCal G (eS G 5)) q) (eCal e (eS G 5)) (eS G 5) 2 = 0 from congrArg nI z'.2.1), if_pos (show b32 (eC G (eS G 5)) = 0 by rw [z'.2.2.1]; rfl)]
      exact GO.r m5 (by omega) ⟨rfl, g2⟩
    · rw [if_pos rfl]
      exact w_thr_b m2 g hk h1 (by omega) rfl
  · rw [if_neg y]
    refine h.disc g hq rfl (fun z M2 m2 => ?_) (fun z M2 m2 => ?_)
    · have g2 := g.riv hk hq z
      have eH' : eH (gRiv G q) (eS G 5) = u1 (eH G (eS G 5)) q (eH G (eS G 5) q - 1) := u2_self _ _ _ _
      rw [if_pos (show nI (eM G (eS G 5) + 1) = nI (eM G (eS G 5)) + (1 : Int32) from (nI_1 _).symm)]
      refine m2.river g2 ht (j := eM G (eS G 5)) (by show _ < u1 (eM G) (eS G 5) (eM G (eS G 5) + 1) (eS G 5); rw [u1_at]; omega) rfl rfl fun M3 m3 => ?_
      rw [if_pos (show nI (eR (gRiv G q) (eS G 5) (eM G (eS G 5))) = nI q from congrArg nI (u2_at _ _ _ _))]
      refine m3.has ht hq rfl rfl fun M4 m4 => ?_
      have z2 := z.2.1
      rw [if_pos (show nI (eH (gRiv G q) (eS G 5) q) = nI (eH G (eS G 5) q) - (1 : Int32) from by
        rw [eH', u1_at]
        exact (pk_sub (b := 1) (by omega)).symm)]
      refine m4.pl g2 ht 6 (by decide) rfl rfl fun M5 m5 => ?_
      have f1 : opl (gRiv G q) e (eS G 5) 6 = 6 - nI (nrv (eN G (eS G 5)) (u1 (eH G (eS G 5)) q (eH G (eS G 5) q - 1))) := by
        show 6 - nI (nrv (eN G (eS G 5)) (eH (gRiv G q) (eS G 5))) = _
        rw [eH']
      have l7 : nrv (eN G (eS G 5)) (eH G (eS G 5)) < 8 := Nat.lt_succ_of_le (nrv_7 hN)
      have l7' : nrv (eN G (eS G 5)) (u1 (eH G (eS G 5)) q (eH G (eS G 5) q - 1)) < 8 := Nat.lt_succ_of_le (nrv_7 hN)
      have f2 : opl G e (eS G 5) 6 = 6 - nI (nrv (eN G (eS G 5)) (eH G (eS G 5))) := rfl
      rw [if_neg (show ¬ opl (gRiv G q) e (eS G 5) 6 < opl G e (eS G 5) 6 from by
        rw [f1, f2, c8_lt _ l7' _ l7]
        have := nrv_less (N := eN G (eS G 5)) (g := eH G (eS G 5)) (k := q)
        omega)]
      by_cases u : nI q = nI b
      · have eqb : q = b := Classical.byContradiction fun w => eq_f (x := nI q) (y := nI b) q b w (by omega) (by omega) rfl rfl u
        subst eqb
        have mx : f_J9_max_7cf53 (0 : Int32) (opl G e (eS G 5) 6) M5 = some (6 - nI (min (nrv (eN G (eS G 5)) (eH G (eS G 5))) 6), M5) := by
          unfold f_J9_max_7cf53 f_J9_max_7cf53_0
          rw [f2]
          rcases c8_max _ l7 with ⟨c1, c2⟩ | ⟨c1, c2⟩
          · rw [if_pos c1, ← c2]
          · rw [if_neg c1, ← c2]
        rw [if_pos rfl, mx, Option.bind_some]
        dsimp only
        rw [if_pos (show opl (gRiv G q) e (eS G 5) 6 = 6 - nI (min (nrv (eN G (eS G 5)) (eH G (eS G 5))) 6) from by rw [f1, hb])]
        obtain ⟨v, M', G', e', r1, r2, r3⟩ := w_turn_340 m5 g2 ht (show ¬ (2 : Nat) = 1 by decide) (show ¬ (2 : Nat) = 3 by decide) rfl rfl
        exact ⟨v, M', G', e', r1, r2.w (by omega), r3⟩
      · rw [if_neg u]
        obtain ⟨v, M', G', e', r1, r2, r3⟩ := w_turn_340 m5 g2 ht (show ¬ (2 : Nat) = 1 by decide) (show ¬ (2 : Nat) = 3 by decide) rfl rfl
        exact ⟨v, M', G', e', r1, r2.w (by omega), r3⟩
    · rw [if_pos rfl]
      exact w_thr_b m2 g hk h1 (by omega) rfl
theorem w_turn_102 (h : QK n xs c M G e) (g : GI k rr G e) (hk : k + 1 ≤ 600) (h1 : eS G 4 = 1) {b q : Nat} (hq : q < 25) (hb25 : b < 25) (hb : nrv (eN G (eS G 5)) (u1 (eH G (eS G 5)) b (eH G (eS G 5) b - 1)) = min (nrv (eN G (eS G 5)) (eH G (eS G 5))) 6) {x : Int32} {i3 i4 i5 i6 i7 i8 i9 : Int32} (e3 : i3 = nI (eS G 5)) (e4 : i4 = nI b) (e5 : i5 = opl G e (eS G 5) 6) (e6 : i6 = nI q) (e7 : i7 = nI (eM G (eS G 5))) (e8 : i8 = nI (eH G (eS G 5) q)) (e9 : i9 = b32 (eC G (eS G 5))) : GO n xs (c + 26) (fun v G' e' => v = 1 ∧ GI (k + 1) rr G' e') (f_L_isTurn_102 1000 x i3 i4 i5 i6 i7 i8 i9 M) := by
  have ht := g.1.1.1.2.2.2.2.2.1
  have go : ∀ M1, QK n xs c M1 G e → GO n xs (c + 26) (fun v G' e' => v = 1 ∧ GI (k + 1) rr G' e') (f_L_isTurn_182 1000 x i3 i4 i5 i6 i7 i8 i9 M1) := fun M1 m1 => w_turn_182 m1 g hk h1 hq hb25 hb e3 e4 e5 e6 e7 e8 e9
  unfold f_L_isTurn_102
  refine P_below _ (m := 3) (by decide) (by decide) rfl fun r _ => ?_
  dsimp only
  by_cases y : nI r = 0
  · rw [if_pos y]
    by_cases y4 : i8 = 4
    · rw [if_pos y4]
      refine h.pl g ht 1 (by decide) e3 rfl fun M1 m1 => ?_
      refine m1.four g hq e6 (fun z M2 m2 => ?_) (fun z M2 m2 => ?_)
      · have g2 := g.four hk hq z
        have z4 := of_decide_eq_true z.2.2.2
        refine m2.ofSet g2 ht (j := eN G (eS G 5)) (by show _ < u1 (eN G) (eS G 5) (eN G (eS G 5) + 1) (eS G 5); rw [u1_at]; omega) e3 rfl fun M3 m3 => ?_
        rw [if_pos (show nI (eV (gDF (gSet G (eS G 5) 3 q)) (eS G 5) (eN G (eS G 5))) = (300 : Int32) + i6 from by
          have e10 : eV (gDF (gSet G (eS G 5) 3 q)) (eS G 5) (eN G (eS G 5)) = 100 * 3 + q := u2_at _ _ _ _
          rw [e10, e6]
          exact (nI_add 300 q).symm)]
        refine m3.has ht (gK_lt G (99 - eS G 3)) e3 rfl fun M4 m4 => ?_
        have e11 : eH (gDF (gSet G (eS G 5) 3 q)) (eS G 5) (gK G (99 - eS G 3)) = eH (gSet G (eS G 5) 3 q) (eS G 5) (gK G (99 - eS G 3)) + 1 := u2_at _ _ _ _
        have e12 := (g2.f.2.2.2.2.2.2.2.2.2.2 _ ht).1 (gK G (99 - eS G 3)) (gK_lt _ _)
        rw [if_neg (le_f (y := 0) (eH (gDF (gSet G (eS G 5) 3 q)) (eS G 5) (gK G (99 - eS G 3))) 0 (by omega) (by omega)), if_pos (show i9 = 0 by rw [e9, z.2.1]; rfl)]
        refine m4.many g2 5 (by decide) rfl fun M5 m5 => ?_
        rw [if_neg (show ¬ (5 : Int32) ≤ mny (gDF (gSet G (eS G 5) 3 q)) e 5 from le_f (x := 5) 5 (eS G 3 + 1) (by omega) (by decide))]
        exact GO.r m5 (by omega) ⟨rfl, g2⟩
      · rw [if_pos rfl]
        exact w_thr_b m2 g hk h1 (by omega) e3
    · rw [if_neg y4]
      exact go M h
  · rw [if_neg y]
    exact go M h
theorem w_turn_56 (h : QK n xs c M G e) (g : GI k rr G e) (hk : k + 1 ≤ 600) (h1 : eS G 4 = 1) {b q : Nat} (hq : q < 25) (hb25 : b < 25) (hb0 : eH G (eS G 5) b ≠ 0) (hb : nrv (eN G (eS G 5)) (u1 (eH G (eS G 5)) b (eH G (eS G 5) b - 1)) = min (nrv (eN G (eS G 5)) (eH G (eS G 5))) 6) {x : Int32} {i3 i4 i5 i6 : Int32} (e3 : i3 = nI (eS G 5)) (e4 : i4 = nI b) (e5 : i5 = opl G e (eS G 5) 6) (e6 : i6 = nI q) : GO n xs (c + 26) (fun v G' e' => v = 1 ∧ GI (k + 1) rr G' e') (f_L_isTurn_56 1000 x i3 i4 i5 i6 M) := by
  have ht := g.1.1.1.2.2.2.2.2.1
  have b4 := (g.f.2.2.2.2.2.2.2.2.2.2 _ ht).1 b hb25
  unfold f_L_isTurn_56
  refine h.has ht hb25 e3 e4 fun M1 m1 => ?_
  rw [if_neg (eq_f (y := 0) (eH G (eS G 5) b) 0 hb0 (by omega) (by decide))]
  refine m1.pl g ht 4 (by decide) e3 rfl fun M2 m2 => ?_
  refine m2.has ht hq e3 e6 fun M3 m3 => ?_
  refine m3.pl g ht 5 (by decide) e3 rfl fun M4 m4 => ?_
  have e5' : opl G e (eS G 5) 5 = b32 (eC G (eS G 5)) := rfl
  by_cases y : eC G (eS G 5) = true
  · rw [e5', if_pos (show b32 (eC G (eS G 5)) = 1 by rw [y]; rfl)]
    exact w_turn_102 m4 g hk h1 hq hb25 hb e3 e4 e5 e6 rfl rfl (by rw [y]; rfl)
  · have y' : eC G (eS G 5) = false := by cases hx : eC G (eS G 5); rfl; exact absurd hx y
    rw [e5', if_neg (show ¬ b32 (eC G (eS G 5)) = 1 by rw [y']; decide)]
    exact w_turn_102 m4 g hk h1 hq hb25 hb e3 e4 e5 e6 rfl rfl (by rw [y']; rfl)
theorem w_turn_37 (h : QK n xs c M G e) (g : GI k rr G e) (hk : k + 1 ≤ 600) (h1 : eS G 4 = 1) {b : Nat} (hb25 : b < 25) (hb0 : eH G (eS G 5) b ≠ 0) (hb : nrv (eN G (eS G 5)) (u1 (eH G (eS G 5)) b (eH G (eS G 5) b - 1)) = min (nrv (eN G (eS G 5)) (eH G (eS G 5))) 6) {x y : Int32} {i3 i4 i5 : Int32} (e3 : i3 = nI (eS G 5)) (e4 : i4 = nI b) (e5 : i5 = opl G e (eS G 5) 6) : GO n xs (c + 26) (fun v G' e' => v = 1 ∧ GI (k + 1) rr G' e') (f_L_isTurn_37 1000 x y i3 i4 i5 M) := by
  unfold f_L_isTurn_37
  refine P_below _ (m := 3) (by decide) (by decide) rfl fun r _ => ?_
  dsimp only
  by_cases z : nI r ≤ 0
  · rw [if_pos z]
    refine P_below _ (m := 25) (by decide) (by decide) rfl fun q hq => ?_
    exact w_turn_56 h g hk h1 hq hb25 hb0 hb e3 e4 e5 rfl
  · rw [if_neg z]
    exact w_turn_56 h g hk h1 hb25 hb25 hb0 hb e3 e4 e5 e4
/-- a turn -/
theorem w_isTurn (h : QK n xs c M G e) (g : GI k rr G e) (hk : k + 2 ≤ 600) (h1 : eS G 4 = 1) (x y : Int32) : GO n xs (c + 27) (fun v G' e' => v = 1 ∧ GI (k + 2) rr G' e') (f_L_isTurn 1000 x y M) := by
  have ht := g.1.1.1.2.2.2.2.2.1
  obtain ⟨b, b1, b2, b3, b4⟩ := best_sp g.1.1 g.f h1
  have e1 : mny G e 1 = nI (eS G 5) := if_neg (by omega)
  unfold f_L_isTurn f_L_isTurn_0
  refine h.many g 1 (by decide) rfl fun M1 m1 => ?_
  refine m1.best g fun M2 m2 => ?_
  dsimp only
  refine m2.pl g ht 6 (by decide) e1 rfl fun M3 m3 => ?_
  have last : ∀ M4, QK n xs (c + 1) M4 G e → GI (k + 1) rr G e → GO n xs (c + 27) (fun v G' e' => v = 1 ∧ GI (k + 2) rr G' e') (f_L_isTurn_37 1000 x y (mny G e 1) (bsv G) (opl G e (eS G 5) 6) M4) := fun M4 m4 g4 => by
    have r := w_turn_37 m4 g4 (by omega) h1 b1 b3 b4 (x := x) (y := y) e1 b2 rfl
    rw [show c + 1 + 26 = c + 27 by omega] at r
    exact r
  by_cases z : opl G e (eS G 5) 6 = -1
  · rw [if_pos z]
    refine (w_isWon m3 g (by omega) ht e1).b fun v M4 G4 e4 m4 q => ?_
    dsimp only
    obtain ⟨g4, q | ⟨q1, q2, q3⟩⟩ := q
    · rw [if_neg (show ¬ v = 0 by rw [q]; decide)]
      exact GO.r m4 (by omega) ⟨rfl, g4.w (by omega) hk⟩
    · rw [if_pos q1]
      subst q2 q3
      exact last M4 m4 g4
  · rw [if_neg z]
    exact last M3 (m3.w (Nat.le_succ c)) (g.w (Nat.le_succ k) (by omega))
end GOS
