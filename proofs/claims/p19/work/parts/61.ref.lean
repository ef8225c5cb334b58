/-! ===== PURE, THE REFERENCE: lay on the game ===== -/
/-- a list is emptied -/
def CL (M M' : zM) (d n : Nat) : Prop := (mK M' = mK M ∧ mL M' = mL M ∧ mR M' = mR M ∧ mX M' = mX M ∧ mS M' = mS M) ∧ (∀ b, b ≠ d → mQ M' b = mQ M b) ∧ (n = 0 → M' = M)
section RLAY
variable {I : Nat → Nat → Int32} {J : Nat → Nat → Int64} {A : Nat → Nat → Int32} {M : zM} {G : zG} {hp dl : Nat → Nat}
theorem r_clear_27 {d n : Nat} : ∀ (e f i : Nat) (M : zM), i + e = n → e < f → (0 < e → mK M d = 110 ∧ n ≤ mL M d ∧ mL M d ≤ 1000) → n < 1000 → ∃ M', f_Jx4a65c_clear_da8c8_27 f d (nI n) (nI i) (cs I J A M) = some ((), cs I J A M') ∧ CL M M' d e := by
  intro e
  induction e with
  | zero =>
    intro f i M hi hf hd hn
    obtain ⟨f, rfl⟩ : ∃ m, f = m + 1 := ⟨f - 1, by omega⟩
    refine ⟨M, ?_, ⟨rfl, rfl, rfl, rfl, rfl⟩, fun _ _ => rfl, fun _ => rfl⟩
    rw [f_Jx4a65c_clear_da8c8_27, if_pos (le_t n i (by omega) (by omega))]
  | succ e ih =>
    intro f i M hi hf hd hn
    obtain ⟨f, rfl⟩ : ∃ m, f = m + 1 := ⟨f - 1, by omega⟩
    obtain ⟨d1, d2, d3⟩ := hd (by omega)
    obtain ⟨M', q1, ⟨c1, c2, c3, c4, c5⟩, q2, q3⟩ := ih f (i + 1) (sQ M d i none) (by omega) (by omega) (fun _ => ⟨d1, d2, d3⟩) hn
    refine ⟨M', ?_, ⟨c1, c2, c3, c4, c5⟩, fun b hb => (q2 b hb).trans (funext fun j => if_neg (fun z => hb z.1)), fun z => by omega⟩
    have et : tQ 0 (cs I J A M) d (nI i) none = some (cs I J A (sQ M d i none)) := e_tQ (t := 0) (M := cs I J A M) d1 (by show i < mL M d; omega) (by show mL M d < _; omega)
    rw [f_Jx4a65c_clear_da8c8_27, if_neg (le_f n i (by omega) (by omega)), et, Option.bind_some, nI_1]
    exact q1
theorem r_clear {l d n : Nat} (hk : mK M l = 5) (hd : mR M 161 l = some d) (hn : I 162 l = nI n) (hc : 0 < n → mK M d = 110 ∧ n ≤ mL M d ∧ mL M d ≤ 1000) (hn64 : n ≤ 64) : ∃ v M', f_Jx4a65c_clear_da8c8 l (cs I J A M) = some ((), cs (u2 (u2 I 160 l v) 162 l 0) J A M') ∧ CL M M' d n := by
  obtain ⟨M', q1, q2⟩ := r_clear_27 (I := u2 (u2 I 160 l (I 160 l + 1)) 162 l 0) (J := J) (A := A) (d := d) (n := n) n zN 0 M (by omega) (by show n < 130; omega) hc (by omega)
  refine ⟨I 160 l + 1, M', ?_, q2⟩
  unfold f_Jx4a65c_clear_da8c8 f_Jx4a65c_clear_da8c8_0
  rw [gI_cs 160 hk, Option.bind_some, pI_cs 160 hk, Option.bind_some, gR_cs 161 hk hd, Option.bind_some, gI_cs 162 hk, Option.bind_some, pI_cs 162 hk, Option.bind_some, show u2 I 160 l (I 160 l + 1) 162 l = nI n from hn]
  exact q1
theorem RS.cl {M' : zM} {d n : Nat} (h : RS M hp dl) (c : CL M M' d n) (hd : 0 < n → mK M d = 110) : RS M' hp dl := by
  obtain ⟨⟨c1, c2, c3, c4, c5⟩, q2, q3⟩ := c
  rcases Nat.eq_zero_or_pos n with z | z
  · rw [q3 z]; exact h
  · have hd' := hd z
    obtain ⟨⟨m1, m2, m3, m4, m5, m6, m7, m8⟩, hpl, hh, hinj, hd'', hdj, ⟨⟨j1, j2⟩, ⟨j3, j4, j5⟩, j6⟩, hX⟩ := h
    unfold RS
    rw [c1, c2, c3, c4, q2 1027 (fun z => by rw [← z, m4] at hd'; omega), q2 5 (fun z => by rw [← z, j3] at hd'; omega)]
    exact ⟨⟨m1, m2, m3, m4, m5, m6, m7, m8⟩, hpl, hh, hinj, hd'', hdj, ⟨⟨j1, j2⟩, ⟨j3, j4, j5⟩, j6⟩, hX⟩
theorem RS.newhand (h : RS M hp dl) {p : Nat} (hp4 : p < 4) : RS (sR (nA M 0 25) 386 (1028 + 4 * p) (some (mX M))) (u1 hp p (mX M)) dl := by
  have hS := h.st (ST.nA M 0 25)
  obtain ⟨⟨m1, m2, m3, m4, m5, m6, m7, m8⟩, hpl, hh, hinj, hd, hdj, hj, hX⟩ := hS
  have hX0 := h.2.2.2.2.2.2.2
  have hh0 := h.2.2.1
  refine ⟨⟨m1, m2, m3, m4, m5, m6, m7, m8⟩, fun c hc => ?_, fun c hc => ?_, fun c e hc he q => ?_, hd, hdj, hj, hX⟩
  · obtain ⟨a1, a2, a3, a4, a5, a6⟩ := hpl c hc
    refine ⟨a1, ?_, a3, a4, a5, a6⟩
    show u2 (mR (nA M 0 25)) 386 (1028 + 4 * p) (some (mX M)) 386 (1028 + 4 * c) = some (u1 hp p (mX M) c)
    unfold u2 u1
    by_cases y : c = p
    · rw [if_pos y, if_pos ⟨rfl, by omega⟩]
    · rw [if_neg y, if_neg (by omega)]
      exact a2
  · by_cases y : c = p
    · rw [y, u1_at]
      exact ⟨u1_at _ _ _, u1_at _ _ _, by omega, by omega, Nat.lt_succ_self _⟩
    · rw [u1_ne _ _ y]
      exact hh c hc
  · by_cases y : c = p
    · by_cases z : e = p
      · rw [y, z]
      · rw [y, u1_at, u1_ne _ _ z] at q
        have := (hh0 e he).2.2.2.2
        omega
    · by_cases z : e = p
      · rw [z, u1_at, u1_ne _ _ y] at q
        have := (hh0 c hc).2.2.2.2
        omega
      · rw [u1_ne _ _ y, u1_ne _ _ z] at q
        exact hinj c e hc he q
theorem RNQ.hand (h : RNQ I J A M G hp dl) (g : RS M hp dl) {p k v : Nat} (hp4 : p < 4) : RNQ I J (u2 A (hp p) k (nI v)) M (wH G p k v) hp dl := by
  obtain ⟨q, w⟩ := h
  refine ⟨fun c hc => ?_, w⟩
  obtain ⟨a, b⟩ := q c hc
  refine ⟨fun j hj => ?_, b⟩
  show u2 A (hp p) k (nI v) (hp c) j = nI (u2 (eH G) p k v c j)
  unfold u2
  by_cases y : c = p ∧ j = k
  · rw [if_pos y, if_pos ⟨by rw [y.1], y.2⟩]
  · rw [if_neg y, if_neg (fun z => y ⟨g.2.2.2.1 c p hc hp4 z.1, z.2⟩)]
    exact a j hj
theorem r_begin (h : RS M hp dl) (hn : RNQ I J A M G hp dl) {p : Nat} (hp4 : p < 4) (hN : eN G p ≤ 3) (hM : eM G p ≤ 60) : ∃ I' J' A' M', f_X6_begin (1028 + 4 * p) (cs I J A M) = some ((), cs I' J' A' M') ∧ RS M' (u1 hp p (mX M)) dl ∧ RNQ I' J' A' M' (gClr G p) (u1 hp p (mX M)) dl ∧ (∀ k, I' k 1026 = I k 1026) ∧ (∀ t, A' 1044 t = A 1044 t) ∧ mX M' = mX M + 1 ∧ mS M' = mS M + 25 := by
  have hX := h.2.2.2.2.2.2.2
  have l1 : isL (1030 + 4 * p) := ⟨p, hp4, Or.inl rfl⟩
  have l2 : isL (1031 + 4 * p) := ⟨p, hp4, Or.inr rfl⟩
  have hS := h.newhand hp4
  obtain ⟨n1, ⟨v1, v2, v3, v4⟩, ⟨r1, r2, r3, r4⟩, -⟩ := hn.1 p hp4
  have kd : ∀ l, isL l → dl l ≠ 4 → mK (sR (nA M 0 25) 386 (1028 + 4 * p) (some (mX M))) (dl l) = 110 ∧ mL (sR (nA M 0 25) 386 (1028 + 4 * p) (some (mX M))) (dl l) = mL M (dl l) ∧ mL M (dl l) ≤ 1000 := fun l hl h4 => by
    obtain ⟨z1, z2, z3, z4, z5⟩ := (h.2.2.2.2.1 l hl).2.resolve_left h4
    exact ⟨(if_neg (Nat.ne_of_lt z2)).trans z3, if_neg (Nat.ne_of_lt z2), z4⟩
  obtain ⟨k1, k2, k3⟩ := hS.list l1
  obtain ⟨x1, M3, e1, c1⟩ := r_clear (I := I) (J := J) (A := ur A (mX M) fun _ => 0) (M := sR (nA M 0 25) 386 (1028 + 4 * p) (some (mX M))) k1 k2 v1 (fun z => by
    have h4 : dl (1030 + 4 * p) ≠ 4 := fun q => by have := v2 q; omega
    obtain ⟨a, b, c⟩ := kd _ l1 h4
    exact ⟨a, by rw [b]; exact v3 h4, by rw [b]; exact c⟩) (by omega)
  have hS3 := hS.cl c1 (fun z => (kd _ l1 (fun q => by have := v2 q; omega)).1)
  obtain ⟨k4, k5, k6⟩ := hS3.list l2
  obtain ⟨x2, M4, e2, c2⟩ := r_clear (I := u2 (u2 I 160 (1030 + 4 * p) x1) 162 (1030 + 4 * p) 0) (J := J) (A := ur A (mX M) fun _ => 0) (M := M3) k4 k5 (n := eM G p) ((if_neg (fun z => by have := z.2; omega)).trans ((if_neg (fun z => by have := z.2; omega)).trans r1)) (fun z => by
    have h4 : dl (1031 + 4 * p) ≠ 4 := fun q => by have := r2 q; omega
    obtain ⟨a, b, c⟩ := kd _ l2 h4
    rw [c1.1.1, c1.1.2.1]
    exact ⟨a, by rw [b]; exact r3 h4, by rw [b]; exact c⟩) (by omega)
  have hS4 := hS3.cl c2 (fun z => by rw [c1.1.1]; exact (kd _ l2 (fun q => by have := r2 q; omega)).1)
  have hs1 := h.2.1 p hp4
  have hs2 := hS.2.1 p hp4
  have hs3 := hS3.2.1 p hp4
  have hs4 := hS4.2.1 p hp4
  refine ⟨u2 (u2 (u2 (u2 (u2 I 160 (1030 + 4 * p) x1) 162 (1030 + 4 * p) 0) 160 (1031 + 4 * p) x2) 162 (1031 + 4 * p) 0) 390 (1028 + 4 * p) 0, u2 J 389 (1028 + 4 * p) 0, ur A (mX M) fun _ => 0, M4, ?_, hS4, ⟨fun c hc => ?_, fun i hi => ?_⟩, fun k => ?_, fun t => ur_ne _ _ _ (by omega), ?_, ?_⟩
  · unfold f_X6_begin f_X6_begin_0
    have ea : aA 0 (cs I J A M) 25 = some (mX M, cs I J (ur A (mX M) fun _ => 0) (nA M 0 25)) := aA_cs (c := 25) (by decide) 0
    have ep : pR 12 2 (cs I J (ur A (mX M) fun _ => 0) (nA M 0 25)) (1028 + 4 * p) (mX M) = some (cs I J (ur A (mX M) fun _ => 0) (sR (nA M 0 25) 386 (1028 + 4 * p) (some (mX M)))) := e_pR (M := cs I J (ur A (mX M) fun _ => 0) (nA M 0 25)) 386 hs2.1
    rw [ea, Option.bind_some]
    dsimp only
    rw [ep, Option.bind_some, gR_cs 387 hs2.1 hs2.2.2.1, Option.bind_some, if_pos (show mK (cs I J _ (sR (nA M 0 25) 386 (1028 + 4 * p) (some (mX M)))) (1030 + 4 * p) = 5 from k1), e1, Option.bind_some]
    dsimp only
    rw [gR_cs 388 hs3.1 hs3.2.2.2.1, Option.bind_some, if_pos (show mK (cs _ J _ M3) (1031 + 4 * p) = 5 from k4), e2, Option.bind_some]
    dsimp only
    rw [pJ_cs 389 hs4.1, Option.bind_some, pZ_cs 390 hs4.1 (Or.inl rfl), Option.bind_some]
  · obtain ⟨a, ⟨b1, b2, b3, b4⟩, ⟨d1, d2, d3, d4⟩, f1, f2⟩ := hn.1 c hc
    have hmL : ∀ b, b < mX M → mL M4 b = mL M b := fun b hb => by
      rw [c2.1.2.1, c1.1.2.1]
      exact if_neg (Nat.ne_of_lt hb)
    by_cases y : c = p
    · subst y
      have q1 : eN (gClr G c) c = 0 := u1_at _ _ _
      have q2 : eM (gClr G c) c = 0 := u1_at _ _ _
      refine ⟨fun k hk => ?_, ?_, ?_, ?_, ?_⟩
      · rw [u1_at, ur_at]
        show (0 : Int32) = nI (if c = c ∧ k < 25 then 0 else eH G c k)
        rw [if_pos ⟨rfl, hk⟩]
        rfl
      · rw [q1]
        refine ⟨?_, fun _ => rfl, fun _ => Nat.zero_le _, fun j hj => absurd hj (Nat.not_lt_zero _)⟩
        exact (if_neg (fun z => by have := z.2; omega)).trans ((if_neg (fun z => by have := z.2; omega)).trans ((if_neg (fun z => by have := z.2; omega)).trans (u2_at _ _ _ _)))
      · rw [q2]
        refine ⟨?_, fun _ => rfl, fun _ => Nat.zero_le _, fun j hj => absurd hj (Nat.not_lt_zero _)⟩
        exact (if_neg (fun z => by have := z.2; omega)).trans (u2_at _ _ _ _)
      · exact (u2_at _ _ _ _).trans (u1_at _ _ _).symm
      · refine (u2_at _ _ _ _).trans ?_
        show (0 : Int32) = b32 (u1 (eC G) c false c)
        rw [u1_at]
        rfl
    · have q1 : eN (gClr G p) c = eN G c := u1_ne _ _ y
      have q2 : eM (gClr G p) c = eM G c := u1_ne _ _ y
      have lc1 : isL (1030 + 4 * c) := ⟨c, hc, Or.inl rfl⟩
      have lc2 : isL (1031 + 4 * c) := ⟨c, hc, Or.inr rfl⟩
      have keepQ : ∀ l n, isL l → l ≠ 1030 + 4 * p → l ≠ 1031 + 4 * p → (dl l = 4 → n = 0) → 0 < n → mQ M4 (dl l) = mQ M (dl l) := fun l n hl g1 g2 g3 g4 => by
        have a1 : dl l ≠ dl (1030 + 4 * p) := fun z => by
          rcases h.2.2.2.2.2.1 l _ hl l1 z with q | q
          · have := g3 q; omega
          · exact g1 q
        have a2 : dl l ≠ dl (1031 + 4 * p) := fun z => by
          rcases h.2.2.2.2.2.1 l _ hl l2 z with q | q
          · have := g3 q; omega
          · exact g2 q
        rw [c2.2.1 _ a2, c1.2.1 _ a1]
        rfl
      refine ⟨fun k hk => ?_, ?_, ?_, ?_, ?_⟩
      · rw [u1_ne _ _ y, ur_ne _ _ _ (Nat.ne_of_lt (h.2.2.1 c hc).2.2.2.2), a k hk]
        exact congrArg nI (if_neg (fun z => y z.1)).symm
      · rw [q1]
        refine ⟨?_, b2, fun z => by rw [hmL _ (h.d_lt lc1)]; exact b3 z, fun j hj => ?_⟩
        · exact (if_neg (fun z => by have := z.2; omega)).trans ((if_neg (fun z => by have := z.2; omega)).trans ((if_neg (fun z => by have := z.2; omega)).trans ((if_neg (fun z => by have := z.2; omega)).trans ((if_neg (fun z => by have := z.2; omega)).trans b1))))
        · obtain ⟨o, o1, o2, o3, o4, o5⟩ := b4 j hj
          refine ⟨o, by rw [keepQ _ _ lc1 (by omega) (by omega) b2 (by omega)]; exact o1, ?_, ?_, o4, o5⟩
          · rw [c2.1.1, c1.1.1]
            exact (if_neg (Nat.ne_of_lt o3)).trans o2
          · rw [c2.1.2.2.2.1, c1.1.2.2.2.1]
            exact Nat.lt_succ_of_lt o3
      · rw [q2]
        refine ⟨?_, d2, fun z => by rw [hmL _ (h.d_lt lc2)]; exact d3 z, fun j hj => ?_⟩
        · exact (if_neg (fun z => by have := z.2; omega)).trans ((if_neg (fun z => by have := z.2; omega)).trans ((if_neg (fun z => by have := z.2; omega)).trans ((if_neg (fun z => by have := z.2; omega)).trans ((if_neg (fun z => by have := z.2; omega)).trans d1))))
        · rw [keepQ _ _ lc2 (by omega) (by omega) d2 (by omega)]
          exact d4 j hj
      · exact (if_neg (fun z => by have := z.2; omega)).trans (f1.trans (u1_ne _ _ y).symm)
      · refine ((if_neg (fun z => by have := z.2; omega)).trans f2).trans ?_
        exact congrArg b32 (u1_ne (eC G) false y).symm
  · exact hn.2 i hi
  · exact (if_neg (fun z => by have := z.2; omega)).trans ((if_neg (fun z => by have := z.2; omega)).trans ((if_neg (fun z => by have := z.2; omega)).trans ((if_neg (fun z => by have := z.2; omega)).trans (if_neg (fun z => by have := z.2; omega)))))
  · rw [c2.1.2.2.2.1, c1.1.2.2.2.1]; rfl
  · rw [c2.1.2.2.2.2, c1.1.2.2.2.2]; rfl
end RLAY
