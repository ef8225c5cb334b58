/-! ===== PURE, THE REFERENCE: iterators, open sets, draw, discard ===== -/
theorem vb_28 : ∀ k : Nat, k < 25 → vb_c (128 + k) = nI k := by decide +kernel
theorem KM.sI {c s : Nat} {M0 M : zM} {a : Nat} (h : KM c s M0 M) (ha : mX M0 ≤ a) (k : Nat) (v : Int32) : KM c s M0 (sI M k a v) :=
  ⟨h.1, fun b hb => by
    obtain ⟨h1, h2, h3, h4⟩ := h.2 b hb
    exact ⟨h1, h2, fun q => (if_neg (fun z => by have := z.2; omega)).trans (h3 q), h4⟩⟩
theorem KM.sR {c s : Nat} {M0 M : zM} {a : Nat} (h : KM c s M0 M) (ha : mX M0 ≤ a) (k : Nat) (v : Option Nat) : KM c s M0 (sR M k a v) :=
  ⟨h.1, fun b hb => by
    obtain ⟨h1, h2, h3, h4, h5, h6⟩ := h.2 b hb
    exact ⟨h1, h2, h3, h4, fun q => (if_neg (fun z => by have := z.2; omega)).trans (h5 q), h6⟩⟩
theorem KM.sA {c s : Nat} {M0 M : zM} {a : Nat} (h : KM c s M0 M) (ha : mX M0 ≤ a) (k : Nat) (v : Int32) : KM c s M0 (sA M a k v) :=
  ⟨h.1, fun b hb => by
    obtain ⟨h1, h2, h3, h4, h5, h6, h7⟩ := h.2 b hb
    exact ⟨h1, h2, h3, h4, h5, fun i hi => (if_neg (fun z => by have := z.1; omega)).trans (h6 i hi), h7⟩⟩
theorem KM.nO {c s : Nat} {M0 M : zM} (h : KM c s M0 M) (k n : Nat) : KM (c + 1) (s + n) M0 (nO M k n) :=
  ⟨⟨by have := h.1; show mX M0 ≤ mX M + 1; omega, by have := h.1; show mX M + 1 ≤ _; omega, by have := h.1; show mS M + n ≤ _; omega⟩, fun b hb => (h.2 b hb).tr ((SA.rf M b).nO (by have := h.1.1; omega) k n).sr⟩
theorem KM.nA {c s : Nat} {M0 M : zM} (h : KM c s M0 M) (k n : Nat) : KM (c + 1) (s + n) M0 (nA M k n) :=
  ⟨⟨by have := h.1; show mX M0 ≤ mX M + 1; omega, by have := h.1; show mX M + 1 ≤ _; omega, by have := h.1; show mS M + n ≤ _; omega⟩, fun b hb => (h.2 b hb).tr ((SA.rf M b).nA (by have := h.1.1; omega) k n).sr⟩
/-- a list of sets -/
def LV (M : zM) (l d N : Nat) (v : Nat → Nat) : Prop := (mK M l = 5 ∧ mR M 161 l = some d ∧ mI M 162 l = nI N ∧ l < mX M ∧ N ≤ 64) ∧ (0 < N → mK M d = 110 ∧ N ≤ mL M d ∧ mL M d ≤ 1000 ∧ d < mX M) ∧ ∀ j, j < N → ∃ o, mQ M d j = some o ∧ mK M o = 11 ∧ o < mX M ∧ mI M 352 o = nI (v j % 100) ∧ mI M 353 o = nI (v j / 100)
/-- a list of kinds -/
def LR (M : zM) (l d N : Nat) (v : Nat → Nat) : Prop := (mK M l = 5 ∧ mR M 161 l = some d ∧ mI M 162 l = nI N ∧ l < mX M ∧ N ≤ 64) ∧ (0 < N → mK M d = 110 ∧ N ≤ mL M d ∧ mL M d ≤ 1000 ∧ d < mX M) ∧ ∀ j, j < N → ∃ o, mQ M d j = some o ∧ mK M o = 303 ∧ o < mX M ∧ mI M 96 o = nI (v j)
theorem LV.km {M M' : zM} {l d N c s : Nat} {v : Nat → Nat} (h : LV M l d N v) (k : KM c s M M') : LV M' l d N v := by
  obtain ⟨⟨h1, h2, h3, h4, h5⟩, h6, h7⟩ := h
  have e := k.2 l h4
  refine ⟨⟨e.1.trans h1, (e.2.2.2.2.1 _).trans h2, (e.2.2.1 _).trans h3, Nat.lt_of_lt_of_le h4 k.1.1, h5⟩, fun q => ?_, fun j hj => ?_⟩
  · obtain ⟨a, b, c, d⟩ := h6 q
    have e := k.2 _ d
    exact ⟨e.1.trans a, by rw [e.2.1]; exact b, by rw [e.2.1]; exact c, Nat.lt_of_lt_of_le d k.1.1⟩
  · obtain ⟨o, o1, o2, o3, o4, o5⟩ := h7 j hj
    have ed := k.2 d (h6 (by omega)).2.2.2
    have eo := k.2 o o3
    exact ⟨o, by rw [ed.2.2.2.2.2.2]; exact o1, eo.1.trans o2, Nat.lt_of_lt_of_le o3 k.1.1, (eo.2.2.1 _).trans o4, (eo.2.2.1 _).trans o5⟩
theorem LR.km {M M' : zM} {l d N c s : Nat} {v : Nat → Nat} (h : LR M l d N v) (k : KM c s M M') : LR M' l d N v := by
  obtain ⟨⟨h1, h2, h3, h4, h5⟩, h6, h7⟩ := h
  have e := k.2 l h4
  refine ⟨⟨e.1.trans h1, (e.2.2.2.2.1 _).trans h2, (e.2.2.1 _).trans h3, Nat.lt_of_lt_of_le h4 k.1.1, h5⟩, fun q => ?_, fun j hj => ?_⟩
  · obtain ⟨a, b, c, d⟩ := h6 q
    have e := k.2 _ d
    exact ⟨e.1.trans a, by rw [e.2.1]; exact b, by rw [e.2.1]; exact c, Nat.lt_of_lt_of_le d k.1.1⟩
  · obtain ⟨o, o1, o2, o3, o4⟩ := h7 j hj
    have ed := k.2 d (h6 (by omega)).2.2.2
    have eo := k.2 o o3
    exact ⟨o, by rw [ed.2.2.2.2.2.2]; exact o1, eo.1.trans o2, Nat.lt_of_lt_of_le o3 k.1.1, (eo.2.2.1 _).trans o4⟩
section LISTS
variable {I : Nat → Nat → Int32} {J : Nat → Nat → Int64} {A : Nat → Nat → Int32} {M : zM} {G : zG} {hp dl : Nat → Nat}
theorem RS.lv (h : RS M hp dl) (hn : RN I J A M G hp dl) (hw : WF G) {p : Nat} (hp4 : p < 4) : LV (cs I J A M) (1030 + 4 * p) (dl (1030 + 4 * p)) (eN G p) (eV G p) := by
  have hl : isL (1030 + 4 * p) := ⟨p, hp4, Or.inl rfl⟩
  obtain ⟨l1, l2, l3⟩ := h.list hl
  obtain ⟨-, ⟨n1, n2, n3, n4⟩, -⟩ := hn.2.1 p hp4
  have hN3 := (hw.2.2.2.2.2.2.2.2.2.2 p hp4).2.1
  refine ⟨⟨l1, l2, n1, l3, by omega⟩, fun q => ?_, n4⟩
  rcases (h.2.2.2.2.1 _ hl).2 with z | ⟨z1, z2, z3, z4, z5⟩
  · exact absurd (n2 z) (by omega)
  · exact ⟨z3, n3 (by omega), z4, z2⟩
theorem RS.lr (h : RS M hp dl) (hn : RN I J A M G hp dl) (hw : WF G) {p : Nat} (hp4 : p < 4) : LR (cs I J A M) (1031 + 4 * p) (dl (1031 + 4 * p)) (eM G p) (eR G p) := by
  have hl : isL (1031 + 4 * p) := ⟨p, hp4, Or.inr rfl⟩
  obtain ⟨l1, l2, l3⟩ := h.list hl
  obtain ⟨-, -, ⟨n1, n2, n3, n4⟩, -⟩ := hn.2.1 p hp4
  obtain ⟨-, -, hM60, hR⟩ := hw.2.2.2.2.2.2.2.2.2.2 p hp4
  refine ⟨⟨l1, l2, n1, l3, by omega⟩, fun q => ?_, fun j hj => ⟨_, n4 j hj, ?_, ?_, ?_⟩⟩
  · rcases (h.2.2.2.2.1 _ hl).2 with z | ⟨z1, z2, z3, z4, z5⟩
    · exact absurd (n2 z) (by omega)
    · exact ⟨z3, n3 (by omega), z4, z2⟩
  · have := hR j hj
    have e : 228 + eR G p j = 100 + (128 + eR G p j) := by omega
    show mK M _ = 303
    rw [e]
    exact h.2.2.2.2.2.2.1.2.2 _ (by omega)
  · have := hR j hj
    have := h.2.2.2.2.2.2.2
    show _ < mX M
    omega
  · have := hR j hj
    have e : 228 + eR G p j = 100 + (128 + eR G p j) := by omega
    show I 96 _ = _
    rw [e, hn.2.2 _ (by omega), vb_28 _ this]
end LISTS
/-- an iterator before the place c -/
def IT (M : zM) (it l c : Nat) : Prop := mK M it = 4 ∧ mR M 131 it = some l ∧ mI M 128 it = nI c ∧ mI M 130 it = mI M 160 l
section ITER
variable {M M0 : zM} {it l c d n : Nat}
theorem r_iter (hk : mK M l = 5) (hl : l < mX M) : ∃ M1, f_Jx4a65c_iterator_32c93 l M = some (mX M, M1) ∧ IT M1 (mX M) l 0 ∧ KM 1 4 M M1 := by
  have k4 : mK (nO M 4 4) (mX M) = 4 := u1_at _ _ _
  have kl : mK (nO M 4 4) l = 5 := (if_neg (Nat.ne_of_lt hl)).trans hk
  have e160 : mI (nO M 4 4) 160 l = mI M 160 l := if_neg (Nat.ne_of_lt hl)
  refine ⟨sI (sI (sR (nO M 4 4) 131 (mX M) (some l)) 129 (mX M) (-1)) 130 (mX M) (mI M 160 l), ?_, ⟨k4, if_pos ⟨rfl, rfl⟩, ?_, ?_⟩, (((KM.rf M).nO 4 4).sR (Nat.le_refl _) _ _ |>.sI (Nat.le_refl _) _ _).sI (Nat.le_refl _) _ _⟩
  · unfold f_Jx4a65c_iterator_32c93 f_Jx4a65c_iterator_32c93_0 f_Jx35411_init_45d68 f_Jx35411_init_45d68_0
    rw [e_pR 131 k4, Option.bind_some, e_pI (M := sR (nO M 4 4) 131 (mX M) (some l)) 129 k4, Option.bind_some, e_gR (M := sI (sR (nO M 4 4) 131 (mX M) (some l)) 129 (mX M) (-1)) 131 k4 (if_pos ⟨rfl, rfl⟩), Option.bind_some, e_gI (M := sI (sR (nO M 4 4) 131 (mX M) (some l)) 129 (mX M) (-1)) 160 kl, Option.bind_some]
    show ((pI 4 2 (sI (sR (nO M 4 4) 131 (mX M) (some l)) 129 (mX M) (-1)) (mX M) (mI (nO M 4 4) 160 l)).bind _).bind _ = _
    rw [e160, e_pI (M := sI (sR (nO M 4 4) 131 (mX M) (some l)) 129 (mX M) (-1)) 130 k4]
    rfl
  · show mI (nO M 4 4) 128 (mX M) = nI 0
    exact if_pos rfl
  · exact (u2_at _ 130 (mX M) _).trans e160.symm
theorem r_hasNext (h : IT M it l c) (hk : mK M l = 5) (hn : mI M 162 l = nI n) (hc : c < 1000) (hn9 : n < 1000) : f_Jx35411_hasNext_aae02 it M = some (if c = n then 0 else 1, M) := by
  unfold f_Jx35411_hasNext_aae02 f_Jx35411_hasNext_aae02_0
  rw [e_gI 128 h.1, Option.bind_some, e_gR 131 h.1 h.2.1, Option.bind_some, e_gI 162 hk, Option.bind_some, h.2.2.1, hn]
  by_cases y : c = n
  · rw [if_pos (congrArg nI y), if_pos y]
  · rw [if_neg (eq_f c n y (by omega) (by omega)), if_neg y]
theorem r_next {o : Nat} (h : IT M it l c) (hk : mK M l = 5) (hn : mI M 162 l = nI n) (hn9 : n < 1000) (hd : mR M 161 l = some d) (kd : mK M d = 110) (ld : n ≤ mL M d) (ld2 : mL M d ≤ 1000) (hc : c < n) (ho : mQ M d c = some o) : f_Jx35411_next_0502b it M = some (o, sI (sI M 128 it (nI (c + 1))) 129 it (nI c)) ∧ IT (sI (sI M 128 it (nI (c + 1))) 129 it (nI c)) it l (c + 1) := by
  obtain ⟨i1, i2, i3, i4⟩ := h
  refine ⟨?_, i1, i2, if_pos ⟨rfl, rfl⟩, i4⟩
  have ec : f_Jx35411_checkForComodification_da8c8 it M = some ((), M) := by
    unfold f_Jx35411_checkForComodification_da8c8 f_Jx35411_checkForComodification_da8c8_0
    rw [e_gR 131 i1 i2, Option.bind_some, e_gI 160 hk, Option.bind_some, e_gI 130 i1, Option.bind_some, i4, if_pos rfl]
  unfold f_Jx35411_next_0502b f_Jx35411_next_0502b_0
  rw [if_pos i1, ec, Option.bind_some]
  show (gI 4 0 M it).bind _ = _
  rw [e_gI 128 i1, Option.bind_some, e_gR 131 i1 i2, Option.bind_some, e_gI 162 hk, Option.bind_some, i3, hn, if_pos (lt_t c n hc (by omega)), Option.bind_some, e_gR 161 hk hd, Option.bind_some, e_gL (by rw [kd]; decide) rfl, Option.bind_some, if_pos (lt_t c (mL M d) (by omega) (by omega)), nI_1, e_pI 128 i1, Option.bind_some, e_pI (M := sI M 128 it (nI (c + 1))) 129 i1, Option.bind_some, e_lQ (t := 0) (M := sI (sI M 128 it (nI (c + 1))) 129 it (nI c)) (by decide) kd (by show c < mL M d; omega) (by show mL M d < _; omega) ho, Option.bind_some]
/-- the open sets of a list -/
theorem r_open_10 {v : Nat → Nat} {N : Nat} (hM0 : LV M0 l d N v) (hv : ∀ j, j < N → v j < 400) : ∀ (e n c a : Nat) (M : zM), c + e = N → e < n → KM 1 4 M0 M → IT M (mX M0) l c → ∃ M', f_X6_open_10 n (nI a) (mX M0) M = some (nI (a + sn (fun j => if v j / 100 = 3 then 0 else 1) c e), M') ∧ KM 1 4 M0 M' := by
  intro e
  induction e with
  | zero =>
    intro n c a M hc hn hk hi
    obtain ⟨n, rfl⟩ : ∃ m, n = m + 1 := ⟨n - 1, by omega⟩
    obtain ⟨⟨l1, l2, l3, l4, l5⟩, -⟩ := hM0.km hk
    refine ⟨M, ?_, hk⟩
    rw [f_X6_open_10, if_pos hi.1, r_hasNext hi l1 l3 (by omega) (by omega), Option.bind_some, if_pos (by rw [if_pos (by omega : c = N)])]
    rfl
  | succ e ih =>
    intro n c a M hc hn hk hi
    obtain ⟨n, rfl⟩ : ∃ m, n = m + 1 := ⟨n - 1, by omega⟩
    obtain ⟨⟨l1, l2, l3, l4, l5⟩, l6, l7⟩ := hM0.km hk
    obtain ⟨d1, d2, d3, d4⟩ := l6 (by omega)
    obtain ⟨o, o1, o2, o3, o4, o5⟩ := l7 c (by omega)
    obtain ⟨e1, e2⟩ := r_next hi l1 l3 (by omega) l2 d1 d2 d3 (by omega) o1
    have hv9 := hv c (by omega)
    have hko : o ≠ mX M0 := fun z => by rw [z, hi.1] at o2; omega
    have ho : f_X5_isOpen o (sI (sI M 128 (mX M0) (nI (c + 1))) 129 (mX M0) (nI c)) = some (if v c / 100 = 3 then 0 else 1, sI (sI M 128 (mX M0) (nI (c + 1))) 129 (mX M0) (nI c)) := by
      unfold f_X5_isOpen f_X5_isOpen_0
      rw [e_gI (M := sI (sI M 128 (mX M0) (nI (c + 1))) 129 (mX M0) (nI c)) 353 o2, Option.bind_some]
      show (if mI M 353 o = 3 then _ else _) = _
      rw [o5]
      by_cases y : v c / 100 = 3
      · rw [if_pos (show nI (v c / 100) = 3 from congrArg nI y), if_pos y]
      · rw [if_neg (eq_f (y := 3) (v c / 100) 3 y (by omega) (by decide)), if_neg y]
    have hk2 : KM 1 4 M0 (sI (sI M 128 (mX M0) (nI (c + 1))) 129 (mX M0) (nI c)) := (hk.sI (Nat.le_refl _) _ _).sI (Nat.le_refl _) _ _
    have o22 : mK (sI (sI M 128 (mX M0) (nI (c + 1))) 129 (mX M0) (nI c)) o = 11 := o2
    generalize sI (sI M 128 (mX M0) (nI (c + 1))) 129 (mX M0) (nI c) = M2 at *
    rw [f_X6_open_10, if_pos hi.1, r_hasNext hi l1 l3 (by omega) (by omega), Option.bind_some, if_neg (show ¬ c = N by omega)]
    dsimp only
    rw [if_neg (show ¬ (1 : Int32) = 0 by decide), if_pos hi.1, e1, Option.bind_some]
    dsimp only
    rw [if_pos (Or.inl o22), if_pos o22, ho, Option.bind_some, sn]
    dsimp only
    by_cases y : v c / 100 = 3
    · rw [if_pos y, if_pos y, if_pos rfl]
      have := ih n (c + 1) (a + 0) _ (by omega) (by omega) hk2 e2
      rw [show a + (0 + sn (fun j => if v j / 100 = 3 then 0 else 1) (c + 1) e) = a + 0 + sn (fun j => if v j / 100 = 3 then 0 else 1) (c + 1) e by omega, show nI a + 0 = nI (a + 0) from Int32.add_zero _]
      exact this
    · rw [if_neg y, if_neg y, if_neg (show ¬ (1 : Int32) = 0 by decide)]
      have := ih n (c + 1) (a + 1) _ (by omega) (by omega) hk2 e2
      rw [show a + (1 + sn (fun j => if v j / 100 = 3 then 0 else 1) (c + 1) e) = a + 1 + sn (fun j => if v j / 100 = 3 then 0 else 1) (c + 1) e by omega, show nI a + 1 = nI (a + 1) from nI_1 a]
      exact this
theorem r_open {P : Nat} {v : Nat → Nat} {N : Nat} (hP : mK M P = 12) (hP2 : mR M 387 P = some l) (h : LV M l d N v) (hv : ∀ j, j < N → v j < 400) : ∃ M', f_X6_open P M = some (nI (sn (fun j => if v j / 100 = 3 then 0 else 1) 0 N), M') ∧ KM 1 4 M M' := by
  have h' := h
  obtain ⟨⟨l1, l2, l3, l4, l5⟩, -⟩ := h
  obtain ⟨M1, e1, i1, k1⟩ := r_iter l1 l4
  obtain ⟨M', e, k⟩ := r_open_10 h' hv N zN 0 0 M1 (by omega) (by show N < 130; omega) k1 i1
  refine ⟨M', ?_, k⟩
  unfold f_X6_open f_X6_open_0
  rw [e_gR 387 hP hP2, Option.bind_some, if_pos l1, e1, Option.bind_some]
  rw [Nat.zero_add] at e
  exact e
end ITER
