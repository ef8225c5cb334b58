/-! ===== PURE, THE REFERENCE: claim on the game ===== -/
/-- what is taken of a kind after j steps -/
def ptN (w l j k : Nat) : Nat := if w = 1 then (if l ≤ k ∧ k < l + j then 1 else 0) else if k = l then j else 0
def ptT (w : Nat) : Nat := if w = 2 then 4 else 3
theorem ptN_end {w l k : Nat} (hw : w ≤ 2) : ptN w l (ptT w) k = tlN w l k := by
  unfold ptN tlN ptT
  by_cases y : w = 1
  · rw [if_pos y, if_pos y, if_neg (by omega : ¬ w = 2)]
    by_cases z : k < l
    · rw [if_neg (by omega), if_pos z]
    · by_cases u : l + 2 < k
      · rw [if_neg (by omega), if_neg z, if_pos u]
      · rw [if_pos (by omega), if_neg z, if_neg u]
  · rw [if_neg y, if_neg y]
    by_cases z : k = l
    · rw [if_pos z, if_pos z]
      by_cases u : w = 2
      · rw [if_pos u, if_neg (by omega)]
      · rw [if_neg u, if_pos (by omega)]
    · rw [if_neg z, if_neg z]
theorem ptN_0 (w l k : Nat) : ptN w l 0 k = 0 := by
  unfold ptN
  split
  · exact if_neg (by omega)
  · split <;> rfl
/-- the step j takes the kind -/
def ptK (w l j : Nat) : Nat := if w = 1 then l + j else l
theorem ptN_s (w l j k : Nat) : ptN w l (j + 1) k = ptN w l j k + (if k = ptK w l j then 1 else 0) := by
  unfold ptN ptK
  by_cases y : w = 1
  · rw [if_pos y, if_pos y, if_pos y]
    by_cases z : l ≤ k ∧ k < l + j
    · rw [if_pos z, if_pos (by omega), if_neg (by omega)]
    · rw [if_neg z]
      by_cases u : k = l + j
      · rw [if_pos (by omega), if_pos u]
      · rw [if_neg (by omega), if_neg u]
  · rw [if_neg y, if_neg y, if_neg y]
    by_cases z : k = l
    · rw [if_pos z, if_pos z, if_pos z]
    · rw [if_neg z, if_neg z, if_neg z]
theorem ptN_le {w l j k : Nat} (hj : j ≤ ptT w) : ptN w l j k ≤ ptN w l (ptT w) k := by
  unfold ptN
  split
  · split
    · rw [if_pos (by omega)]; exact Nat.le_refl _
    · exact Nat.zero_le _
  · split
    · exact hj
    · exact Nat.le_refl _
section RCLM
variable {I : Nat → Nat → Int32} {J : Nat → Nat → Int64} {A : Nat → Nat → Int32} {M : zM} {G : zG} {hp dl : Nat → Nat}
/-- behind the loop -/
def clmT (w p P : Nat) (M : zM) : Option (Int32 × zM) := (pI 13 7 M 1026 (nI p)).bind fun M1 => (pI 13 13 M1 1026 (-1)).bind fun M2 => (pI 13 6 M2 1026 1).bind fun M3 => if nI w = 2 then (if mK M3 1026 = 13 then (f_X7_drawLast 1026 M3).bind fun r4 => f_X7_claim_193 P r4.2 else none) else f_X7_claim_193 P M3
theorem r_claim_122 {P h : Nat} (hP : mK M P = 12) (hP2 : mR M 386 P = some h) (hh : mK M h = 100 ∧ mL M h = 25) {p w l : Nat} (hw2 : w ≤ 2) (hl : l < 25) {e : Nat → Nat} (hle : ∀ k, k < 25 → tlN w l k ≤ e k) (hlk : w = 1 → l + 2 < 25) : ∀ (d n j : Nat) (row : Nat → Int32), j + d = ptT w → d < n → (∀ k, k < 25 → row k = nI (e k - ptN w l j k)) → ∃ row', f_X7_claim_122 n 1026 (nI p) (nI w) P (nI l) (nI j) (cs I J (ur A h row) M) = clmT w p P (cs I J (ur A h row') M) ∧ ∀ k, k < 25 → row' k = nI (e k - tlN w l k) := by
  have hT4 : ptT w ≤ 4 := by unfold ptT; split <;> omega
  intro d
  induction d with
  | zero =>
    intro n j row hj hn hr
    obtain ⟨n, rfl⟩ : ∃ m, n = m + 1 := ⟨n - 1, by omega⟩
    refine ⟨row, ?_, fun k hk => by rw [hr k hk, ← ptN_end hw2, show j = ptT w by omega]⟩
    rw [f_X7_claim_122]
    unfold ptT at hj
    by_cases y : w = 2
    · rw [if_pos y] at hj
      rw [if_pos (show nI w = 2 by rw [y]; rfl)]
      unfold f_X7_claim_134 clmT
      rw [if_pos (le_t (x := 4) 4 j (by omega) (by omega))]
    · rw [if_neg y] at hj
      rw [if_neg (eq_f (y := 2) w 2 y (by omega) (by decide))]
      unfold f_X7_claim_134 clmT
      rw [if_pos (le_t (x := 3) 3 j (by omega) (by omega))]
  | succ d ih =>
    intro n j row hj hn hr
    obtain ⟨n, rfl⟩ : ∃ m, n = m + 1 := ⟨n - 1, by omega⟩
    have hK : ptK w l j < 25 := by
      unfold ptK
      split
      · rename_i z
        have := hlk z
        have : ptT w = 3 := by unfold ptT; exact if_neg (by omega)
        omega
      · exact hl
    have hone : 1 ≤ e (ptK w l j) - ptN w l j (ptK w l j) := by
      have a := hle _ hK
      rw [← ptN_end hw2] at a
      have b := ptN_le (w := w) (l := l) (j := j + 1) (k := ptK w l j) (by omega)
      rw [ptN_s, if_pos rfl] at b
      omega
    have step : f_X7_claim_134 (f_X7_claim_122 n) 1026 (nI p) (nI w) P (nI l) (nI j) (nI (ptT w)) (nI j) (cs I J (ur A h row) M) = f_X7_claim_122 n 1026 (nI p) (nI w) P (nI l) (nI (j + 1)) (cs I J (ur A h (u1 row (ptK w l j) (nI (e (ptK w l j) - ptN w l j (ptK w l j) - 1)))) M) := by
      unfold f_X7_claim_134
      rw [if_neg (le_f (ptT w) j (by omega) (by omega)), gR_cs 386 hP hP2, Option.bind_some]
      have e57 : ∀ x : Int32, x = nI (ptK w l j) → f_X7_claim_157 (f_X7_claim_122 n) 1026 (nI p) (nI w) P (nI l) (nI j) x h (cs I J (ur A h row) M) = f_X7_claim_122 n 1026 (nI p) (nI w) P (nI l) (nI (j + 1)) (cs I J (ur A h (u1 row (ptK w l j) (nI (e (ptK w l j) - ptN w l j (ptK w l j) - 1)))) M) := fun x hx => by
        unfold f_X7_claim_157
        have em : nI (e (ptK w l j) - ptN w l j (ptK w l j)) - 1 = nI (e (ptK w l j) - ptN w l j (ptK w l j) - 1) := pk_sub (a := e (ptK w l j) - ptN w l j (ptK w l j)) (b := 1) hone
        rw [hx, lA_cs hh.1 (by rw [hh.2]; exact hK) (by rw [hh.2]; decide), Option.bind_some, ur_at, hr _ hK, em, tA_cs hh.1 (by rw [hh.2]; exact hK) (by rw [hh.2]; decide), Option.bind_some, u2_ur, nI_1]
      by_cases y : w = 1
      · rw [if_pos (show nI w = 1 by rw [y]; rfl)]
        exact e57 _ (by rw [nI_add]; exact congrArg nI (if_pos y).symm)
      · rw [if_neg (eq_f (y := 1) w 1 y (by omega) (by decide))]
        exact e57 _ (congrArg nI (if_neg y).symm)
    obtain ⟨row', q1, q2⟩ := ih n (j + 1) (u1 row (ptK w l j) (nI (e (ptK w l j) - ptN w l j (ptK w l j) - 1))) (by omega) (by omega) (fun k hk => by
      rw [ptN_s]
      by_cases z : k = ptK w l j
      · rw [z, u1_at, if_pos rfl]
        exact congrArg nI (by omega)
      · rw [u1_ne _ _ z, hr k hk, if_neg z, Nat.add_zero])
    refine ⟨row', ?_, q2⟩
    rw [f_X7_claim_122, ← q1, ← step]
    by_cases y : w = 2
    · rw [if_pos (show nI w = 2 by rw [y]; rfl), show ptT w = 4 from if_pos y]
      rfl
    · rw [if_neg (eq_f (y := 2) w 2 y (by omega) (by decide)), show ptT w = 3 from if_neg y]
      rfl
/-- the tile that is claimed, in the hand -/
def gC1 (G : zG) (p : Nat) : zG := (eS G, u2 (eH G) p (lst G) (eH G p (lst G) + 1), eN G, eV G, u1 (eM G) (eS G 5) (eM G (eS G 5) - 1), eR G, eD G, eC G)
theorem RNQ.c1 (h : RNQ I J A M (gM1 G) hp dl) (g : RS M hp dl) {p : Nat} (hp4 : p < 4) (hl : lst G < 25) : RNQ I J (u2 A (hp p) (lst G) (nI (eH G p (lst G) + 1))) M (gC1 G p) hp dl := by
  obtain ⟨q, v⟩ := h
  refine ⟨fun c hc => ?_, v⟩
  obtain ⟨a, b⟩ := q c hc
  refine ⟨fun j hj => ?_, b⟩
  show u2 A (hp p) (lst G) _ (hp c) j = nI (u2 (eH G) p (lst G) _ c j)
  unfold u2
  by_cases y : c = p ∧ j = lst G
  · rw [if_pos y, if_pos ⟨by rw [y.1], y.2⟩]
  · rw [if_neg y, if_neg (fun z => y ⟨g.2.2.2.1 c p hc hp4 z.1, z.2⟩)]
    exact a j hj
theorem r_claim_50 (h : RS M hp dl) (hn : RN I J A M G hp dl) (hw : WF G) (hL : WL G) (hT : WT G) {p w l : Nat} (hp4 : p < 4) (hw2 : w ≤ 2) {i : Int32} (hm : oMay G p w i = true) (hl : l < 25) (hcl : l = cLow G w i) (hi : w = 1 → i = nI l) (hle : ∀ k, k < 25 → tlN w l k ≤ eH (gLv G p) p k) (hN : eN G p < 3) : ∃ I' J' A' M' dl', f_X7_claim_50 1026 (nI p) (nI w) i 0 1026 (cs (th 0 I) J A M) = some (nI (eN G p + 1), cs I' J' A' M') ∧ RS M' hp dl' ∧ RN I' J' A' M' (gClm G p w i) hp dl' ∧ I' 416 1026 = 0 ∧ (mX M' ≤ mX M + 2 ∧ mS M' ≤ mS M + 102) := by
  have k := h.1.1
  have hn1 := hn.th 0
  obtain ⟨m1, m2, m3, m4, m5, m6⟩ := oMay_w hm
  have ht : eS G 5 < 4 := hw.2.2.2.2.2.1
  have hL1 := hL m1
  have hl25 : lst G < 25 := (hw.2.2.2.2.2.2.2.2.2.2 _ ht).2.2.2 _ (by omega)
  have hm60 : eM G (eS G 5) ≤ 60 := (hw.2.2.2.2.2.2.2.2.2.2 _ ht).2.2.1
  have hoff : th 0 I 430 1026 = nI (lst G) := hn1.1.2.2.2.2.2.2.2 m1
  have hs1 := h.2.1 _ hp4
  have hh := h.2.2.1 _ hp4
  have e := r_refuse (I := I) (J := J) (A := A) h false 3 (by decide) (by decide)
  have e' : f_X7_refuse 1026 0 3 (cs (th 0 I) J A M) = some (0, cs (th 0 I) J A M) := e
  obtain ⟨v, q1, q2, q3⟩ := r_leave h hn1.2 hn1.1.2.1 ht (by omega) hm60
  have hlw : w = 1 → l + 2 < 25 := fun z => by
    have a := hle (l + 2)
    have c := m4 z
    obtain ⟨l2, c1, c2, c3⟩ := crow_l c
    have e9 := hi z
    rw [e9] at c2
    have := (nI_eq (by omega) (by omega)).mp c2
    omega
  generalize hM1 : sQ M (dl (1031 + 4 * eS G 5)) (eM G (eS G 5) - 1) none = M1 at *
  generalize hI1 : u2 (u2 (th 0 I) 160 (1031 + 4 * eS G 5) v) 162 (1031 + 4 * eS G 5) (nI (eM G (eS G 5) - 1)) = I1 at *
  have i1 : ∀ k, I1 k 1026 = th 0 I k 1026 := fun k => by
    rw [← hI1]
    exact (if_neg (fun z => by have := z.2; omega)).trans (if_neg (fun z => by have := z.2; omega))
  have hX1 : mX M1 = mX M := by rw [← hM1]; rfl
  have hS1' : mS M1 = mS M := by rw [← hM1]; rfl
  have hs2 := q2.2.1 _ hp4
  have hh2 := q2.2.2.1 _ hp4
  have hrow := (q3.1 _ hp4).1 _ hl25
  have q4 := q3.c1 q2 hp4 hl25
  have ex : ∀ (A : Nat → Nat → Int32), lA 0 (cs I1 J A M1) (hp p) (nI (lst G)) = some (A (hp p) (lst G)) := fun A => lA_cs hh2.1 (by rw [hh2.2.1]; exact hl25) (by rw [hh2.2.1]; decide)
  obtain ⟨N1, I', J', M', d', r1, r2, r3, r4, r5, r6, r7⟩ := r_lay1 (I := I1) (J := J) (A := u2 A (hp p) (lst G) (nI (eH G p (lst G) + 1))) (A0 := u2 A (hp p) (lst G) (nI (eH G p (lst G) + 1))) (G := gC1 G p) (p := p) (f := w) (l := l) q2 q4 hp4 hl (by omega) (by show eN G p ≤ 3; omega)
  have hs3 := r4.2.1 _ hp4
  have hh3 := r4.2.2.1 _ hp4
  obtain ⟨row, t1, t2⟩ := r_claim_122 (I := I') (J := J') (A := u2 A (hp p) (lst G) (nI (eH G p (lst G) + 1))) (M := M') hs3.1 hs3.2.1 ⟨hh3.1, hh3.2.1⟩ (p := p) hw2 hl (e := eH (gLv G p) p) hle hlw (ptT w) zN 0 (u2 A (hp p) (lst G) (nI (eH G p (lst G) + 1)) (hp p)) (by omega) (by unfold ptT zN; split <;> omega) (fun k hk => by
    rw [ptN_0, Nat.sub_zero]
    exact (q4.1 _ hp4).1 k hk)
  rw [ur_self] at t1
  have e98 : f_X7_claim_98 1026 (nI p) (nI w) (1028 + 4 * p) (nI l) (cs I1 J (u2 A (hp p) (lst G) (nI (eH G p (lst G) + 1))) M1) = clmT w p (1028 + 4 * p) (cs I' J' (ur (u2 A (hp p) (lst G) (nI (eH G p (lst G) + 1))) (hp p) row) M') := by
    have r1' : f_X5_init (mX (cs I1 J (u2 A (hp p) (lst G) (nI (eH G p (lst G) + 1))) M1)) (nI l) (nI w) (nO (cs I1 J (u2 A (hp p) (lst G) (nI (eH G p (lst G) + 1))) M1) 11 2) = some ((), N1) := r1
    have r3' : f_Jx4a65c_add_9ea2d (1030 + 4 * p) (mX (cs I1 J (u2 A (hp p) (lst G) (nI (eH G p (lst G) + 1))) M1)) N1 = some (1, cs I' J' (u2 A (hp p) (lst G) (nI (eH G p (lst G) + 1))) M') := r3
    unfold f_X7_claim_98
    rw [gR_cs 387 hs2.1 hs2.2.2.1, Option.bind_some, r1', Option.bind_some]
    dsimp only
    rw [if_pos r2, r3', Option.bind_some]
    exact t1
  have hRQ := r5 (ur (u2 A (hp p) (lst G) (nI (eH G p (lst G) + 1))) (hp p) row) (fun k hk => (ur_at _ _ _ _).trans (t2 k hk)) (fun b hb hne => funext fun j => ur_ne _ _ _ hne)
  have k3 := r4.1.1
  have hRN : RN (u2 (u2 (u2 I' 423 1026 (nI p)) 429 1026 (-1)) 422 1026 1) J' (ur (u2 A (hp p) (lst G) (nI (eH G p (lst G) + 1))) (hp p) row) M' (gSet (gLv G p) p w l) hp (u1 dl (1030 + 4 * p) d') := by
    have hs0 : RNs I' (ur (u2 A (hp p) (lst G) (nI (eH G p (lst G) + 1))) (hp p) row) G := RNs.tr hn1.1 (fun k => (r6 k).trans (i1 k)) (fun t _ => (ur_ne _ _ _ (fun z => hh.2.2.2.1 z.symm)).trans (if_neg (fun z => hh.2.2.2.1 z.1.symm)))
    obtain ⟨s1, s2, s3, s4, s5, s6, s7, s8⟩ := hs0
    refine ⟨⟨rfl, rfl, s3, s4, s5, s6, fun _ => ?_, fun z => absurd z (show ¬ (1 : Nat) = 2 by decide)⟩, fun c hc => ?_, fun i hi => hRQ.2 i hi⟩
    · show (-1 : Int32) + 1 = nI (if (0 : Nat) = 0 then 0 else eS (gSet (gLv G p) p w l) 8)
      rw [if_pos rfl]
      rfl
    obtain ⟨a1, a2, a3, a4, a5⟩ := hRQ.1 c hc
    exact ⟨a1, ⟨a2.1, a2.2.1, a2.2.2.1, fun j hj => a2.2.2.2 j hj⟩, a3, a4, a5⟩
  have h416 : I' 416 1026 = 0 := (r6 416).trans (i1 416)
  have fin : ∃ I2 A2, clmT w p (1028 + 4 * p) (cs I' J' (ur (u2 A (hp p) (lst G) (nI (eH G p (lst G) + 1))) (hp p) row) M') = some (nI (eN G p + 1), cs I2 J' A2 M') ∧ RN I2 J' A2 M' (gClm G p w i) hp (u1 dl (1030 + 4 * p) d') ∧ I2 416 1026 = 0 := by
    have e193 : ∀ I2 A2 G2, RN I2 J' A2 M' G2 hp (u1 dl (1030 + 4 * p) d') → f_X7_claim_193 (1028 + 4 * p) (cs I2 J' A2 M') = some (nI (eN G2 p), cs I2 J' A2 M') := fun I2 A2 G2 hR => by
      unfold f_X7_claim_193
      rw [gR_cs 387 hs3.1 hs3.2.2.1, Option.bind_some, if_pos (show mK (cs I2 J' A2 M') (1030 + 4 * p) = 5 from hs3.2.2.2.2.1), r_size hs3.2.2.2.2.1 (hR.2.1 _ hp4).2.1.1, Option.bind_some]
    have en1 : eN (gSet (gLv G p) p w l) p = eN G p + 1 := u1_at _ _ _
    unfold clmT gClm
    rw [pI_cs 423 k3, Option.bind_some, pI_cs 429 k3, Option.bind_some, pI_cs 422 k3, Option.bind_some, ← hcl]
    by_cases y : w = 2
    · have hWF : WF (gSet (gLv G p) p w l) := (hw.lv (hT m1 _ hp4) hp4).set (by show eN G p < 3; exact hN)
      obtain ⟨I2, A2, u1', u2', u3'⟩ := r_drawLast r4 hRN hWF rfl (m5 y).2
      have en2 : eN (gDF (gSet (gLv G p) p w l)) p = eN G p + 1 := en1
      rw [if_pos (show nI w = 2 by rw [y]; rfl), if_pos y, if_pos (show mK (cs _ J' _ M') 1026 = 13 from k3), u1', Option.bind_some]
      dsimp only
      rw [e193 I2 A2 _ u2', en2]
      exact ⟨I2, A2, rfl, u2', u3'.trans h416⟩
    · rw [if_neg (eq_f (y := 2) w 2 y (by omega) (by decide)), if_neg y, e193 _ _ _ hRN, en1]
      exact ⟨_, _, rfl, hRN, h416⟩
  obtain ⟨I2, A2, f1, f2, f3⟩ := fin
  have hk2 := q2.1.1
  refine ⟨I2, J', A2, M', u1 dl (1030 + 4 * p) d', ?_, r4, f2, f3, by omega, by omega⟩
  unfold f_X7_claim_50
  rw [if_pos (show mK (cs (th 0 I) J A M) 1026 = 13 from k), e', Option.bind_some]
  dsimp only
  rw [if_pos rfl, if_pos (show mK (cs (th 0 I) J A M) 1026 = 13 from k), q1, Option.bind_some]
  dsimp only
  rw [gR_cs 417 hk2 q2.1.2.1, Option.bind_some, q2.pl hp4, Option.bind_some, gR_cs 386 hs2.1 hs2.2.1, Option.bind_some, gI_cs 430 hk2, Option.bind_some, (i1 430).trans hoff, ex, Option.bind_some, hrow, show nI (eH (gM1 G) p (lst G)) + 1 = nI (eH G p (lst G) + 1) from nI_1 _, tA_cs hh2.1 (by rw [hh2.2.1]; exact hl25) (by rw [hh2.2.1]; decide), Option.bind_some]
  by_cases y : w = 1
  · rw [if_pos (show nI w = 1 by rw [y]; rfl), hi y, e98, f1]
  · have el : lst G = l := by rw [hcl]; exact (if_neg y).symm
    rw [if_neg (eq_f (y := 1) w 1 y (by omega) (by decide)), gI_cs 430 hk2, Option.bind_some, (i1 430).trans hoff, ← f1, ← e98, el]
end RCLM
