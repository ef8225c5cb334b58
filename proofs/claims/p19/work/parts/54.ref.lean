/-! ===== PURE, THE REFERENCE: a tile leaves the river; who may claim; claim ===== -/
/-- one less in the river in turn -/
def gM1 (G : zG) : zG := (eS G, eH G, eN G, eV G, u1 (eM G) (eS G 5) (eM G (eS G 5) - 1), eR G, eD G, eC G)
section RCLAIM
variable {I : Nat → Nat → Int32} {J : Nat → Nat → Int64} {A : Nat → Nat → Int32} {M : zM} {G : zG} {hp dl : Nat → Nat}
theorem RS.sQ (h : RS M hp dl) {d : Nat} (hd : mK M d = 110) (i : Nat) (v : Option Nat) : RS (sQ M d i v) hp dl := by
  obtain ⟨⟨m1, m2, m3, m4, m5, m6, m7, m8⟩, hpl, hh, hinj, hd', hdj, ⟨⟨j1, j2⟩, ⟨j3, j4, j5⟩, j6⟩, hX⟩ := h
  exact ⟨⟨m1, m2, m3, m4, m5, fun p hp4 => (if_neg (fun z => by rw [← z.1, m4] at hd; omega)).trans (m6 p hp4), m7, m8⟩, hpl, hh, hinj, hd', hdj, ⟨⟨j1, j2⟩, ⟨j3, j4, fun i hi => (if_neg (fun z => by rw [← z.1, j3] at hd; omega)).trans (j5 i hi)⟩, j6⟩, hX⟩
theorem r_leave (h : RS M hp dl) (hn : RNQ I J A M G hp dl) (hs : I 423 1026 = nI (eS G 5)) (ht : eS G 5 < 4) (hm : eM G (eS G 5) ≠ 0) (hm60 : eM G (eS G 5) ≤ 60) : ∃ v, f_X7_leave 1026 (cs I J A M) = some ((), cs (u2 (u2 I 160 (1031 + 4 * eS G 5) v) 162 (1031 + 4 * eS G 5) (nI (eM G (eS G 5) - 1))) J A (sQ M (dl (1031 + 4 * eS G 5)) (eM G (eS G 5) - 1) none)) ∧ RS (sQ M (dl (1031 + 4 * eS G 5)) (eM G (eS G 5) - 1) none) hp dl ∧ RNQ (u2 (u2 I 160 (1031 + 4 * eS G 5) v) 162 (1031 + 4 * eS G 5) (nI (eM G (eS G 5) - 1))) J A (sQ M (dl (1031 + 4 * eS G 5)) (eM G (eS G 5) - 1) none) (gM1 G) hp dl := by
  have k := h.1.1
  have hl : isL (1031 + 4 * eS G 5) := ⟨_, ht, Or.inr rfl⟩
  obtain ⟨l1, l2, l3⟩ := h.list hl
  have hs1 := h.2.1 _ ht
  obtain ⟨n1, n2, ⟨n3, n4, n5, n6⟩, n7⟩ := hn.1 _ ht
  have hd4 : dl (1031 + 4 * eS G 5) ≠ 4 := fun z => hm (n4 z)
  obtain ⟨d1, d2, d3, d4, d5⟩ : 1046 ≤ dl (1031 + 4 * eS G 5) ∧ dl (1031 + 4 * eS G 5) < mX M ∧ mK M (dl (1031 + 4 * eS G 5)) = 110 ∧ mL M (dl (1031 + 4 * eS G 5)) ≤ 1000 ∧ 0 < mL M (dl (1031 + 4 * eS G 5)) := (h.2.2.2.2.1 _ hl).2.resolve_left hd4
  have d6 := n5 hd4
  have em : nI (eM G (eS G 5)) - 1 = nI (eM G (eS G 5) - 1) := pk_sub (a := eM G (eS G 5)) (b := 1) (Nat.pos_of_ne_zero hm)
  refine ⟨I 160 (1031 + 4 * eS G 5) + 1, ?_, h.sQ d3 _ _, fun c hc => ?_, fun i hi => ((if_neg (fun z => by have := z.2; omega)).trans (if_neg (fun z => by have := z.2; omega))).trans (hn.2 i hi)⟩
  · unfold f_X7_leave f_X7_leave_0
    rw [if_pos (show mK (cs I J A M) 1026 = 13 from k), r_its h ht hs, Option.bind_some]
    dsimp only
    rw [gR_cs 388 hs1.1 hs1.2.2.2.1, Option.bind_some, if_pos (show mK (cs I J A M) 1026 = 13 from k), r_its h ht hs, Option.bind_some]
    dsimp only
    rw [gR_cs 388 hs1.1 hs1.2.2.2.1, Option.bind_some, if_pos (show mK (cs I J A M) (1031 + 4 * eS G 5) = 5 from l1), r_size l1 n3, Option.bind_some]
    dsimp only
    rw [if_pos (show mK (cs I J A M) (1031 + 4 * eS G 5) = 5 from l1), em]
    unfold f_Jx4a65c_remove_915e3 f_Jx4a65c_remove_915e3_0
    have ec : f_J15_checkIndex_7cf53 (nI (eM G (eS G 5) - 1)) (nI (eM G (eS G 5))) (cs I J A M) = some (nI (eM G (eS G 5) - 1), cs I J A M) := by
      unfold f_J15_checkIndex_7cf53 f_J15_checkIndex_7cf53_0 f_J3_checkIndex_8e157 f_J3_checkIndex_8e157_0
      rw [if_neg (nI_nn (by omega)), if_pos (lt_t (eM G (eS G 5) - 1) (eM G (eS G 5)) (by omega) (by omega)), Option.bind_some]
    rw [gI_cs 162 l1, Option.bind_some, n3, ec, Option.bind_some]
    dsimp only
    rw [gR_cs 161 l1 l2, Option.bind_some, lQ_cs (t := 0) (by decide) d3 (by omega) (by omega) (n6 _ (by omega)), Option.bind_some, if_pos (show mK (cs I J A M) (1031 + 4 * eS G 5) = 5 from l1)]
    unfold f_Jx4a65c_fastRemove_b59b0 f_Jx4a65c_fastRemove_b59b0_0
    rw [gI_cs 160 l1, Option.bind_some, pI_cs 160 l1, Option.bind_some, gI_cs 162 l1, Option.bind_some, show u2 I 160 (1031 + 4 * eS G 5) (I 160 (1031 + 4 * eS G 5) + 1) 162 (1031 + 4 * eS G 5) = nI (eM G (eS G 5)) from n3, em, if_pos (le_t (eM G (eS G 5) - 1) (eM G (eS G 5) - 1) (Nat.le_refl _) (by omega))]
    unfold f_Jx4a65c_fastRemove_b59b0_34
    have eq : tQ 0 (cs (u2 (u2 I 160 (1031 + 4 * eS G 5) (I 160 (1031 + 4 * eS G 5) + 1)) 162 (1031 + 4 * eS G 5) (nI (eM G (eS G 5) - 1))) J A M) (dl (1031 + 4 * eS G 5)) (nI (eM G (eS G 5) - 1)) none = some (cs (u2 (u2 I 160 (1031 + 4 * eS G 5) (I 160 (1031 + 4 * eS G 5) + 1)) 162 (1031 + 4 * eS G 5) (nI (eM G (eS G 5) - 1))) J A (sQ M (dl (1031 + 4 * eS G 5)) (eM G (eS G 5) - 1) none)) := e_tQ (t := 0) (M := cs (u2 (u2 I 160 (1031 + 4 * eS G 5) (I 160 (1031 + 4 * eS G 5) + 1)) 162 (1031 + 4 * eS G 5) (nI (eM G (eS G 5) - 1))) J A M) d3 (by show eM G (eS G 5) - 1 < mL M _; omega) (by show mL M _ < _; omega)
    rw [pI_cs 162 l1, Option.bind_some, eq]
    rfl
  · obtain ⟨c1, ⟨b1, b2, b3, b4⟩, ⟨c2, c3, c4, c5⟩, c6, c7⟩ := hn.1 c hc
    refine ⟨c1, ⟨?_, b2, b3, fun j hj => ?_⟩, ?_, c6, c7⟩
    · exact ((if_neg (fun z => by have := z.2; omega)).trans (if_neg (fun z => by have := z.2; omega))).trans b1
    · obtain ⟨o, o1, o2, o3, o4, o5⟩ := b4 j hj
      refine ⟨o, (if_neg (fun z => ?_)).trans o1, o2, o3, o4, o5⟩
      rcases h.2.2.2.2.2.1 _ _ ⟨c, hc, Or.inl rfl⟩ hl z.1 with q | q
      · exact hd4 (z.1.symm.trans q)
      · omega
    · by_cases y : c = eS G 5
      · subst y
        have e1 : eM (gM1 G) (eS G 5) = eM G (eS G 5) - 1 := u1_at _ _ _
        rw [e1]
        exact ⟨u2_at _ _ _ _, fun z => absurd z hd4, fun _ => by show _ ≤ mL M _; omega, fun j hj => (if_neg (fun z => by have := z.2; omega)).trans (c5 j (by omega))⟩
      · have e1 : eM (gM1 G) c = eM G c := u1_ne _ _ y
        rw [e1]
        refine ⟨((if_neg (fun z => by have := z.2; omega)).trans (if_neg (fun z => by have := z.2; omega))).trans c2, c3, c4, fun j hj => (if_neg (fun z => ?_)).trans (c5 j hj)⟩
        rcases h.2.2.2.2.2.1 _ _ ⟨c, hc, Or.inr rfl⟩ hl z.1 with q | q
        · exact hd4 (z.1.symm.trans q)
        · omega
theorem r_crl {h9 : Nat} (hk9 : mK M h9 = 100) (hl9 : mL M h9 = 25) (k : mK M 1026 = 13) {T : Nat} (hT : I 430 1026 = nI T) (hT25 : T < 25) {g : Nat → Nat} (hg : ∀ k, k < 25 → A h9 k = nI (g k)) (hg4 : ∀ k, k < 25 → g k ≤ 4) {l : Nat} (hl : l < 18) : ∀ (d n i : Nat), i + d = l + 3 → d < n → f_X7_mayClaim_130 n 1026 (nI l) h9 (nI i) (cs I J A M) = some (b32 (crl g T d i), cs I J A M) := by
  intro d
  induction d with
  | zero =>
    intro n i hi hn
    obtain ⟨n, rfl⟩ : ∃ m, n = m + 1 := ⟨n - 1, by omega⟩
    have e3 : nI l + 3 = nI (l + 3) := nI_add l 3
    rw [f_X7_mayClaim_130, e3, if_pos (le_t (l + 3) i (by omega) (by omega))]
    rfl
  | succ d ih =>
    intro n i hi hn
    obtain ⟨n, rfl⟩ : ∃ m, n = m + 1 := ⟨n - 1, by omega⟩
    have e3 : nI l + 3 = nI (l + 3) := nI_add l 3
    have e := ih n (i + 1) (by omega) (by omega)
    rw [f_X7_mayClaim_130, e3, if_neg (le_f (l + 3) i (by omega) (by omega)), gI_cs 430 k, Option.bind_some, hT, nI_1, crl]
    by_cases y : i = T
    · rw [if_pos (congrArg nI y), e, if_pos y]
    · rw [if_neg y, if_neg (eq_f i T y (by omega) (by omega)), lA_cs hk9 (by omega) (by omega), Option.bind_some, hg i (by omega)]
      have := hg4 i (by omega)
      by_cases z : g i = 0
      · rw [z, if_pos (show nI 0 = 0 from rfl), if_pos rfl]
        rfl
      · rw [if_neg (eq_f (y := 0) (g i) 0 z (by omega) (by decide)), e, if_neg z]
theorem r_isRun3 (i : Int32) (M : zM) : f_X7_isRun i 3 M = some (b32 (if i < 0 then false else rw_ i.toNatClampNeg), M) := by
  rcases nI_all i with z | ⟨n, z1, rfl⟩
  · unfold f_X7_isRun f_X7_isRun_0
    rw [if_pos z, if_pos z]
    rfl
  · rw [if_neg (nI_nn z1), nI_cl z1]
    by_cases y : n < 2 ^ 30
    · exact q_isRun3 n y M
    · unfold f_X7_isRun f_X7_isRun_0
      have e : rw_ n = false := decide_eq_false (by omega)
      rw [if_neg (nI_nn z1), if_pos (le_t (x := 18) 18 n (by omega) z1), e]
      rfl
theorem oMay_of (G : zG) (p w : Nat) (i : Int32) (h1 : eS G 4 = 2) (h2 : p ≠ eS G 5) (h3 : eC G p = false) : oMay G p w i = (if w = 1 then decide (p = (eS G 5 + 1) % 4) && crow (eH G p) (lst G) i else if w = 2 then decide (3 ≤ eH G p (lst G)) && gF4 G else decide (2 ≤ eH G p (lst G))) := by
  unfold oMay
  rw [decide_eq_true ⟨h1, h2, h3⟩, Bool.true_and]
theorem oMay_no (G : zG) (p w : Nat) (i : Int32) (h : ¬ (eS G 4 = 2 ∧ p ≠ eS G 5 ∧ eC G p = false)) : oMay G p w i = false := by
  unfold oMay
  rw [decide_eq_false h, Bool.false_and]
theorem r_mayClaim (h : RS M hp dl) (hn : RN I J A M G hp dl) (hw : WF G) (hd : WD G) (hL : WL G) {p w : Nat} (hp4 : p < 4) (hw2 : w ≤ 2) (i : Int32) : f_X7_mayClaim 1026 (nI p) (nI w) i (cs I J A M) = some (b32 (oMay G p w i), cs I J A M) := by
  have k := h.1.1
  have ht : eS G 5 < 4 := hw.2.2.2.2.2.1
  have hw4 : eS G 4 < 4 := hw.2.2.2.2.1
  have hs1 := h.2.1 _ hp4
  have hh := h.2.2.1 _ hp4
  obtain ⟨p1, p2, p3, p4, p5⟩ := hn.2.1 _ hp4
  unfold f_X7_mayClaim f_X7_mayClaim_0
  rw [gI_cs 422 k, Option.bind_some, hn.1.1]
  by_cases y1 : eS G 4 = 2
  · have hoff := hn.1.2.2.2.2.2.2.2 y1
    have hl25 : lst G < 25 := (hw.2.2.2.2.2.2.2.2.2.2 _ ht).2.2.2 _ (by have := hL y1; omega)
    have hle := (hw.2.2.2.2.2.2.2.2.2.2 _ hp4).1 _ hl25
    rw [if_pos (show nI (eS G 4) = 2 by rw [y1]; rfl), gI_cs 423 k, Option.bind_some, hn.1.2.1]
    by_cases y2 : p = eS G 5
    · rw [if_pos (congrArg nI y2), oMay_no G p w i (fun z => z.2.1 y2)]
      rfl
    · rw [if_neg (eq_f p (eS G 5) y2 (by omega) (by omega)), gR_cs 417 k h.1.2.1, Option.bind_some, h.pl hp4, Option.bind_some, gI_cs 390 hs1.1, Option.bind_some, p5]
      by_cases y3 : eC G p = true
      · rw [y3, if_neg (show ¬ b32 true = 0 by decide), oMay_no G p w i (fun z => absurd (z.2.2.symm.trans y3) (by decide))]
        rfl
      · have y3' : eC G p = false := by cases hx : eC G p; rfl; exact absurd hx y3
        rw [y3', if_pos (show b32 false = 0 from rfl), Option.bind_some, h.pl hp4, Option.bind_some, gR_cs 386 hs1.1 hs1.2.1, Option.bind_some, oMay_of G p w i y1 y2 y3']
        by_cases w0 : w = 0
        · rw [w0, if_pos (show nI 0 = 0 from rfl), if_neg (show ¬ (0 : Nat) = 1 by decide), if_neg (show ¬ (0 : Nat) = 2 by decide), gI_cs 430 k, Option.bind_some, hoff, lA_cs hh.1 (by rw [hh.2.1]; exact hl25) (by rw [hh.2.1]; decide), Option.bind_some, p1 _ hl25]
          by_cases z : 2 ≤ eH G p (lst G)
          · rw [if_neg (lt_f (y := 2) _ 2 z (by omega)), decide_eq_true z]
            rfl
          · rw [if_pos (lt_t (y := 2) (eH G p (lst G)) 2 (by omega) (by decide)), decide_eq_false z]
            rfl
        · by_cases w2 : w = 2
          · rw [w2, if_neg (show ¬ nI 2 = 0 by decide), if_pos (show nI 2 = 2 from rfl), if_neg (show ¬ (2 : Nat) = 1 by decide), if_pos (show (2 : Nat) = 2 from rfl), gI_cs 430 k, Option.bind_some, hoff, lA_cs hh.1 (by rw [hh.2.1]; exact hl25) (by rw [hh.2.1]; decide), Option.bind_some, p1 _ hl25]
            by_cases z : 3 ≤ eH G p (lst G)
            · rw [if_neg (lt_f (y := 3) _ 3 z (by omega)), decide_eq_true z, if_pos (show mK (cs I J A M) 1026 = 13 from k), r_mayFour h hn hw hd, Option.bind_some, Bool.true_and]
              dsimp only
              cases gF4 G
              · rfl
              · rfl
            · rw [if_pos (lt_t (y := 3) (eH G p (lst G)) 3 (by omega) (by decide)), decide_eq_false z, Bool.false_and]
              rfl
          · have w1 : w = 1 := by omega
            have em : zmd (nI (eS G 5 + 1)) 4 = nI ((eS G 5 + 1) % 4) := pk_rem (a := eS G 5 + 1) (d := 4) (by omega) (by decide) (by decide)
            rw [w1, if_neg (show ¬ nI 1 = 0 by decide), if_neg (show ¬ nI 1 = 2 by decide), if_pos rfl, Option.bind_some, nI_1, em]
            by_cases z : p = (eS G 5 + 1) % 4
            · rw [if_pos (congrArg nI z), decide_eq_true z, Bool.true_and, r_isRun3, Option.bind_some]
              unfold crow
              dsimp only
              rcases nI_all i with u | ⟨n, u1, rfl⟩
              · rw [if_pos u, if_pos u]
                rfl
              · rw [if_neg (nI_nn u1), if_neg (nI_nn u1), nI_cl u1]
                by_cases r : rw_ n = true
                · have hn18 := rw_lt r
                  have e2 : nI n + 2 = nI (n + 2) := nI_add n 2
                  rw [r, if_neg (show ¬ b32 true = 0 by decide), gI_cs 430 k, Option.bind_some, hoff, r_isIn, Option.bind_some, e2]
                  dsimp only
                  by_cases v1 : n ≤ lst G
                  · by_cases v2 : lst G ≤ n + 2
                    · rw [if_neg (lt_f (lst G) n v1 (by omega)), if_neg (lt_f (n + 2) (lst G) v2 (by omega)), if_neg (show ¬ (1 : Int32) = 0 by decide), if_pos ⟨rfl, v1, v2⟩]
                      exact r_crl hh.1 hh.2.1 k hoff hl25 p1 (hw.2.2.2.2.2.2.2.2.2.2 _ hp4).1 hn18 3 zN n rfl (by decide)
                    · rw [if_neg (lt_f (lst G) n v1 (by omega)), if_pos (lt_t (n + 2) (lst G) (by omega) (by omega)), if_pos rfl, if_neg (fun q => v2 q.2.2)]
                      rfl
                  · rw [if_pos (lt_t (lst G) n (by omega) (by omega)), if_pos rfl, if_neg (fun q => v1 q.2.1)]
                    rfl
                · have r' : rw_ n = false := by cases hx : rw_ n; rfl; exact absurd hx r
                  rw [r', if_pos (show b32 false = 0 from rfl), if_neg (fun q => absurd q.1 (by decide))]
                  rfl
            · rw [if_neg (eq_f p ((eS G 5 + 1) % 4) z (by omega) (by omega)), decide_eq_false z, Bool.false_and]
              rfl
  · rw [if_neg (eq_f (y := 2) (eS G 4) 2 y1 (by omega) (by decide)), oMay_no G p w i (fun z => y1 z.1)]
    rfl
end RCLAIM
