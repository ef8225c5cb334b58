/-! ===== PURE: the class's questions: an answer or an exception, and the game is kept ===== -/
/-- it comes to an end, and keeps the game -/
def KP {α : Type} (I : Nat → Nat → Int32) (J : Nat → Nat → Int64) (M : zM) (G : zG) (x : Option ((String ⊕ α) × zM)) : Prop := (∃ v A', x = some (.inr v, cs I J A' M) ∧ CR I J A' G) ∨ (∃ v A', x = some (.inl v, cs I J A' (nE M)) ∧ CR I J A' G)
section ASK
variable {I : Nat → Nat → Int32} {J : Nat → Nat → Int64} {A : Nat → Nat → Int32} {M : zM} {G : zG}
theorem q_pl (i : Int32) (M : zM) : (∃ p, p < 4 ∧ i = nI p ∧ f_X3_requirePlayer i M = some (.inr (), M)) ∨ f_X3_requirePlayer i M = some (.inl "java/lang/IndexOutOfBoundsException", nE M) := by
  unfold f_X3_requirePlayer f_X3_requirePlayer_0
  rcases nI_all i with z | ⟨n, z1, rfl⟩
  · rw [if_pos z]; exact Or.inr rfl
  · rw [if_neg (nI_nn z1)]
    by_cases y : n < 4
    · rw [if_pos (lt_t (y := 4) n 4 y (by decide))]
      exact Or.inl ⟨n, y, rfl, rfl⟩
    · rw [if_neg (lt_f (y := 4) n 4 (by omega) z1)]
      exact Or.inr rfl
theorem q_kd (i : Int32) (M : zM) : (∃ k, k < 25 ∧ i = nI k ∧ f_X3_requireKind i M = some (.inr (), M)) ∨ f_X3_requireKind i M = some (.inl "java/lang/IllegalArgumentException", nE M) := by
  by_cases y : oBad i
  · exact Or.inr (q_bad y M)
  · obtain ⟨k, hk, rfl⟩ := oBad_no y
    exact Or.inl ⟨k, hk, rfl, q_requireKind_ok hk M⟩
theorem q_has (h : CSH M) (hc : CR I J A G) (i1 i2 : Int32) : KP I J M G (f_X3_has 1000 i1 i2 (cs I J A M)) := by
  unfold f_X3_has f_X3_has_0
  rcases q_pl i1 (cs I J A M) with ⟨p, hp, rfl, e⟩ | e
  · rw [e]
    rcases q_kd i2 (cs I J A M) with ⟨k, hk, rfl, e2⟩ | e2
    · have hsp := h.2.2.2.2.2.2.2.1 _ hp
      show KP I J M G (xb (f_X3_requireKind (nI k) (cs I J A M)) _)
      rw [e2]
      show KP I J M G ((gR 9 0 (cs I J A M) 1000).bind _)
      rw [gR_cs 288 h.1 h.2.1, Option.bind_some, h.seat hp, Option.bind_some, if_pos (show mK (cs I J A M) (1010 + 4 * p) = 7 from hsp.1), q_count hsp hk, Option.bind_some]
      exact Or.inl ⟨_, A, rfl, hc⟩
    · show KP I J M G (xb (f_X3_requireKind i2 (cs I J A M)) _)
      rw [e2]
      exact Or.inr ⟨_, A, rfl, hc⟩
  · rw [e]
    exact Or.inr ⟨_, A, rfl, hc⟩
theorem q_waits (h : CSH M) (hw : WF G) (hc : CR I J A G) (i1 : Int32) : KP I J M G (f_X3_waits 1000 i1 (cs I J A M)) := by
  unfold f_X3_waits f_X3_waits_0
  rcases q_pl i1 (cs I J A M) with ⟨p, hp, rfl, e⟩ | e
  · rw [e]
    obtain ⟨A1, e1, f1⟩ := q_waitsG h hc hw hp
    show KP I J M G ((gR 9 0 (cs I J A M) 1000).bind _)
    rw [gR_cs 288 h.1 h.2.1, Option.bind_some, h.seat hp, Option.bind_some, if_pos (show mK (cs I J A M) 1000 = 9 from h.1), e1, Option.bind_some]
    exact Or.inl ⟨_, A1, rfl, hc.own f1⟩
  · rw [e]
    exact Or.inr ⟨_, A, rfl, hc⟩
end ASK
/-! ===== PURE: the class's questions, 2 ===== -/
section ASK2
variable {I : Nat → Nat → Int32} {J : Nat → Nat → Int64} {A : Nat → Nat → Int32} {M : zM} {G : zG}
theorem q_river (h : CSH M) (hc : CR I J A G) (i1 i2 : Int32) : KP I J M G (f_X3_river 1000 i1 i2 (cs I J A M)) := by
  unfold f_X3_river f_X3_river_0
  have bad : KP I J M G (f_X3_river_29 (cs I J A M)) := Or.inr ⟨_, A, rfl, hc⟩
  rcases q_pl i1 (cs I J A M) with ⟨p, hp, rfl, e⟩ | e
  · rw [e]
    have hsp := h.2.2.2.2.2.2.2.1 _ hp
    show KP I J M G ((gR 9 0 (cs I J A M) 1000).bind _)
    rw [gR_cs 288 h.1 h.2.1, Option.bind_some, h.seat hp, Option.bind_some]
    rcases nI_all i2 with z | ⟨n, z1, rfl⟩
    · rw [if_pos z]
      exact bad
    · rw [if_neg (nI_nn z1), gI_cs 229 hsp.1, Option.bind_some]
      split
      · exact bad
      · by_cases y : n < 64
        · rw [if_pos (lt_t (y := 64) n 64 y (by decide)), gR_cs 226 hsp.1 hsp.2.2.2.1, Option.bind_some, lA_cs hsp.2.2.2.2.2.2.1 (by rw [hsp.2.2.2.2.2.2.2]; exact y) (by rw [hsp.2.2.2.2.2.2.2]; decide), Option.bind_some]
          exact Or.inl ⟨_, A, rfl, hc⟩
        · rw [if_neg (lt_f (y := 64) n 64 (by omega) z1)]
          exact bad
  · rw [e]
    exact Or.inr ⟨_, A, rfl, hc⟩
theorem q_ofSet (h : CSH M) (hc : CR I J A G) (i1 i2 : Int32) : KP I J M G (f_X3_ofSet 1000 i1 i2 (cs I J A M)) := by
  unfold f_X3_ofSet f_X3_ofSet_0
  have bad : KP I J M G (f_X3_ofSet_28 (cs I J A M)) := Or.inr ⟨_, A, rfl, hc⟩
  rcases q_pl i1 (cs I J A M) with ⟨p, hp, rfl, e⟩ | e
  · rw [e]
    have hsp := h.2.2.2.2.2.2.2.1 _ hp
    show KP I J M G ((gR 9 0 (cs I J A M) 1000).bind _)
    rw [gR_cs 288 h.1 h.2.1, Option.bind_some, h.seat hp, Option.bind_some]
    rcases nI_all i2 with z | ⟨n, z1, rfl⟩
    · rw [if_pos z]
      exact bad
    · rw [if_neg (nI_nn z1), gI_cs 228 hsp.1, Option.bind_some]
      split
      · exact bad
      · by_cases y : n < 3
        · rw [if_pos (lt_t (y := 3) n 3 y (by decide)), gR_cs 225 hsp.1 hsp.2.2.1, Option.bind_some, lA_cs hsp.2.2.2.2.2.1.1 (by rw [hsp.2.2.2.2.2.1.2]; exact y) (by rw [hsp.2.2.2.2.2.1.2]; decide), Option.bind_some]
          exact Or.inl ⟨_, A, rfl, hc⟩
        · rw [if_neg (lt_f (y := 3) n 3 (by omega) z1)]
          exact bad
  · rw [e]
    exact Or.inr ⟨_, A, rfl, hc⟩
theorem q_seen_8 (h : CSH M) (hw : WF G) (hc : CR I J A G) (k : Int32) : ∀ (d n i : Nat) (v : Int32), i + d = 4 → d < n → KP I J M G (f_X3_seen_8 n 1000 k v (nI i) (cs I J A M)) := by
  intro d
  induction d with
  | zero =>
    intro n i v hi hn
    obtain ⟨n, rfl⟩ : ∃ m, n = m + 1 := ⟨n - 1, by omega⟩
    rw [f_X3_seen_8, if_pos (le_t (x := 4) 4 i (by omega) (by omega))]
    exact Or.inl ⟨_, A, rfl, hc⟩
  | succ d ih =>
    intro n i v hi hn
    obtain ⟨n, rfl⟩ : ∃ m, n = m + 1 := ⟨n - 1, by omega⟩
    have hp : i < 4 := by omega
    have hsp := h.2.2.2.2.2.2.2.1 _ hp
    obtain ⟨d1, d2, d3, d4, d5, d6, d7⟩ := hc.2 _ hp
    obtain ⟨v1, v2, v3, v4⟩ := hw.2.2.2.2.2.2.2.2.2.2 _ hp
    rw [f_X3_seen_8, if_neg (le_f (x := 4) 4 i (by omega) (by decide)), gR_cs 288 h.1 h.2.1, Option.bind_some, h.seat hp, Option.bind_some, if_pos (show mK (cs I J A M) (1010 + 4 * i) = 7 from hsp.1), q_lying hsp d2 v2 d4 (by omega), Option.bind_some, nI_1]
    exact ih n (i + 1) _ (by omega) (by omega)
theorem q_seen (h : CSH M) (hw : WF G) (hc : CR I J A G) (i1 : Int32) : KP I J M G (f_X3_seen 1000 i1 (cs I J A M)) := by
  unfold f_X3_seen f_X3_seen_0
  rcases q_kd i1 (cs I J A M) with ⟨k, hk, rfl, e⟩ | e
  · rw [e]
    exact q_seen_8 h hw hc (nI k) 4 zN 0 0 rfl (by decide)
  · rw [e]
    exact Or.inr ⟨_, A, rfl, hc⟩
end ASK2
/-! ===== PURE: the class's questions, 3 ===== -/
section ASK3
variable {I : Nat → Nat → Int32} {J : Nat → Nat → Int64} {A : Nat → Nat → Int32} {M : zM} {G : zG}
theorem own_frm {A A' : Nat → Nat → Int32} (h : FRM 1003 A A') : ∀ b, ¬ OWN b → A' b = A b := fun b hb => h b (by
  unfold OWN at hb
  omega)
theorem q_many (h : CSH M) (hw : WF G) (hc : CR I J A G) (i : Int32) : KP I J M G (f_X3_many 1000 i (cs I J A M)) := by
  have hs := hc.1
  obtain ⟨w0, w1, w2, w3, w4, ht, w6, w7, w8, w9, w10⟩ := hw
  have hse := h.2.2.2.2.2.2.2.1 _ ht
  obtain ⟨c1, c2, c3, c4, c5, c6, c7⟩ := hc.2 _ ht
  have hm := (w10 _ ht).2.2.1
  have ok : ∀ v : Int32, KP I J M G (some (Sum.inr v, cs I J A M)) := fun v => Or.inl ⟨_, A, rfl, hc⟩
  unfold f_X3_many f_X3_many_0
  by_cases y0 : i = 0
  · rw [if_pos y0, gI_cs 295 h.1]; exact ok _
  rw [if_neg y0]
  by_cases y1 : i = 1
  · rw [if_pos y1, gI_cs 295 h.1, Option.bind_some]
    split
    · exact ok _
    · rw [gI_cs 296 h.1]; exact ok _
  rw [if_neg y1]
  by_cases y2 : i = 2
  · rw [if_pos y2, if_pos (show mK (cs I J A M) 1000 = 9 from h.1), q_tilesLeft h hs.2.2.2.2.2.2.2.1 (by omega) hs.2.2.1 hs.2.2.2.1 w2]; exact ok _
  rw [if_neg y2]
  by_cases y3 : i = 3
  · rw [if_pos y3, gI_cs 300 h.1]; exact ok _
  rw [if_neg y3]
  by_cases y4 : i = 4
  · rw [if_pos y4, gI_cs 295 h.1, Option.bind_some]
    split
    · rw [if_pos (show mK (cs I J A M) 1000 = 9 from h.1), q_seatInTurn h ht hs.2.2.2.2.2.1, Option.bind_some, if_pos (show mK (cs I J A M) (1010 + 4 * eS G 5) = 7 from hse.1), q_latest hse c4 (by omega)]
      exact ok _
    · exact ok _
  rw [if_neg y4]
  by_cases y5 : i = 5
  · rw [if_pos y5, gI_cs 294 h.1]; exact ok _
  rw [if_neg y5]
  by_cases y6 : i = 6
  · rw [if_pos y6, gI_cs 299 h.1]; exact ok _
  rw [if_neg y6]
  by_cases y7 : i = 7
  · rw [if_pos y7, gI_cs 298 h.1]; exact ok _
  rw [if_neg y7]
  by_cases y8 : i = 8
  · rw [if_pos y8, gI_cs 297 h.1]; exact ok _
  rw [if_neg y8]
  by_cases y9 : i = 9
  · rw [if_pos y9, gI_cs 301 h.1]; exact ok _
  rw [if_neg y9]
  exact Or.inr ⟨_, A, rfl, hc⟩
theorem q_ofPlayer (hA : AT A M) (h : CSH M) (hw : WF G) (hc : CR I J A G) (i1 i : Int32) : KP I J M G (f_X3_ofPlayer 1000 i1 i (cs I J A M)) := by
  unfold f_X3_ofPlayer f_X3_ofPlayer_0
  rcases q_pl i1 (cs I J A M) with ⟨p, hp, rfl, e⟩ | e
  · rw [e]
    have hsp := h.2.2.2.2.2.2.2.1 _ hp
    obtain ⟨d1, d2, d3, d4, d5, d6, d7⟩ := hc.2 _ hp
    obtain ⟨v1, v2, v3, v4⟩ := hw.2.2.2.2.2.2.2.2.2.2 _ hp
    have ok : ∀ v : Int32, KP I J M G (some (Sum.inr v, cs I J A M)) := fun v => Or.inl ⟨_, A, rfl, hc⟩
    show KP I J M G ((gR 9 0 (cs I J A M) 1000).bind _)
    rw [gR_cs 288 h.1 h.2.1, Option.bind_some, h.seat hp, Option.bind_some]
    by_cases y0 : i = 0
    · rw [if_pos y0, gI_cs 231 hsp.1]; exact ok _
    rw [if_neg y0]
    by_cases y1 : i = 1
    · rw [if_pos y1, gI_cs 228 hsp.1]; exact ok _
    rw [if_neg y1]
    by_cases y2 : i = 2
    · rw [if_pos y2, if_pos (show mK (cs I J A M) (1010 + 4 * p) = 7 from hsp.1), q_openSets hsp d2 v2]; exact ok _
    rw [if_neg y2]
    by_cases y3 : i = 3
    · rw [if_pos y3, if_pos (show mK (cs I J A M) (1010 + 4 * p) = 7 from hsp.1), q_inHand hsp]; exact ok _
    rw [if_neg y3]
    by_cases y4 : i = 4
    · rw [if_pos y4, gI_cs 229 hsp.1]; exact ok _
    rw [if_neg y4]
    by_cases y5 : i = 5
    · rw [if_pos y5, gI_cs 230 hsp.1, Option.bind_some]
      split
      · exact ok _
      · exact ok _
    rw [if_neg y5]
    by_cases y6 : i = 6
    · obtain ⟨v, A2, e2, f2⟩ := q_far (I := I) (J := J) hA h.2.2.2.2.2.1 (t := 1011 + 4 * p) (N := eN G p) hsp.2.2.2.2.1 (by omega) v2 A
      rw [if_pos y6, gR_cs 289 h.1 h.2.2.1, Option.bind_some, gR_cs 224 hsp.1 hsp.2.1, Option.bind_some, gI_cs 228 hsp.1, Option.bind_some, if_pos (show mK (cs I J A M) 1002 = 6 from h.2.2.2.2.2.1.1), d2, e2]
      exact Or.inl ⟨_, A2, rfl, hc.own (own_frm f2)⟩
    rw [if_neg y6]
    by_cases y7 : i = 7
    · obtain ⟨z, e2⟩ := q_windOf (I := I) (J := J) (A := A) h (nI p)
      rw [if_pos y7, if_pos (show mK (cs I J A M) 1000 = 9 from h.1), e2]; exact ok _
    rw [if_neg y7]
    by_cases y8 : i = 8
    · rw [if_pos y8, gI_cs 232 hsp.1]; exact ok _
    rw [if_neg y8]
    by_cases y9 : i = 9
    · obtain ⟨A1, e1, f1⟩ := q_waitsG h hc hw hp
      have ok1 : ∀ v : Int32, KP I J M G (some (Sum.inr v, cs I J A1 M)) := fun v => Or.inl ⟨_, A1, rfl, hc.own f1⟩
      rw [if_pos y9, if_pos (show mK (cs I J A M) 1000 = 9 from h.1), e1, Option.bind_some, gJ_cs 227 hsp.1, Option.bind_some]
      split
      · exact ok1 _
      · exact ok1 _
    rw [if_neg y9]
    exact Or.inr ⟨_, A, rfl, hc⟩
  · rw [e]
    exact Or.inr ⟨_, A, rfl, hc⟩
end ASK3
/-! ===== PURE: the class's questions, 4 ===== -/
section ASK4
variable {I : Nat → Nat → Int32} {J : Nat → Nat → Int64} {A : Nat → Nat → Int32} {M : zM} {G : zG}
theorem q_isSafe_10 (h : CSH M) (hc : CR I J A G) (x k : Int32) : ∀ (d n i : Nat), i + d = 4 → d < n → KP I J M G (f_X3_isSafe_10 n 1000 x k (nI i) (cs I J A M)) := by
  intro d
  induction d with
  | zero =>
    intro n i hi hn
    obtain ⟨n, rfl⟩ : ∃ m, n = m + 1 := ⟨n - 1, by omega⟩
    rw [f_X3_isSafe_10, if_pos (le_t (x := 4) 4 i (by omega) (by omega))]
    exact Or.inl ⟨_, A, rfl, hc⟩
  | succ d ih =>
    intro n i hi hn
    obtain ⟨n, rfl⟩ : ∃ m, n = m + 1 := ⟨n - 1, by omega⟩
    have hp : i < 4 := by omega
    have hsp := h.2.2.2.2.2.2.2.1 _ hp
    have go := ih n (i + 1) (by omega) (by omega)
    rw [f_X3_isSafe_10, if_neg (le_f (x := 4) 4 i (by omega) (by decide)), nI_1]
    split
    · exact go
    · rw [gR_cs 288 h.1 h.2.1, Option.bind_some, h.seat hp, Option.bind_some, gI_cs 230 hsp.1, Option.bind_some]
      split
      · exact go
      · rw [Option.bind_some, h.seat hp, Option.bind_some, gJ_cs 227 hsp.1, Option.bind_some]
        split
        · exact Or.inl ⟨_, A, rfl, hc⟩
        · exact go
theorem q_isSafe (h : CSH M) (hc : CR I J A G) (i1 i2 : Int32) : KP I J M G (f_X3_isSafe 1000 i1 i2 (cs I J A M)) := by
  unfold f_X3_isSafe f_X3_isSafe_0
  rcases q_pl i1 (cs I J A M) with ⟨p, hp, rfl, e⟩ | e
  · rw [e]
    show KP I J M G (xb (f_X3_requireKind i2 (cs I J A M)) _)
    rcases q_kd i2 (cs I J A M) with ⟨k, hk, rfl, e2⟩ | e2
    · rw [e2]
      exact q_isSafe_10 h hc (nI p) (nI k) 4 zN 0 rfl (by decide)
    · rw [e2]
      exact Or.inr ⟨_, A, rfl, hc⟩
  · rw [e]
    exact Or.inr ⟨_, A, rfl, hc⟩
end ASK4
/-! ===== PURE: the class's questions, 5 ===== -/
section ASK5
variable {I : Nat → Nat → Int32} {J : Nat → Nat → Int64} {A : Nat → Nat → Int32} {M : zM} {G : zG}
theorem q_worth (h : CSH M) (hw : WF G) (hc : CR I J A G) (i1 i2 : Int32) : KP I J M G (f_X3_worth 1000 i1 i2 (cs I J A M)) := by
  unfold f_X3_worth f_X3_worth_0
  rcases q_pl i1 (cs I J A M) with ⟨p, hp, rfl, e⟩ | e
  · rw [e]
    show KP I J M G (xb (f_X3_requireKind i2 (cs I J A M)) _)
    rcases q_kd i2 (cs I J A M) with ⟨k, hk, rfl, e2⟩ | e2
    · rw [e2]
      have hsp := h.2.2.2.2.2.2.2.1 _ hp
      have hva : VA M 1008 1009 := h.2.2.2.2.2.2.1
      obtain ⟨A1, e1, f1⟩ := q_waitsG h hc hw hp
      have hc1 := hc.own f1
      obtain ⟨d1, d2, d3, d4, d5, d6, d7⟩ := hc1.2 _ hp
      have v2 := (hw.2.2.2.2.2.2.2.2.2.2 _ hp).2.1
      show KP I J M G ((gR 9 0 (cs I J A M) 1000).bind _)
      rw [gR_cs 288 h.1 h.2.1, Option.bind_some, h.seat hp, Option.bind_some, if_pos (show mK (cs I J A M) 1000 = 9 from h.1), e1, Option.bind_some]
      split
      · exact Or.inl ⟨_, A1, rfl, hc1⟩
      · obtain ⟨wd, e3⟩ := q_windOf (I := I) (J := J) (A := u2 A1 (1011 + 4 * p) k (A1 (1011 + 4 * p) k + 1)) h (nI p)
        obtain ⟨z, w', e4⟩ := q_value (J := J) (A := u2 A1 (1011 + 4 * p) k (A1 (1011 + 4 * p) k + 1)) hva hsp ⟨by omega, by omega⟩ d2 v2 0 (I 300 1000) wd
        rw [if_pos (show mK (cs I J A1 M) (1010 + 4 * p) = 7 from hsp.1), q_change hsp hk 1, Option.bind_some, gR_cs 290 h.1 h.2.2.2.1, Option.bind_some, gI_cs 300 h.1, Option.bind_some, if_pos (show mK (cs I J _ M) 1000 = 9 from h.1), e3, Option.bind_some, if_pos (show mK (cs I J _ M) 1008 = 8 from hva.1), e4, Option.bind_some, if_pos (show mK (cs I J _ M) (1010 + 4 * p) = 7 from hsp.1), q_change hsp hk (-1), Option.bind_some]
        have e5 : ur (u2 A1 (1011 + 4 * p) k (A1 (1011 + 4 * p) k + 1)) 1009 w' (1011 + 4 * p) k + -1 = A1 (1011 + 4 * p) k := by
          have e6 : ur (u2 A1 (1011 + 4 * p) k (A1 (1011 + 4 * p) k + 1)) 1009 w' (1011 + 4 * p) k = A1 (1011 + 4 * p) k + 1 := (ur_ne _ k w' (by omega)).trans (if_pos ⟨rfl, rfl⟩)
          rw [e6]
          grind
        rw [e5, u2_ur_ne _ k _ w' (by omega), u2_back A1 (1011 + 4 * p) k _ _ rfl]
        exact Or.inl ⟨_, _, rfl, hc1.own (own_ur A1 w' (q := 1009) (Or.inr rfl))⟩
    · rw [e2]
      exact Or.inr ⟨_, A, rfl, hc⟩
  · rw [e]
    exact Or.inr ⟨_, A, rfl, hc⟩
end ASK5
/-! ===== PURE: the class's questions, 6: best ===== -/
section ASK6
variable {I : Nat → Nat → Int32} {J : Nat → Nat → Int64} {A : Nat → Nat → Int32} {M : zM} {G : zG}
theorem q_fourLeads_4 (h : CSH M) {p : Nat} (hp : p < 4) : ∀ (d n i : Nat) (v : Int32), i + d = 4 → d < n → ∃ z, f_X3_fourLeads_4 n 1000 (nI p) v (nI i) (cs I J A M) = some (z, cs I J A M) := by
  have hsp := h.2.2.2.2.2.2.2.1 _ hp
  intro d
  induction d with
  | zero =>
    intro n i v hi hn
    obtain ⟨n, rfl⟩ : ∃ m, n = m + 1 := ⟨n - 1, by omega⟩
    rw [f_X3_fourLeads_4, if_pos (le_t (x := 4) 4 i (by omega) (by omega)), gR_cs 288 h.1 h.2.1, Option.bind_some, h.seat hp, Option.bind_some, gI_cs 231 hsp.1]
    exact ⟨_, rfl⟩
  | succ d ih =>
    intro n i v hi hn
    obtain ⟨n, rfl⟩ : ∃ m, n = m + 1 := ⟨n - 1, by omega⟩
    have hi4 : i < 4 := by omega
    have hsi := h.2.2.2.2.2.2.2.1 _ hi4
    rw [f_X3_fourLeads_4, if_neg (le_f (x := 4) 4 i (by omega) (by decide)), gR_cs 288 h.1 h.2.1, Option.bind_some, h.seat hi4, Option.bind_some, gI_cs 231 hsi.1, Option.bind_some, nI_1]
    exact ih n (i + 1) _ (by omega) (by omega)
theorem q_fourLeads (h : CSH M) {p : Nat} (hp : p < 4) : ∃ z, f_X3_fourLeads 1000 (nI p) (cs I J A M) = some (z, cs I J A M) := q_fourLeads_4 h hp 4 zN 0 0 rfl (by decide)
theorem q_farWith (hA : AT A M) (h : CSH M) (hw : WF G) (hc : CR I J A G) {p k : Nat} (hp : p < 4) (hk : k < 25) (x : Int32) : ∃ z A', f_X3_farWith 1000 (1010 + 4 * p) (nI k) x (cs I J A M) = some (z, cs I J A' M) ∧ ∀ b, ¬ OWN b → A' b = A b := by
  have hsp := h.2.2.2.2.2.2.2.1 _ hp
  obtain ⟨d1, d2, d3, d4, d5, d6, d7⟩ := hc.2 _ hp
  have v2 := (hw.2.2.2.2.2.2.2.2.2.2 _ hp).2.1
  obtain ⟨v, A2, e2, f2⟩ := q_far (I := I) (J := J) hA h.2.2.2.2.2.1 (t := 1011 + 4 * p) (N := eN G p) hsp.2.2.2.2.1 (by omega) v2 (u2 A (1011 + 4 * p) k (A (1011 + 4 * p) k + x))
  unfold f_X3_farWith f_X3_farWith_0
  rw [if_pos (show mK (cs I J A M) (1010 + 4 * p) = 7 from hsp.1), q_change hsp hk x, Option.bind_some, gR_cs 289 h.1 h.2.2.1, Option.bind_some, gR_cs 224 hsp.1 hsp.2.1, Option.bind_some, gI_cs 228 hsp.1, Option.bind_some, if_pos (show mK (cs I J _ M) 1002 = 6 from h.2.2.2.2.2.1.1), d2, e2, Option.bind_some, if_pos (show mK (cs I J A2 M) (1010 + 4 * p) = 7 from hsp.1), q_change hsp hk (-x), Option.bind_some]
  refine ⟨_, _, rfl, fun b hb => ?_⟩
  have e3 : A2 b = u2 A (1011 + 4 * p) k (A (1011 + 4 * p) k + x) b := own_frm f2 b hb
  funext j
  show (if b = 1011 + 4 * p ∧ j = k then A2 (1011 + 4 * p) k + -x else A2 b j) = A b j
  by_cases y : b = 1011 + 4 * p ∧ j = k
  · rw [if_pos y]
    obtain ⟨rfl, rfl⟩ := y
    rw [e3]
    show (if 1011 + 4 * p = 1011 + 4 * p ∧ j = j then A (1011 + 4 * p) j + x else A (1011 + 4 * p) j) + -x = _
    rw [if_pos ⟨rfl, rfl⟩]
    grind
  · rw [if_neg y, e3]
    exact if_neg y
end ASK6
/-! ===== PURE: the class's questions, 7: best, outs ===== -/
section ASK7
variable {I : Nat → Nat → Int32} {J : Nat → Nat → Int64} {M : zM} {G : zG}
theorem q_best_22 (hA : ∀ A, AT A M) (h : CSH M) (hw : WF G) {p : Nat} (hp : p < 4) : ∀ (d n i : Nat) (b : Int32) (v : Int32) (A : Nat → Nat → Int32), i + d = 25 → d < n → (b = -1 ∨ ∃ c, c < 25 ∧ b = nI c) → CR I J A G → ∃ z A', f_X3_best_22 n 1000 (1010 + 4 * p) b v (nI i) (cs I J A M) = some (z, cs I J A' M) ∧ CR I J A' G := by
  have hsp := h.2.2.2.2.2.2.2.1 _ hp
  intro d
  induction d with
  | zero =>
    intro n i b v A hi hn hb hc
    obtain ⟨n, rfl⟩ : ∃ m, n = m + 1 := ⟨n - 1, by omega⟩
    rw [f_X3_best_22, if_pos (le_t (x := 25) 25 i (by omega) (by omega))]
    exact ⟨_, A, rfl, hc⟩
  | succ d ih =>
    intro n i b v A hi hn hb hc
    obtain ⟨n, rfl⟩ : ∃ m, n = m + 1 := ⟨n - 1, by omega⟩
    have hk : i < 25 := by omega
    rw [f_X3_best_22, if_neg (le_f (x := 25) 25 i (by omega) (by decide)), if_pos (show mK (cs I J A M) (1010 + 4 * p) = 7 from hsp.1), q_count hsp hk, Option.bind_some, nI_1]
    split
    · exact ih n (i + 1) b v A (by omega) (by omega) hb hc
    · obtain ⟨z, A1, e1, f1⟩ := q_farWith (A := A) (hA A) h hw hc hp hk (-1)
      have hc1 := hc.own f1
      have i96 : ∀ u : Int32, ∃ z A', f_X3_best_96 (f_X3_best_22 n) 1000 (1010 + 4 * p) (nI i) u (cs I J A1 M) = some (z, cs I J A' M) ∧ CR I J A' G := fun u => by
        unfold f_X3_best_96
        rw [nI_1]
        exact ih n (i + 1) _ _ A1 (by omega) (by omega) (Or.inr ⟨i, hk, rfl⟩) hc1
      have i72 : ∀ u t : Int32, ∃ z A', f_X3_best_72 (f_X3_best_22 n) 1000 (1010 + 4 * p) b v (nI i) u t (cs I J A1 M) = some (z, cs I J A' M) ∧ CR I J A' G := fun u t => by
        unfold f_X3_best_72
        rw [nI_1]
        have go := ih n (i + 1) b v A1 (by omega) (by omega) hb hc1
        split
        · exact i96 u
        · split
          · exact i96 u
          · split
            · split
              · exact go
              · exact i96 u
            · exact go
      rw [if_pos (show mK (cs I J A M) 1000 = 9 from h.1), e1, Option.bind_some]
      split
      · exact i72 z 0
      · next q =>
        obtain ⟨c, hc25, rfl⟩ := hb.resolve_left q
        rw [if_pos (show mK (cs I J A1 M) (1010 + 4 * p) = 7 from hsp.1), q_count hsp hk, Option.bind_some, if_pos (show mK (cs I J A1 M) (1010 + 4 * p) = 7 from hsp.1), q_count hsp hc25, Option.bind_some]
        split
        · exact i72 z 0
        · exact i72 z 1
end ASK7
/-! ===== PURE: the class's questions, 8: outs ===== -/
section ASK8
variable {I : Nat → Nat → Int32} {J : Nat → Nat → Int64} {A : Nat → Nat → Int32} {M : zM} {G : zG}
theorem q_best (hA : ∀ A, AT A M) (h : CSH M) (hw : WF G) (hc : CR I J A G) : ∃ z A', f_X3_best 1000 (cs I J A M) = some (z, cs I J A' M) ∧ CR I J A' G := by
  have ht := hw.2.2.2.2.2.1
  unfold f_X3_best f_X3_best_0
  rw [gI_cs 295 h.1, Option.bind_some]
  split
  · rw [if_pos (show mK (cs I J A M) 1000 = 9 from h.1), q_seatInTurn h ht hc.1.2.2.2.2.2.1, Option.bind_some]
    exact q_best_22 hA h hw ht 25 zN 0 (-1) 0 A rfl (by decide) (Or.inl rfl) hc
  · exact ⟨_, A, rfl, hc⟩
theorem q_seen_8v (h : CSH M) (hw : WF G) (hc : CR I J A G) (k : Int32) : ∀ (d n i : Nat) (v : Int32), i + d = 4 → d < n → ∃ z, f_X3_seen_8 n 1000 k v (nI i) (cs I J A M) = some (.inr z, cs I J A M) := by
  intro d
  induction d with
  | zero =>
    intro n i v hi hn
    obtain ⟨n, rfl⟩ : ∃ m, n = m + 1 := ⟨n - 1, by omega⟩
    rw [f_X3_seen_8, if_pos (le_t (x := 4) 4 i (by omega) (by omega))]
    exact ⟨_, rfl⟩
  | succ d ih =>
    intro n i v hi hn
    obtain ⟨n, rfl⟩ : ∃ m, n = m + 1 := ⟨n - 1, by omega⟩
    have hp : i < 4 := by omega
    have hsp := h.2.2.2.2.2.2.2.1 _ hp
    obtain ⟨d1, d2, d3, d4, d5, d6, d7⟩ := hc.2 _ hp
    obtain ⟨v1, v2, v3, v4⟩ := hw.2.2.2.2.2.2.2.2.2.2 _ hp
    rw [f_X3_seen_8, if_neg (le_f (x := 4) 4 i (by omega) (by decide)), gR_cs 288 h.1 h.2.1, Option.bind_some, h.seat hp, Option.bind_some, if_pos (show mK (cs I J A M) (1010 + 4 * i) = 7 from hsp.1), q_lying hsp d2 v2 d4 (by omega), Option.bind_some, nI_1]
    exact ih n (i + 1) _ (by omega) (by omega)
theorem q_outs_44 (hA : ∀ A, AT A M) (h : CSH M) (hw : WF G) {p : Nat} (hp : p < 4) (x : Int32) : ∀ (d n i : Nat) (v : Int32) (A : Nat → Nat → Int32), i + d = 25 → d < n → CR I J A G → KP I J M G (f_X3_outs_44 n 1000 (1010 + 4 * p) x v (nI i) (cs I J A M)) := by
  have hsp := h.2.2.2.2.2.2.2.1 _ hp
  intro d
  induction d with
  | zero =>
    intro n i v A hi hn hc
    obtain ⟨n, rfl⟩ : ∃ m, n = m + 1 := ⟨n - 1, by omega⟩
    rw [f_X3_outs_44, if_pos (le_t (x := 25) 25 i (by omega) (by omega))]
    exact Or.inl ⟨_, A, rfl, hc⟩
  | succ d ih =>
    intro n i v A hi hn hc
    obtain ⟨n, rfl⟩ : ∃ m, n = m + 1 := ⟨n - 1, by omega⟩
    have hk : i < 25 := by omega
    obtain ⟨w, e2⟩ := q_seen_8v h hw hc (nI i) 4 zN 0 0 rfl (by decide)
    have e3 : f_X3_seen 1000 (nI i) (cs I J A M) = some (.inr w, cs I J A M) := by
      unfold f_X3_seen f_X3_seen_0
      rw [q_requireKind_ok hk]
      exact e2
    obtain ⟨z, A1, e1, f1⟩ := q_farWith (A := A) (hA A) h hw hc hp hk 1
    have hc1 := hc.own f1
    rw [f_X3_outs_44, if_neg (le_f (x := 25) 25 i (by omega) (by decide)), if_pos (show mK (cs I J A M) (1010 + 4 * p) = 7 from hsp.1), q_count hsp hk, Option.bind_some, if_pos (show mK (cs I J A M) 1000 = 9 from h.1), e3, nI_1]
    show KP I J M G (if _ ≤ (0 : Int32) then _ else _)
    split
    · exact ih n (i + 1) v A (by omega) (by omega) hc
    · rw [if_pos (show mK (cs I J A M) 1000 = 9 from h.1), e1, Option.bind_some]
      split
      · exact ih n (i + 1) _ A1 (by omega) (by omega) hc1
      · exact ih n (i + 1) _ A1 (by omega) (by omega) hc1
theorem q_outs (hA : ∀ A, AT A M) (h : CSH M) (hw : WF G) (hc : CR I J A G) (i1 : Int32) : KP I J M G (f_X3_outs 1000 i1 (cs I J A M)) := by
  unfold f_X3_outs f_X3_outs_0
  rcases q_pl i1 (cs I J A M) with ⟨p, hp, rfl, e⟩ | e
  · rw [e]
    have hsp := h.2.2.2.2.2.2.2.1 _ hp
    obtain ⟨d1, d2, d3, d4, d5, d6, d7⟩ := hc.2 _ hp
    have v2 := (hw.2.2.2.2.2.2.2.2.2.2 _ hp).2.1
    show KP I J M G ((gR 9 0 (cs I J A M) 1000).bind _)
    rw [gR_cs 288 h.1 h.2.1, Option.bind_some, h.seat hp, Option.bind_some, if_pos (show mK (cs I J A M) (1010 + 4 * p) = 7 from hsp.1), q_sizeN hsp d1 d2, Option.bind_some]
    split
    · obtain ⟨v, A2, e2, f2⟩ := q_far (I := I) (J := J) (hA A) h.2.2.2.2.2.1 (t := 1011 + 4 * p) (N := eN G p) hsp.2.2.2.2.1 (by omega) v2 A
      rw [gR_cs 289 h.1 h.2.2.1, Option.bind_some, gR_cs 224 hsp.1 hsp.2.1, Option.bind_some, gI_cs 228 hsp.1, Option.bind_some, if_pos (show mK (cs I J A M) 1002 = 6 from h.2.2.2.2.2.1.1), d2, e2, Option.bind_some]
      exact q_outs_44 hA h hw hp v 25 zN 0 0 A2 rfl (by decide) (hc.own (own_frm f2))
    · exact Or.inl ⟨_, A, rfl, hc⟩
  · rw [e]
    exact Or.inr ⟨_, A, rfl, hc⟩
end ASK8
/-! ===== PURE: the class's questions, 9: digest ===== -/
section ASK9
variable {I : Nat → Nat → Int32} {J : Nat → Nat → Int64} {A : Nat → Nat → Int32} {M : zM} {G : zG}
theorem KP.xb {α β : Type} {x : Option ((String ⊕ α) × zM)} {f : α → zM → Option ((String ⊕ β) × zM)} (hx : KP I J M G x) (hf : ∀ v A', CR I J A' G → KP I J M G (f v (cs I J A' M))) : KP I J M G (xb x f) := by
  rcases hx with ⟨v, A', rfl, hc⟩ | ⟨v, A', rfl, hc⟩
  · exact hf v A' hc
  · exact Or.inr ⟨v, A', rfl, hc⟩
theorem q_dp164 (h : CSH M) (hw : WF G) (hc : CR I J A G) {p : Nat} (hp : p < 4) (v : Int64) : KP I J M G (f_X3_digestPlayer_164 1000 (nI p) (1010 + 4 * p) v (cs I J A M)) := by
  obtain ⟨A1, e1, f1⟩ := q_waitsG h hc hw hp
  obtain ⟨z, e2⟩ := q_fourLeads (I := I) (J := J) (A := A1) h hp
  unfold f_X3_digestPlayer_164
  rw [if_pos (show mK (cs I J A M) 1000 = 9 from h.1), e1, Option.bind_some, if_pos (show mK (cs I J A1 M) 1000 = 9 from h.1), e2, Option.bind_some]
  exact Or.inl ⟨_, A1, rfl, hc.own f1⟩
theorem q_dp123 (h : CSH M) (hw : WF G) (hc : CR I J A G) {p : Nat} (hp : p < 4) : ∀ (d n i : Nat) (v : Int64), i + d = 65 → d < n → KP I J M G (f_X3_digestPlayer_123 n 1000 (nI p) (1010 + 4 * p) v (nI i) (cs I J A M)) := by
  have hsp := h.2.2.2.2.2.2.2.1 _ hp
  intro d
  induction d with
  | zero =>
    intro n i v hi hn
    obtain ⟨n, rfl⟩ : ∃ m, n = m + 1 := ⟨n - 1, by omega⟩
    rw [f_X3_digestPlayer_123, gI_cs 229 hsp.1, Option.bind_some, if_pos (le_t (x := 64) 64 i (by omega) (by omega))]
    split
    · exact q_dp164 h hw hc hp v
    · exact q_dp164 h hw hc hp v
  | succ d ih =>
    intro n i v hi hn
    obtain ⟨n, rfl⟩ : ∃ m, n = m + 1 := ⟨n - 1, by omega⟩
    rw [f_X3_digestPlayer_123, gI_cs 229 hsp.1, Option.bind_some]
    split
    · exact q_dp164 h hw hc hp v
    · by_cases y : 64 ≤ i
      · rw [if_pos (le_t (x := 64) 64 i y (by omega))]
        exact q_dp164 h hw hc hp v
      · rw [if_neg (le_f (x := 64) 64 i (by omega) (by decide)), gR_cs 226 hsp.1 hsp.2.2.2.1, Option.bind_some, lA_cs hsp.2.2.2.2.2.2.1 (by rw [hsp.2.2.2.2.2.2.2]; omega) (by rw [hsp.2.2.2.2.2.2.2]; decide), Option.bind_some, nI_1]
        exact ih n (i + 1) _ (by omega) (by omega)
theorem q_dp80 (h : CSH M) (hw : WF G) (hc : CR I J A G) {p : Nat} (hp : p < 4) : ∀ (d n i : Nat) (v : Int64), i + d = 4 → d < n → KP I J M G (f_X3_digestPlayer_80 n 1000 (nI p) (1010 + 4 * p) v (nI i) (cs I J A M)) := by
  have hsp := h.2.2.2.2.2.2.2.1 _ hp
  have go : ∀ v, KP I J M G (f_X3_digestPlayer_123 zN 1000 (nI p) (1010 + 4 * p) v 0 (cs I J A M)) := fun v => q_dp123 h hw hc hp 65 zN 0 v rfl (by decide)
  intro d
  induction d with
  | zero =>
    intro n i v hi hn
    obtain ⟨n, rfl⟩ : ∃ m, n = m + 1 := ⟨n - 1, by omega⟩
    rw [f_X3_digestPlayer_80, gI_cs 228 hsp.1, Option.bind_some, if_pos (le_t (x := 3) 3 i (by omega) (by omega))]
    split
    · exact go v
    · exact go v
  | succ d ih =>
    intro n i v hi hn
    obtain ⟨n, rfl⟩ : ∃ m, n = m + 1 := ⟨n - 1, by omega⟩
    rw [f_X3_digestPlayer_80, gI_cs 228 hsp.1, Option.bind_some]
    split
    · exact go v
    · by_cases y : 3 ≤ i
      · rw [if_pos (le_t (x := 3) 3 i y (by omega))]
        exact go v
      · rw [if_neg (le_f (x := 3) 3 i (by omega) (by decide)), gR_cs 225 hsp.1 hsp.2.2.1, Option.bind_some, lA_cs hsp.2.2.2.2.2.1.1 (by rw [hsp.2.2.2.2.2.1.2]; omega) (by rw [hsp.2.2.2.2.2.1.2]; decide), Option.bind_some, nI_1]
        exact ih n (i + 1) _ (by omega) (by omega)
theorem q_dp47 (h : CSH M) (hw : WF G) (hc : CR I J A G) {p : Nat} (hp : p < 4) : ∀ (d n i : Nat) (v : Int64), i + d = 25 → d < n → KP I J M G (f_X3_digestPlayer_47 n 1000 (nI p) (1010 + 4 * p) v (nI i) (cs I J A M)) := by
  have hsp := h.2.2.2.2.2.2.2.1 _ hp
  intro d
  induction d with
  | zero =>
    intro n i v hi hn
    obtain ⟨n, rfl⟩ : ∃ m, n = m + 1 := ⟨n - 1, by omega⟩
    rw [f_X3_digestPlayer_47, if_pos (le_t (x := 25) 25 i (by omega) (by omega))]
    exact q_dp80 h hw hc hp 4 zN 0 v rfl (by decide)
  | succ d ih =>
    intro n i v hi hn
    obtain ⟨n, rfl⟩ : ∃ m, n = m + 1 := ⟨n - 1, by omega⟩
    rw [f_X3_digestPlayer_47, if_neg (le_f (x := 25) 25 i (by omega) (by decide)), if_pos (show mK (cs I J A M) (1010 + 4 * p) = 7 from hsp.1), q_count hsp (show i < 25 by omega), Option.bind_some, nI_1]
    exact ih n (i + 1) _ (by omega) (by omega)
theorem q_dp14 (hA : ∀ A, AT A M) (h : CSH M) (hw : WF G) {p : Nat} (hp : p < 4) : ∀ (d n i : Nat) (v : Int64) (A : Nat → Nat → Int32), i + d = 10 → d < n → CR I J A G → KP I J M G (f_X3_digestPlayer_14 n 1000 (nI p) (1010 + 4 * p) v (nI i) (cs I J A M)) := by
  intro d
  induction d with
  | zero =>
    intro n i v A hi hn hc
    obtain ⟨n, rfl⟩ : ∃ m, n = m + 1 := ⟨n - 1, by omega⟩
    rw [f_X3_digestPlayer_14, if_pos (lt_t (x := 9) 9 i (by omega) (by omega))]
    exact q_dp47 h hw hc hp 25 zN 0 v rfl (by decide)
  | succ d ih =>
    intro n i v A hi hn hc
    obtain ⟨n, rfl⟩ : ∃ m, n = m + 1 := ⟨n - 1, by omega⟩
    rw [f_X3_digestPlayer_14, if_neg (lt_f (x := 9) 9 i (by omega) (by decide)), if_pos (show mK (cs I J A M) 1000 = 9 from h.1), nI_1]
    exact (q_ofPlayer (hA A) h hw hc (nI p) (nI i)).xb (fun w A' hc' => ih n (i + 1) _ A' (by omega) (by omega) hc')
theorem q_dig33 (hA : ∀ A, AT A M) (h : CSH M) (hw : WF G) : ∀ (d n i : Nat) (v : Int64) (A : Nat → Nat → Int32), i + d = 4 → d < n → CR I J A G → KP I J M G (f_X3_digest_33 n 1000 v (nI i) (cs I J A M)) := by
  intro d
  induction d with
  | zero =>
    intro n i v A hi hn hc
    obtain ⟨n, rfl⟩ : ∃ m, n = m + 1 := ⟨n - 1, by omega⟩
    obtain ⟨z, A', e, f⟩ := q_best hA h hw hc
    rw [f_X3_digest_33, if_pos (le_t (x := 4) 4 i (by omega) (by omega)), if_pos (show mK (cs I J A M) 1000 = 9 from h.1), e, Option.bind_some]
    exact Or.inl ⟨_, A', rfl, f⟩
  | succ d ih =>
    intro n i v A hi hn hc
    obtain ⟨n, rfl⟩ : ∃ m, n = m + 1 := ⟨n - 1, by omega⟩
    have hp : i < 4 := by omega
    rw [f_X3_digest_33, if_neg (le_f (x := 4) 4 i (by omega) (by decide)), if_pos (show mK (cs I J A M) 1000 = 9 from h.1), nI_1]
    refine KP.xb ?_ (fun w A' hc' => ih n (i + 1) _ A' (by omega) (by omega) hc')
    unfold f_X3_digestPlayer f_X3_digestPlayer_0
    rw [gR_cs 288 h.1 h.2.1, Option.bind_some, h.seat hp, Option.bind_some]
    exact q_dp14 hA h hw hp 10 zN 0 v A rfl (by decide) hc
theorem q_dig6 (hA : ∀ A, AT A M) (h : CSH M) (hw : WF G) : ∀ (d n i : Nat) (v : Int64) (A : Nat → Nat → Int32), i + d = 10 → d < n → CR I J A G → KP I J M G (f_X3_digest_6 n 1000 v (nI i) (cs I J A M)) := by
  intro d
  induction d with
  | zero =>
    intro n i v A hi hn hc
    obtain ⟨n, rfl⟩ : ∃ m, n = m + 1 := ⟨n - 1, by omega⟩
    rw [f_X3_digest_6, if_pos (lt_t (x := 9) 9 i (by omega) (by omega))]
    exact q_dig33 hA h hw 4 zN 0 v A rfl (by decide) hc
  | succ d ih =>
    intro n i v A hi hn hc
    obtain ⟨n, rfl⟩ : ∃ m, n = m + 1 := ⟨n - 1, by omega⟩
    rw [f_X3_digest_6, if_neg (lt_f (x := 9) 9 i (by omega) (by decide)), if_pos (show mK (cs I J A M) 1000 = 9 from h.1), nI_1]
    exact (q_many h hw hc (nI i)).xb (fun w A' hc' => ih n (i + 1) _ A' (by omega) (by omega) hc')
theorem q_digest (hA : ∀ A, AT A M) (h : CSH M) (hw : WF G) (hc : CR I J A G) : KP I J M G (f_X3_digest 1000 (cs I J A M)) := q_dig6 hA h hw 10 zN 0 _ A rfl (by decide) hc
end ASK9
