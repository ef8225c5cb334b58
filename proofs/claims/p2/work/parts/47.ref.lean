/-! ===== PURE, THE REFERENCE: its objects by their places; what the game is to it; tests ===== -/
def isL (l : Nat) : Prop := ∃ p, p < 4 ∧ (l = 1030 + 4 * p ∨ l = 1031 + 4 * p)
/-- the shape: hp the hands' places, dl what lies behind the lists -/
def RS (M : zM) (hp dl : Nat → Nat) : Prop :=
  (mK M 1026 = 13 ∧ mR M 417 1026 = some 1027 ∧ mR M 418 1026 = some 1044 ∧ mK M 1027 = 112 ∧ mL M 1027 = 4 ∧ (∀ p, p < 4 → mQ M 1027 p = some (1028 + 4 * p)) ∧ mK M 1044 = 100 ∧ mL M 1044 = 100) ∧
  (∀ p, p < 4 → mK M (1028 + 4 * p) = 12 ∧ mR M 386 (1028 + 4 * p) = some (hp p) ∧ mR M 387 (1028 + 4 * p) = some (1030 + 4 * p) ∧ mR M 388 (1028 + 4 * p) = some (1031 + 4 * p) ∧ mK M (1030 + 4 * p) = 5 ∧ mK M (1031 + 4 * p) = 5) ∧
  (∀ p, p < 4 → mK M (hp p) = 100 ∧ mL M (hp p) = 25 ∧ 1029 ≤ hp p ∧ hp p ≠ 1044 ∧ hp p < mX M) ∧
  (∀ p q, p < 4 → q < 4 → hp p = hp q → p = q) ∧
  (∀ l, isL l → mR M 161 l = some (dl l) ∧ (dl l = 4 ∨ (1046 ≤ dl l ∧ dl l < mX M ∧ mK M (dl l) = 110 ∧ mL M (dl l) ≤ 1000))) ∧
  (∀ l l', isL l → isL l' → dl l = dl l' → dl l = 4 ∨ l = l') ∧
  ((mK M 4 = 210 ∧ mL M 4 = 0) ∧ (mK M 5 = 213 ∧ mL M 5 = 256 ∧ ∀ i, i < 256 → mQ M 5 i = some (100 + i)) ∧ ∀ i, i < 256 → mK M (100 + i) = 303) ∧ 1046 ≤ mX M
/-- the scalars -/
def RNs (I : Nat → Nat → Int32) (A : Nat → Nat → Int32) (G : zG) : Prop :=
  I 422 1026 = nI (eS G 4) ∧ I 423 1026 = nI (eS G 5) ∧ I 424 1026 + 1 = nI (eS G 6) ∧ I 425 1026 = nI (eS G 7) ∧ I 426 1026 = nI (eS G 3) ∧
  (eS G 7 ≠ 0 → I 419 1026 = nI (40 + eS G 2) ∧ I 420 1026 = nI (99 - eS G 3) ∧ (∀ t, t < 100 → A 1044 t = nI (gK G t)) ∧ ∃ k, k < 25 ∧ I 421 1026 = nI k) ∧
  (eS G 4 = 1 → I 429 1026 + 1 = nI (if eS G 9 = 0 then 0 else eS G 8)) ∧ (eS G 4 = 2 → I 430 1026 = nI (lst G))
/-- the sets of a list -/
def RNv (I : Nat → Nat → Int32) (M : zM) (l d n : Nat) (v : Nat → Nat) : Prop := I 162 l = nI n ∧ (d = 4 → n = 0) ∧ (d ≠ 4 → n ≤ mL M d) ∧ ∀ j, j < n → ∃ o, mQ M d j = some o ∧ mK M o = 11 ∧ o < mX M ∧ I 352 o = nI (v j % 100) ∧ I 353 o = nI (v j / 100)
/-- the kinds of a list -/
def RNr (I : Nat → Nat → Int32) (M : zM) (l d n : Nat) (v : Nat → Nat) : Prop := I 162 l = nI n ∧ (d = 4 → n = 0) ∧ (d ≠ 4 → n ≤ mL M d) ∧ ∀ j, j < n → mQ M d j = some (228 + v j)
/-- a player -/
def RNp (I : Nat → Nat → Int32) (J : Nat → Nat → Int64) (A : Nat → Nat → Int32) (M : zM) (G : zG) (hp dl : Nat → Nat) (p : Nat) : Prop :=
  (∀ k, k < 25 → A (hp p) k = nI (eH G p k)) ∧ RNv I M (1030 + 4 * p) (dl (1030 + 4 * p)) (eN G p) (eV G p) ∧ RNr I M (1031 + 4 * p) (dl (1031 + 4 * p)) (eM G p) (eR G p) ∧ J 389 (1028 + 4 * p) = eD G p ∧ I 390 (1028 + 4 * p) = b32 (eC G p)
/-- the reference holds the game -/
def RN (I : Nat → Nat → Int32) (J : Nat → Nat → Int64) (A : Nat → Nat → Int32) (M : zM) (G : zG) (hp dl : Nat → Nat) : Prop := RNs I A G ∧ (∀ p, p < 4 → RNp I J A M G hp dl p) ∧ ∀ i, i < 256 → I 96 (100 + i) = vb_c i
/-- what is thrown -/
def th (v : Int32) (I : Nat → Nat → Int32) : Nat → Nat → Int32 := u2 I 416 1026 v
theorem u2_u2 {α : Type} (f : Nat → Nat → α) (k a : Nat) (v w : α) : u2 (u2 f k a v) k a w = u2 f k a w := by
  funext i j
  unfold u2
  by_cases h : i = k ∧ j = a
  · rw [if_pos h, if_pos h]
  · rw [if_neg h, if_neg h, if_neg h]
theorem th_th (v w : Int32) (I : Nat → Nat → Int32) : th v (th w I) = th v I := u2_u2 I 416 1026 w v
theorem RN.th {I : Nat → Nat → Int32} {J : Nat → Nat → Int64} {A : Nat → Nat → Int32} {M : zM} {G : zG} {hp dl : Nat → Nat} (h : RN I J A M G hp dl) (v : Int32) : RN (th v I) J A M G hp dl := h
section RTEST
variable {I : Nat → Nat → Int32} {J : Nat → Nat → Int64} {A : Nat → Nat → Int32} {M : zM} {G : zG} {hp dl : Nat → Nat}
theorem r_isIn (x a b : Int32) (M : zM) : f_X7_isIn x a b M = some (if x < a then 0 else if b < x then 0 else 1, M) := by
  unfold f_X7_isIn f_X7_isIn_0
  repeat' split
  all_goals rfl
theorem r_kind_ok {k : Nat} (hk : k < 25) (M : zM) : f_X7_isKind (nI k) M = some (1, M) := by
  unfold f_X7_isKind f_X7_isKind_0
  rw [r_isIn, if_neg (nI_nn (by omega)), if_neg (lt_f (x := 24) 24 k (by omega) (by decide)), Option.bind_some, if_pos (Or.inr rfl)]
theorem r_kind_bad {i : Int32} (h : oBad i) (M : zM) : f_X7_isKind i M = some (0, M) := by
  unfold f_X7_isKind f_X7_isKind_0
  rw [r_isIn]
  rcases nI_all i with z | ⟨n, z1, rfl⟩
  · rw [if_pos z, Option.bind_some, if_pos (Or.inl rfl)]
  · have h25 : 25 ≤ n := by
      rcases h with h | h
      · exact absurd h (nI_nn z1)
      · rw [nI_cl z1] at h; exact h
    rw [if_neg (nI_nn z1), if_pos (lt_t (x := 24) 24 n (by omega) z1), Option.bind_some, if_pos (Or.inl rfl)]
theorem r_noPl_ok {p : Nat} (hp : p < 4) (M : zM) : f_X7_isNoPlayer (nI p) M = some (0, M) := by
  unfold f_X7_isNoPlayer f_X7_isNoPlayer_0
  rw [r_isIn, if_neg (nI_nn (by omega)), if_neg (lt_f (x := 3) 3 p (by omega) (by decide)), Option.bind_some]
  exact if_neg (show ¬ (1 : Int32) = 0 by decide)
theorem r_noPl_bad {i : Int32} (h : i < 0 ∨ 4 ≤ i.toNatClampNeg) (M : zM) : f_X7_isNoPlayer i M = some (1, M) := by
  unfold f_X7_isNoPlayer f_X7_isNoPlayer_0
  rw [r_isIn]
  rcases nI_all i with z | ⟨n, z1, rfl⟩
  · rw [if_pos z, Option.bind_some]
    rfl
  · have h25 : 4 ≤ n := by
      rcases h with h | h
      · exact absurd h (nI_nn z1)
      · rw [nI_cl z1] at h; exact h
    rw [if_neg (nI_nn z1), if_pos (lt_t (x := 3) 3 n (by omega) z1), Option.bind_some]
    rfl
theorem r_refuse_16 (h : RS M hp dl) (v : Nat) (hv : v < 10) : f_X7_refuse_16 1026 (cs (th (nI v) I) J A M) = some (if v = 0 then 0 else 1, cs (th (nI v) I) J A M) := by
  unfold f_X7_refuse_16
  rw [gI_cs 416 h.1.1, Option.bind_some, show th (nI v) I 416 1026 = nI v from rfl]
  by_cases y : v = 0
  · subst y
    rfl
  · rw [if_neg (le_f (y := 0) v 0 (by omega) (by omega)), if_neg y]
theorem r_refuse (h : RS M hp dl) (b : Bool) (w : Nat) (hw : 0 < w) (hw2 : w < 10) : f_X7_refuse 1026 (b32 b) (nI w) (cs (th 0 I) J A M) = some (b32 b, cs (th (if b = true then nI w else 0) I) J A M) := by
  unfold f_X7_refuse f_X7_refuse_0
  cases b
  · rw [if_pos (show b32 false = 0 from rfl)]
    exact r_refuse_16 (I := I) (J := J) (A := A) h 0 (by decide)
  · rw [if_neg (show ¬ b32 true = 0 by decide), gI_cs 416 h.1.1, Option.bind_some, if_pos (show th 0 I 416 1026 = 0 from rfl), pI_cs 416 h.1.1, Option.bind_some]
    have e := r_refuse_16 (I := I) (J := J) (A := A) h w hw2
    rw [if_neg (by omega)] at e
    show f_X7_refuse_16 1026 (cs (th (nI w) (th 0 I)) J A M) = _
    rw [th_th]
    exact e
theorem r_start (h : RS M hp dl) (b : Bool) (w : Nat) (hw : 0 < w) (hw2 : w < 10) : f_X7_start 1026 (b32 b) (nI w) (cs I J A M) = some (b32 b, cs (th (if b = true then nI w else 0) I) J A M) := by
  unfold f_X7_start f_X7_start_0
  rw [pI_cs 416 h.1.1, Option.bind_some, if_pos (show mK (cs _ J A M) 1026 = 13 from h.1.1)]
  have e := r_refuse (I := I) (J := J) (A := A) h b w hw hw2
  show (f_X7_refuse 1026 (b32 b) (nI w) (cs (th 0 I) J A M)).bind _ = _
  rw [e, Option.bind_some, if_pos (b32_or b)]
theorem RS.pl (h : RS M hp dl) {p : Nat} (hp4 : p < 4) : lQ 2 (cs I J A M) 1027 (nI p) = some (1028 + 4 * p) := lQ_cs (by decide) h.1.2.2.2.1 (by rw [h.1.2.2.2.2.1]; exact hp4) (by rw [h.1.2.2.2.2.1]; decide) (h.1.2.2.2.2.2.1 p hp4)
theorem r_its (h : RS M hp dl) {p : Nat} (hp4 : p < 4) (ht : I 423 1026 = nI p) : f_X7_its 1026 (cs I J A M) = some (1028 + 4 * p, cs I J A M) := by
  unfold f_X7_its f_X7_its_0
  rw [gR_cs 417 h.1.1 h.1.2.1, Option.bind_some, gI_cs 423 h.1.1, Option.bind_some, ht, h.pl hp4, Option.bind_some]
theorem RS.ps (h : RS M hp dl) {p : Nat} (hp4 : p < 4) : PS M (1028 + 4 * p) (hp p) (1030 + 4 * p) := by
  obtain ⟨a1, a2, a3, a4, a5, a6⟩ := h.2.1 p hp4
  obtain ⟨b1, b2, -⟩ := h.2.2.1 p hp4
  exact ⟨⟨a1, a2, a3⟩, ⟨b1, b2⟩, a5⟩
/-- a size -/
theorem r_size {l n : Nat} (hk : mK M l = 5) (hn : I 162 l = nI n) : f_Jx4a65c_size_8abf5 l (cs I J A M) = some (nI n, cs I J A M) := by
  unfold f_Jx4a65c_size_8abf5 f_Jx4a65c_size_8abf5_0
  rw [gI_cs 162 hk, Option.bind_some, hn]
/-- rows written over with the same -/
theorem RN.row (h : RN I J A M G hp dl) (g : RS M hp dl) {p : Nat} (hp4 : p < 4) {w : Nat → Int32} (hw : ∀ k, k < 25 → w k = A (hp p) k) : RN I J (ur A (hp p) w) M G hp dl := by
  obtain ⟨⟨s1, s2, s3, s4, s5, s6, s7, s8⟩, q, v⟩ := h
  refine ⟨⟨s1, s2, s3, s4, s5, fun z => ?_, s7, s8⟩, fun c hc => ?_, v⟩
  · obtain ⟨a, b, c, d⟩ := s6 z
    exact ⟨a, b, fun t ht => (ur_ne A t w (fun e => (g.2.2.1 p hp4).2.2.2.1 e.symm)).trans (c t ht), d⟩
  · obtain ⟨a, b⟩ := q c hc
    refine ⟨fun k hk => ?_, b⟩
    by_cases y : hp c = hp p
    · have : c = p := g.2.2.2.1 c p hc hp4 y
      subst this
      rw [ur_at, hw k hk]
      exact a k hk
    · rw [ur_ne A k w y]
      exact a k hk
/-! pass -/
theorem r_pass (h : RS M hp dl) (hn : RN I J A M G hp dl) (hw : WF G) : if eS G 4 = 2 then ∃ I', f_X7_pass 1026 (cs I J A M) = some (nI ((eS G 5 + 1) % 4), cs I' J A M) ∧ I' 416 1026 = 0 ∧ RN I' J A M (wS (wS G 5 ((eS G 5 + 1) % 4)) 4 0) hp dl else f_X7_pass 1026 (cs I J A M) = some (0, cs (th 1 I) J A M) := by
  obtain ⟨⟨s1, s2, s3, s4, s5, s6, s7, s8⟩, q, v⟩ := hn
  have k := h.1.1
  have hw4 : eS G 4 < 4 := hw.2.2.2.2.1
  have hw5 : eS G 5 < 4 := hw.2.2.2.2.2.1
  unfold f_X7_pass f_X7_pass_0
  rw [gI_cs 422 k, Option.bind_some, s1]
  by_cases y : eS G 4 = 2
  · have e := r_start (I := I) (J := J) (A := A) h false 1 (by decide) (by decide)
    have e' : f_X7_start 1026 0 1 (cs I J A M) = some (0, cs (th 0 I) J A M) := e
    have em : zmd (nI (eS G 5 + 1)) 4 = nI ((eS G 5 + 1) % 4) := pk_rem (a := eS G 5 + 1) (d := 4) (by omega) (by decide) (by decide)
    rw [if_pos y, y, if_pos (show nI 2 = 2 from rfl)]
    unfold f_X7_pass_14
    rw [if_pos (show mK (cs I J A M) 1026 = 13 from k), e', Option.bind_some, if_pos rfl]
    show ∃ I', (gI 13 7 (cs (th 0 I) J A M) 1026).bind _ = _ ∧ _
    rw [gI_cs 423 k, Option.bind_some, show th 0 I 423 1026 = nI (eS G 5) from s2, nI_1, em, pI_cs 423 k, Option.bind_some, pI_cs 422 k, Option.bind_some, gI_cs 423 k, Option.bind_some]
    refine ⟨_, rfl, rfl, ⟨rfl, rfl, s3, s4, s5, s6, fun z => absurd z (by decide), fun z => absurd z (by decide)⟩, q, v⟩
  · have e := r_start (I := I) (J := J) (A := A) h true 1 (by decide) (by decide)
    have e' : f_X7_start 1026 1 1 (cs I J A M) = some (1, cs (th 1 I) J A M) := e
    rw [if_neg y, if_neg (eq_f (y := 2) (eS G 4) 2 y (by omega) (by decide))]
    unfold f_X7_pass_14
    rw [if_pos (show mK (cs I J A M) 1026 = 13 from k), e', Option.bind_some, if_neg (by decide)]
end RTEST
