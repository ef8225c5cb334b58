/-! ===== PURE, THE REFERENCE: its objects by their places; what the game is to it; tests ===== -/
def isL (l : Nat) : Prop := ∃ p, p < 4 ∧ (l = 1030 + 4 * p ∨ l = 1031 + 4 * p)
/-- the shape: hp the hands' places, dl what lies behind the lists -/
def RS (M : zM) (hp dl : Nat → Nat) : Prop :=
  (mK M 1026 = 13 ∧ mR M 417 1026 = some 1027 ∧ mR M 418 1026 = some 1044 ∧ mK M 1027 = 112 ∧ mL M 1027 = 4 ∧ (∀ p, p < 4 → mQ M 1027 p = some (1028 + 4 * p)) ∧ mK M 1044 = 100 ∧ mL M 1044 = 100) ∧
  (∀ p, p < 4 → mK M (1028 + 4 * p) = 12 ∧ mR M 386 (1028 + 4 * p) = some (hp p) ∧ mR M 387 (1028 + 4 * p) = some (1030 + 4 * p) ∧ mR M 388 (1028 + 4 * p) = some (1031 + 4 * p) ∧ mK M (1030 + 4 * p) = 5 ∧ mK M (1031 + 4 * p) = 5) ∧
  (∀ p, p < 4 → mK M (hp p) = 100 ∧ mL M (hp p) = 25 ∧ 1029 ≤ hp p ∧ hp p ≠ 1044 ∧ hp p < mX M) ∧
  (∀ p q, p < 4 → q < 4 → hp p = hp q → p = q) ∧
  (∀ l, isL l → mR M 161 l = some (dl l) ∧ (dl l = 4 ∨ (1046 ≤ dl l ∧ dl l < mX M ∧ mK M (dl l) = 110 ∧ mL M (dl l) ≤ 1000 ∧ 0 < mL M (dl l)))) ∧
  (∀ l l', isL l → isL l' → dl l = dl l' → dl l = 4 ∨ l = l') ∧
  ((mK M 4 = 210 ∧ mL M 4 = 0) ∧ (mK M 5 = 213 ∧ mL M 5 = 256 ∧ ∀ i, i < 256 → mQ M 5 i = some (100 + i)) ∧ ∀ i, i < 256 → mK M (100 + i) = 303) ∧ 1046 ≤ mX M
/-- the scalars -/
def RNs (I : Nat → Nat → Int32) (A : Nat → Nat → Int32) (G : zG) : Prop :=
  I 422 1026 = nI (eS G 4) ∧ I 423 1026 = nI (eS G 5) ∧ I 424 1026 + 1 = nI (eS G 6) ∧ I 425 1026 = nI (eS G 7) ∧ I 426 1026 = nI (eS G 3) ∧
  (eS G 7 ≠ 0 → I 419 1026 = nI (40 + eS G 2) ∧ I 420 1026 = nI (99 - eS G 3) ∧ (∀ t, t < 100 → A 1044 t = nI (gK G t)) ∧ ∃ k, k < 25 ∧ I 421 1026 = nI k) ∧
  (eS G 4 = 1 → I 429 1026 + 1 = nI (if eS G 9 = 0 then 0 else eS G 8)) ∧ (eS G 4 = 2 → I 430 1026 = nI (lst G))
/-- the sets of a list -/
def RNv (I : Nat → Nat → Int32) (M : zM) (l d n : Nat) (v : Nat → Nat) : Prop := I 162 l = nI n ∧ (d = 4 → n = 0) ∧ (d ≠ 4 → n ≤ mL M d) ∧ ∀ j, j < n → ∃ o, mQ M d j = some o ∧ mK M o = 11 ∧ o < mX M ∧ I 352 o = nI (v j % 100) ∧ I 353 o = nI (v j / 100)
/-- the kinds of a list -/
def RNr (I : Nat → Nat → Int32) (M : zM) (l d n : Nat) (v : Nat → Nat) : Prop := I 162 l = nI n ∧ (d = 4 → n = 0) ∧ (d ≠ 4 → n ≤ mL M d) ∧ ∀ j, j < n → mQ M d j = some (228 + v j)
/-- a player -/
def RNp (I : Nat → Nat → Int32) (J : Nat → Nat → Int64) (A : Nat → Nat → Int32) (M : zM) (G : zG) (hp dl : Nat → Nat) (p : Nat) : Prop :=
  (∀ k, k < 25 → A (hp p) k = nI (eH G p k)) ∧ RNv I M (1030 + 4 * p) (dl (1030 + 4 * p)) (eN G p) (eV G p) ∧ RNr I M (1031 + 4 * p) (dl (1031 + 4 * p)) (eM G p) (eR G p) ∧ J 389 (1028 + 4 * p) = eD G p ∧ I 390 (1028 + 4 * p) = b32 (eC G p)
/-- the reference holds the game -/
def RN (I : Nat → Nat → Int32) (J : Nat → Nat → Int64) (A : Nat → Nat → Int32) (M : zM) (G : zG) (hp dl : Nat → Nat) : Prop := RNs I A G ∧ (∀ p, p < 4 → RNp I J A M G hp dl p) ∧ ∀ i, i < 256 → I 96 (100 + i) = vb_c i
/-- what is thrown -/
def th (v : Int32) (I : Nat → Nat → Int32) : Nat → Nat → Int32 := u2 I 416 1026 v
theorem u2_u2 {α : Type} (f : Nat → Nat → α) (k a : Nat) (v w : α) : u2 (u2 f k a v) k a w = u2 f k a w := by
  funext i j
  unfold u2
  by_cases h : i = k ∧ j = a
  · rw [if_pos h, if_pos h]
  · rw [if_neg h, if_neg h, if_neg h]
theorem th_th (v w : Int32) (I : Nat → Nat → Int32) : th v (th w I) = th v I := u2_u2 I 416 1026 w v
theorem RN.th {I : Nat → Nat → Int32} {J : Nat → Nat → Int64} {A : Nat → Nat → Int32} {M : zM} {G : zG} {hp dl : Nat → Nat} (h : RN I J A M G hp dl) (v : Int32) : RN (th v I) J A M G hp dl := h
section RTEST
variable {I : Nat → Nat → Int32} {J : Nat → Nat → Int64} {A : Nat → Nat → Int32} {M : zM} {G : zG} {hp dl : Nat → Nat}
theorem r_isIn (x a b : Int32) (M : zM) : f_X7_isIn x a b M = some (if x < a then 0 else if b < x then 0 else 1, M) := by
  unfold f_X7_isIn f_X7_isIn_0
  repeat' split
  all_goals rfl
theorem r_kind_ok {k : Nat} (hk : k < 25) (M : zM) : f_X7_isKind (nI k) M = some (1, M) := by
  unfold f_X7_isKind f_X7_isKind_0
  rw [r_isIn, if_neg (nI_nn (by omega)), if_neg (lt_f (x := 24) 24 k (by omega) (by decide)), Option.bind_some, if_pos (Or.inr rfl)]
theorem r_kind_bad {i : Int32} (h : oBad i) (M : zM) : f_X7_isKind i M = some (0, M) := by
  unfold f_X7_isKind f_X7_isKind_0
  rw [r_isIn]
  rcases nI_all i with z | ⟨n, z1, rfl⟩
  · rw [if_pos z, Option.bind_some, if_pos (Or.inl rfl)]
  · have h25 : 25 ≤ n := by
      rcases h with h | h
      · exact absurd h (nI_nn z1)
      · rw [nI_cl z1] at h; exact h
    rw [if_neg (nI_nn z1), if_pos (lt_t (x := 24) 24 n (by omega) z1), Option.bind_some, if_pos (Or.inl rfl)]
theorem r_noPl_ok {p : Nat} (hp : p < 4) (M : zM) : f_X7_isNoPlayer (nI p) M = some (0, M) := by
  unfold f_X7_isNoPlayer f_X7_isNoPlayer_0
  rw [r_isIn, if_neg (nI_nn (by omega)), if_neg (lt_f (x := 3) 3 p (by omega) (by decide)), Option.bind_some]
  exact if_neg (show ¬ (1 : Int32) = 0 by decide)
theorem r_noPl_bad {i : Int32} (h : i < 0 ∨ 4 ≤ i.toNatClampNeg) (M : zM) : f_X7_isNoPlayer i M = some (1, M) := by
  unfold f_X7_isNoPlayer f_X7_isNoPlayer_0
  rw [r_isIn]
  rcases nI_all i with z | ⟨n, z1, rfl⟩
  · rw [if_pos z, Option.bind_some]
    rfl
  · have h25 : 4 ≤ n := by
      rcases h with h | h
      · exact absurd h (nI_nn z1)
      · rw [nI_cl z1] at h; exact h
    rw [if_neg (nI_nn z1), if_pos (lt_t (x := 3) 3 n (by omega) z1), Option.bind_some]
    rfl
theorem r_refuse_16 (h : RS M hp dl) (v : Nat) (hv : v < 10) : f_X7_refuse_16 1026 (cs (th (nI v) I) J A M) = some (if v = 0 then 0 else 1, cs (th (nI v) I) J A M) := by
  unfold f_X7_refuse_16
  rw [gI_cs 416 h.1.1, Option.bind_some, show th (nI v) I 416 1026 = nI v from rfl]
  by_cases y : v = 0
  · subst y
    rfl
  · rw [if_neg (le_f (y := 0) v 0 (by omega) (by omega)), if_neg y]
theorem r_refuse (h : RS M hp dl) (b : Bool) (w : Nat) (hw : 0 < w) (hw2 : w < 10) : f_X7_refuse 1026 (b32 b) (nI w) (cs (th 0 I) J A M) = some (b32 b, cs (th (if b = true then nI w else 0) I) J A M) := by
  unfold f_X7_refuse f_X7_refuse_0
  cases b
  · rw [if_pos (show b32 false = 0 from rfl)]
    exact r_refuse_16 (I := I) (J := J) (A := A) h 0 (by decide)
  · rw [if_neg (show ¬ b32 true = 0 by decide), gI_cs 416 h.1.1, Option.bind_some, if_pos (show th 0 I 416 1026 = 0 from rfl), pI_cs 416 h.1.1, Option.bind_some]
    have e := r_refuse_16 (I := I) (J := J) (A := A) h w hw2
    rw [if_neg (by omega)] at e
    show f_X7_refuse_16 1026 (cs (th (nI w) (th 0 I)) J A M) = _
    rw [th_th]
    exact e
theorem r_start (h : RS M hp dl) (b : Bool) (w : Nat) (hw : 0 < w) (hw2 : w < 10) : f_X7_start 1026 (b32 b) (nI w) (cs I J A M) = some (b32 b, cs (th (if b = true then nI w else 0) I) J A M) := by
  unfold f_X7_start f_X7_start_0
  rw [pI_cs 416 h.1.1, Option.bind_some, if_pos (show mK (cs _ J A M) 1026 = 13 from h.1.1)]
  have e := r_refuse (I := I) (J := J) (A := A) h b w hw hw2
  show (f_X7_refuse 1026 (b32 b) (nI w) (cs (th 0 I) J A M)).bind _ = _
  rw [e, Option.bind_some, if_pos (b32_or b)]
theorem RS.pl (h : RS M hp dl) {p : Nat} (hp4 : p < 4) : lQ 2 (cs I J A M) 1027 (nI p) = some (1028 + 4 * p) := lQ_cs (by decide) h.1.2.2.2.1 (by rw [h.1.2.2.2.2.1]; exact hp4) (by rw [h.1.2.2.2.2.1]; decide) (h.1.2.2.2.2.2.1 p hp4)
theorem r_its (h : RS M hp dl) {p : Nat} (hp4 : p < 4) (ht : I 423 1026 = nI p) : f_X7_its 1026 (cs I J A M) = some (1028 + 4 * p, cs I J A M) := by
  unfold f_X7_its f_X7_its_0
  rw [gR_cs 417 h.1.1 h.1.2.1, Option.bind_some, gI_cs 423 h.1.1, Option.bind_some, ht, h.pl hp4, Option.bind_some]
theorem RS.ps (h : RS M hp dl) {p : Nat} (hp4 : p < 4) : PS M (1028 + 4 * p) (hp p) (1030 + 4 * p) := by
  obtain ⟨a1, a2, a3, a4, a5, a6⟩ := h.2.1 p hp4
  obtain ⟨b1, b2, -⟩ := h.2.2.1 p hp4
  exact ⟨⟨a1, a2, a3⟩, ⟨b1, b2⟩, a5⟩
/-- a size -/
theorem r_size {l n : Nat} (hk : mK M l = 5) (hn : I 162 l = nI n) : f_Jx4a65c_size_8abf5 l (cs I J A M) = some (nI n, cs I J A M) := by
  unfold f_Jx4a65c_size_8abf5 f_Jx4a65c_size_8abf5_0
  rw [gI_cs 162 hk, Option.bind_some, hn]
/-- rows written over with the same -/
theorem RN.row (h : RN I J A M G hp dl) (g : RS M hp dl) {p : Nat} (hp4 : p < 4) {w : Nat → Int32} (hw : ∀ k, k < 25 → w k = A (hp p) k) : RN I J (ur A (hp p) w) M G hp dl := by
  obtain ⟨⟨s1, s2, s3, s4, s5, s6, s7, s8⟩, q, v⟩ := h
  refine ⟨⟨s1, s2, s3, s4, s5, fun z => ?_, s7, s8⟩, fun c hc => ?_, v⟩
  · obtain ⟨a, b, c, d⟩ := s6 z
    exact ⟨a, b, fun t ht => (ur_ne A t w (fun e => (g.2.2.1 p hp4).2.2.2.1 e.symm)).trans (c t ht), d⟩
  · obtain ⟨a, b⟩ := q c hc
    refine ⟨fun k hk => ?_, b⟩
    by_cases y : hp c = hp p
    · have : c = p := g.2.2.2.1 c p hc hp4 y
      subst this
      rw [ur_at, hw k hk]
      exact a k hk
    · rw [ur_ne A k w y]
      exact a k hk
/-! pass -/
theorem r_pass (h : RS M hp dl) (hn : RN I J A M G hp dl) (hw : WF G) : if eS G 4 = 2 then ∃ I', f_X7_pass 1026 (cs I J A M) = some (nI ((eS G 5 + 1) % 4), cs I' J A M) ∧ I' 416 1026 = 0 ∧ RN I' J A M (wS (wS G 5 ((eS G 5 + 1) % 4)) 4 0) hp dl else f_X7_pass 1026 (cs I J A M) = some (0, cs (th 1 I) J A M) := by
  obtain ⟨⟨s1, s2, s3, s4, s5, s6, s7, s8⟩, q, v⟩ := hn
  have k := h.1.1
  have hw4 : eS G 4 < 4 := hw.2.2.2.2.1
  have hw5 : eS G 5 < 4 := hw.2.2.2.2.2.1
  unfold f_X7_pass f_X7_pass_0
  rw [gI_cs 422 k, Option.bind_some, s1]
  by_cases y : eS G 4 = 2
  · have e := r_start (I := I) (J := J) (A := A) h false 1 (by decide) (by decide)
    have e' : f_X7_start 1026 0 1 (cs I J A M) = some (0, cs (th 0 I) J A M) := e
    have em : zmd (nI (eS G 5 + 1)) 4 = nI ((eS G 5 + 1) % 4) := pk_rem (a := eS G 5 + 1) (d := 4) (by omega) (by decide) (by decide)
    rw [if_pos y, y, if_pos (show nI 2 = 2 from rfl)]
    unfold f_X7_pass_14
    rw [if_pos (show mK (cs I J A M) 1026 = 13 from k), e', Option.bind_some, if_pos rfl]
    show ∃ I', (gI 13 7 (cs (th 0 I) J A M) 1026).bind _ = _ ∧ _
    rw [gI_cs 423 k, Option.bind_some, show th 0 I 423 1026 = nI (eS G 5) from s2, nI_1, em, pI_cs 423 k, Option.bind_some, pI_cs 422 k, Option.bind_some, gI_cs 423 k, Option.bind_some]
    refine ⟨_, rfl, rfl, ⟨rfl, rfl, s3, s4, s5, s6, fun z => absurd z (show ¬ (0 : Nat) = 1 by decide), fun z => absurd z (show ¬ (0 : Nat) = 2 by decide)⟩, q, v⟩
  · have e := r_start (I := I) (J := J) (A := A) h true 1 (by decide) (by decide)
    have e' : f_X7_start 1026 1 1 (cs I J A M) = some (1, cs (th 1 I) J A M) := e
    rw [if_neg y, if_neg (eq_f (y := 2) (eS G 4) 2 y (by omega) (by decide))]
    unfold f_X7_pass_14
    rw [if_pos (show mK (cs I J A M) 1026 = 13 from k), e', Option.bind_some, if_neg (show ¬ (1 : Int32) = 0 by decide)]
end RTEST
/-! ===== PURE, THE REFERENCE: a tile comes; the end without a winner; draw ===== -/
theorem m1_0 {x : Int32} (h : x + 1 = nI 0) : x = -1 := by
  have e : x + 1 - 1 = nI 0 - 1 := by rw [h]
  rw [Int32.add_sub_cancel] at e
  exact e
theorem m1_s {x : Int32} {n : Nat} (h : x + 1 = nI (n + 1)) : x = nI n := by
  have e : x + 1 - 1 = nI (n + 1) - 1 := by rw [h]
  rw [Int32.add_sub_cancel, nI_pred] at e
  exact e
/-- the dealer is by the rounds -/
def WD (G : zG) : Prop := (eS G 7 = 0 ∧ eS G 6 = 0) ∨ (eS G 7 ≠ 0 ∧ eS G 6 = (eS G 7 - 1) % 4 + 1)
/-- fields that the game does without -/
def fk (k : Nat) : Prop := k = 384 ∨ k = 385 ∨ k = 427 ∨ k = 428
def PR (I I' : Nat → Nat → Int32) : Prop := ∀ k b, fk k ∨ I' k b = I k b
theorem PR.rf (I : Nat → Nat → Int32) : PR I I := fun k b => Or.inr rfl
theorem PR.tr {I I1 I2 : Nat → Nat → Int32} (h : PR I I1) (g : PR I1 I2) : PR I I2 := fun k b => (h k b).elim Or.inl fun e1 => (g k b).elim Or.inl fun e2 => Or.inr (e2.trans e1)
theorem PR.put {I I' : Nat → Nat → Int32} (h : PR I I') {q : Nat} (hq : fk q) (b : Nat) (v : Int32) : PR I (u2 I' q b v) := fun k c => by
  by_cases y : k = q
  · exact Or.inl (y ▸ hq)
  · exact (h k c).elim Or.inl fun e => Or.inr ((if_neg (fun z => y z.1)).trans e)
theorem PR.at {I I' : Nat → Nat → Int32} (h : PR I I') (k b : Nat) (hk : ¬ fk k) : I' k b = I k b := (h k b).resolve_left hk
theorem fk_no {k : Nat} (h : k ≠ 384 ∧ k ≠ 385 ∧ k ≠ 427 ∧ k ≠ 428) : ¬ fk k := fun q => by
  unfold fk at q
  omega
section RDRAW
variable {I : Nat → Nat → Int32} {J : Nat → Nat → Int64} {A : Nat → Nat → Int32} {M : zM} {G : zG} {hp dl : Nat → Nat}
theorem RN.free {I' : Nat → Nat → Int32} (h : RN I J A M G hp dl) (f : PR I I') : RN I' J A M G hp dl := by
  have e : ∀ k b, (k ≠ 384 ∧ k ≠ 385 ∧ k ≠ 427 ∧ k ≠ 428) → I' k b = I k b := fun k b hk => f.at k b (fk_no hk)
  obtain ⟨⟨s1, s2, s3, s4, s5, s6, s7, s8⟩, q, v⟩ := h
  refine ⟨⟨(e _ _ (by decide)).trans s1, (e _ _ (by decide)).trans s2, by rw [e _ _ (by decide)]; exact s3, (e _ _ (by decide)).trans s4, (e _ _ (by decide)).trans s5, fun z => ?_, fun z => by rw [e _ _ (by decide)]; exact s7 z, fun z => (e _ _ (by decide)).trans (s8 z)⟩, fun c hc => ?_, fun i hi => (e _ _ (by decide)).trans (v i hi)⟩
  · obtain ⟨a, b, c, k, hk, d⟩ := s6 z
    exact ⟨(e _ _ (by decide)).trans a, (e _ _ (by decide)).trans b, c, k, hk, (e _ _ (by decide)).trans d⟩
  · obtain ⟨a, ⟨b1, b2, b3, b4⟩, ⟨c1, c2⟩, d1, d2⟩ := q c hc
    refine ⟨a, ⟨(e _ _ (by decide)).trans b1, b2, b3, fun j hj => ?_⟩, ⟨(e _ _ (by decide)).trans c1, c2⟩, d1, (e _ _ (by decide)).trans d2⟩
    obtain ⟨o, o1, o2, o3, o4, o5⟩ := b4 j hj
    exact ⟨o, o1, o2, o3, (e _ _ (by decide)).trans o4, (e _ _ (by decide)).trans o5⟩
theorem RN.hand (h : RN I J A M G hp dl) (g : RS M hp dl) {p k v : Nat} (hp4 : p < 4) (hk : k < 25) : RN I J (u2 A (hp p) k (nI v)) M (wH G p k v) hp dl := by
  obtain ⟨⟨s1, s2, s3, s4, s5, s6, s7, s8⟩, q, w⟩ := h
  refine ⟨⟨s1, s2, s3, s4, s5, fun z => ?_, s7, s8⟩, fun c hc => ?_, w⟩
  · obtain ⟨a, b, c, d⟩ := s6 z
    exact ⟨a, b, fun t ht => (if_neg (fun e => (g.2.2.1 p hp4).2.2.2.1 e.1.symm)).trans (c t ht), d⟩
  · obtain ⟨a, b⟩ := q c hc
    refine ⟨fun j hj => ?_, b⟩
    show u2 A (hp p) k (nI v) (hp c) j = nI (u2 (eH G) p k v c j)
    unfold u2
    by_cases y : c = p ∧ j = k
    · rw [if_pos y, if_pos ⟨by rw [y.1], y.2⟩]
    · rw [if_neg y, if_neg (fun z => y ⟨g.2.2.2.1 c p hc hp4 z.1, z.2⟩)]
      exact a j hj
theorem r_left (h : RS M hp dl) (hn : RN I J A M G hp dl) (hw : WF G) (hd : WD G) : f_X7_left 1026 (cs I J A M) = some (nI (if eS G 7 = 0 then 0 else 60 - eS G 2 - eS G 3), cs I J A M) := by
  obtain ⟨⟨s1, s2, s3, s4, s5, s6, s7, s8⟩, q, v⟩ := hn
  have k := h.1.1
  unfold f_X7_left f_X7_left_0
  rw [gI_cs 424 k, Option.bind_some]
  rcases hd with ⟨d1, d2⟩ | ⟨d1, d2⟩
  · rw [d2] at s3
    rw [m1_0 s3, if_pos rfl, if_pos d1]
    rfl
  · obtain ⟨a, b, c⟩ := s6 d1
    have w2 := hw.2.2.1
    rw [d2] at s3
    rw [m1_s s3, if_neg (fun e => by
      have e2 : nI ((eS G 7 - 1) % 4) < 0 := by rw [e]; decide
      exact nI_nn (by omega) e2), if_neg d1, gI_cs 420 k, Option.bind_some, gI_cs 419 k, Option.bind_some, a, b]
    have e1 : nI (99 - eS G 3) - nI (40 + eS G 2) + 1 = nI (60 - eS G 2 - eS G 3) := by
      have e2 : nI (99 - eS G 3) - nI (40 + eS G 2) + 1 = nI (99 - eS G 3) + 1 - nI (40 + eS G 2) := by grind
      rw [e2, nI_1, pk_sub (by omega)]
      exact congrArg nI (by omega)
    rw [e1]
theorem r_canDraw (h : RS M hp dl) (hn : RN I J A M G hp dl) (hw : WF G) (hd : WD G) : f_X7_canDraw 1026 (cs I J A M) = some (b32 (gCan G), cs I J A M) := by
  unfold f_X7_canDraw f_X7_canDraw_0
  rw [if_pos (show mK (cs I J A M) 1026 = 13 from h.1.1), r_left h hn hw hd, Option.bind_some]
  unfold gCan
  by_cases y : eS G 7 = 0
  · rw [if_pos y, decide_eq_false (fun z => z.1 y)]
    rfl
  · rw [if_neg y]
    by_cases z : 24 < 60 - eS G 2 - eS G 3
    · rw [decide_eq_true ⟨y, z⟩, if_neg (le_f (y := 24) (60 - eS G 2 - eS G 3) 24 z (by omega))]
      rfl
    · rw [decide_eq_false (fun w => z w.2), if_pos (le_t (y := 24) (60 - eS G 2 - eS G 3) 24 (by omega) (by decide))]
      rfl
theorem r_take (h : RS M hp dl) {t k : Nat} (ht4 : t < 4) (ht : I 423 1026 = nI t) (hk : k < 25) : f_X7_take 1026 (nI k) (cs I J A M) = some (nI k, cs (u2 (u2 I 429 1026 (nI k)) 422 1026 1) J (u2 A (hp t) k (A (hp t) k + 1)) M) := by
  have hs := h.2.1 t ht4
  have hh := h.2.2.1 t ht4
  unfold f_X7_take f_X7_take_0
  rw [if_pos (show mK (cs I J A M) 1026 = 13 from h.1.1), r_its h ht4 ht, Option.bind_some]
  show (gR 12 2 (cs I J A M) (1028 + 4 * t)).bind _ = _
  rw [gR_cs 386 hs.1 hs.2.1, Option.bind_some, lA_cs hh.1 (by rw [hh.2.1]; exact hk) (by rw [hh.2.1]; decide), Option.bind_some, tA_cs hh.1 (by rw [hh.2.1]; exact hk) (by rw [hh.2.1]; decide), Option.bind_some, pI_cs 429 h.1.1, Option.bind_some, pI_cs 422 h.1.1, Option.bind_some]
theorem r_settle_38 (h : RS M hp dl) {a1 : Nat} (ha : mK M a1 = 102 ∧ mL M a1 = 4) {i : Nat} (hi : i < 4) {K : Nat → Nat → Int32 → zM → Option (Unit × zM)} (hK : ∀ I, ∃ I', K 1026 a1 (nI (i + 1)) (cs I J A M) = some ((), cs I' J A M) ∧ PR I I') : ∀ (d n j : Nat) (I : Nat → Nat → Int32), j + d = 4 → d < n → ∃ I', f_X7_settle_38 K n 1026 a1 (nI i) (nI j) (cs I J A M) = some ((), cs I' J A M) ∧ PR I I' := by
  have lz : ∀ (I : Nat → Nat → Int32) (j : Nat), j < 4 → lA 2 (cs I J A M) a1 (nI j) = some (A a1 j) := fun I j hj => by
    have e : lA 2 (cs I J A M) a1 (nI j) = some (A a1 (nI j).toNatClampNeg) := if_pos ⟨Or.inl ha.1, nI_oob (by show j < mL M a1; rw [ha.2]; exact hj) (by show mL M a1 < _; rw [ha.2]; decide)⟩
    rw [e, nI_cl (by omega)]
  intro d
  induction d with
  | zero =>
    intro n j I hj hn
    obtain ⟨n, rfl⟩ : ∃ m, n = m + 1 := ⟨n - 1, by omega⟩
    rw [f_X7_settle_38, if_pos (le_t (x := 4) 4 j (by omega) (by omega)), nI_1]
    exact hK I
  | succ d ih =>
    intro n j I hj hn
    obtain ⟨n, rfl⟩ : ∃ m, n = m + 1 := ⟨n - 1, by omega⟩
    rw [f_X7_settle_38, if_neg (le_f (x := 4) 4 j (by omega) (by decide)), lz I i hi, Option.bind_some, lz I j (by omega), Option.bind_some]
    have hs1 := h.2.1 i hi
    have hs2 := h.2.1 j (by omega)
    split
    · split
      · rw [nI_1]
        exact ih n (j + 1) I (by omega) (by omega)
      · rw [gR_cs 417 h.1.1 h.1.2.1, Option.bind_some, h.pl hi, Option.bind_some, gI_cs 384 hs1.1, Option.bind_some, pI_cs 384 hs1.1, Option.bind_some, gR_cs 417 h.1.1 h.1.2.1, Option.bind_some, h.pl (show j < 4 by omega), Option.bind_some, gI_cs 384 hs2.1, Option.bind_some, pI_cs 384 hs2.1, Option.bind_some, nI_1]
        obtain ⟨I', e, f⟩ := ih n (j + 1) (u2 (u2 I 384 (1028 + 4 * i) (I 384 (1028 + 4 * i) - 10)) 384 (1028 + 4 * j) (u2 I 384 (1028 + 4 * i) (I 384 (1028 + 4 * i) - 10) 384 (1028 + 4 * j) + 10)) (by omega) (by omega)
        exact ⟨I', e, (((PR.rf I).put (Or.inl rfl) _ _).put (Or.inl rfl) _ _).tr f⟩
    · rw [nI_1]
      exact ih n (j + 1) I (by omega) (by omega)
theorem r_settle_31 (h : RS M hp dl) {a1 : Nat} (ha : mK M a1 = 102 ∧ mL M a1 = 4) : ∀ (d n i : Nat) (I : Nat → Nat → Int32), i + d = 4 → d < n → ∃ I', f_X7_settle_31 n 1026 a1 (nI i) (cs I J A M) = some ((), cs I' J A M) ∧ PR I I' := by
  intro d
  induction d with
  | zero =>
    intro n i I hi hn
    obtain ⟨n, rfl⟩ : ∃ m, n = m + 1 := ⟨n - 1, by omega⟩
    exact ⟨I, by rw [f_X7_settle_31, if_pos (le_t (x := 4) 4 i (by omega) (by omega))], PR.rf I⟩
  | succ d ih =>
    intro n i I hi hn
    obtain ⟨n, rfl⟩ : ∃ m, n = m + 1 := ⟨n - 1, by omega⟩
    rw [f_X7_settle_31, if_neg (le_f (x := 4) 4 i (by omega) (by decide))]
    exact r_settle_38 h ha (by omega) (fun I => ih n (i + 1) I (by omega) (by omega)) 4 zN 0 I rfl (by decide)
/-- hands as they are within their lengths -/
def RW (M : zM) (a1 : Nat) (A A' : Nat → Nat → Int32) : Prop := ∀ b, b ≠ a1 → ∀ i, i < mL M b → A' b i = A b i
theorem r_settle_6 (h : RS M hp dl) (hn : RN I J A M G hp dl) (hw : WF G) {a1 : Nat} (ha : mK M a1 = 102 ∧ mL M a1 = 4) : ∀ (d n i : Nat) (A' : Nat → Nat → Int32), i + d = 4 → d < n → RW M a1 A A' → ∃ I' A'', f_X7_settle_6 n 1026 a1 (nI i) (cs I J A' M) = some ((), cs I' J A'' M) ∧ PR I I' ∧ RW M a1 A A'' := by
  intro d
  induction d with
  | zero =>
    intro n i A' hi hn hA
    obtain ⟨n, rfl⟩ : ∃ m, n = m + 1 := ⟨n - 1, by omega⟩
    rw [f_X7_settle_6, if_pos (le_t (x := 4) 4 i (by omega) (by omega))]
    obtain ⟨I', e, f⟩ := r_settle_31 (J := J) (A := A') h ha 4 zN 0 I rfl (by decide)
    exact ⟨I', A', e, f, hA⟩
  | succ d ih =>
    intro n i A' hi hn' hA
    obtain ⟨n, rfl⟩ : ∃ m, n = m + 1 := ⟨n - 1, by omega⟩
    have hi4 : i < 4 := by omega
    have hs1 := h.2.1 i hi4
    have hh := h.2.2.1 i hi4
    obtain ⟨n1, n2, -⟩ := hn.2.1 i hi4
    obtain ⟨w1, w2, -⟩ := hw.2.2.2.2.2.2.2.2.2.2 i hi4
    have hne : hp i ≠ a1 := fun e => by have := ha.1; rw [← e, hh.1] at this; omega
    have hAh : ∀ k, k < 25 → A' (hp i) k = nI (eH G i k) := fun k hk => (hA _ hne k (by rw [hh.2.1]; exact hk)).trans (n1 k hk)
    obtain ⟨w', e, f⟩ := r_isReady (I := I) (J := J) (A := A') (h.ps hi4) n2.1 w2 (g := eH G i) (fun k hk => by have := w1 k hk; omega) (by have := sn_le (eH G i) 4 25 0 (fun k _ q => w1 k (by omega)); omega) hAh
    rw [f_X7_settle_6, if_neg (le_f (x := 4) 4 i (by omega) (by decide)), gR_cs 417 h.1.1 h.1.2.1, Option.bind_some, h.pl hi4, Option.bind_some, if_pos (show mK (cs I J A' M) (1028 + 4 * i) = 12 from hs1.1), e, Option.bind_some]
    have ez : ∀ (A2 : Nat → Nat → Int32) (v : Int32), tZ (cs I J A2 M) a1 (nI i) v = some (cs I J (u2 A2 a1 i (vp_nar .boolean v)) M) := fun A2 v => by
      have e : tZ (cs I J A2 M) a1 (nI i) v = some (cs I J (u2 A2 a1 (nI i).toNatClampNeg (vp_nar .boolean v)) M) := if_pos ⟨ha.1, nI_oob (by show i < mL M a1; rw [ha.2]; exact hi4) (by show mL M a1 < _; rw [ha.2]; decide)⟩
      rw [e, nI_cl (by omega)]
    show ∃ I' A'', (tZ (cs I J (ur A' (hp i) w') M) a1 (nI i) _).bind _ = _ ∧ _
    rw [ez, Option.bind_some, nI_1]
    refine ih n (i + 1) _ (by omega) (by omega) (fun b hb j hj => ?_)
    refine (if_neg (fun z => hb z.1)).trans ?_
    by_cases y : b = hp i
    · subst y
      rw [ur_at, f j (by rw [hh.2.1] at hj; exact hj)]
      exact hA _ hb j hj
    · rw [ur_ne _ _ _ y]
      exact hA _ hb j hj
end RDRAW
