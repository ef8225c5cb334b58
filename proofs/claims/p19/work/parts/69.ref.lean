/-! ===== PURE, THE REFERENCE: the digest ===== -/
section RDIG
variable {M M0 M1 : zM} {G : zG} {hp dl : Nat → Nat} {l d N : Nat} {v : Nat → Nat}
theorem r_add7 (a b : Int64) (M : zM) : f_X7_add a b M = some (a * 31 + b, M) := rfl
theorem r_dig_168 (hq : WQ G) {i c s C S : Nat} (hi4 : i < 4) {K : Nat → Int64 → Int32 → zM → Option (Int64 × zM)} (hK : ∀ j M', RB (c + 1) (s + 4) M0 M' G hp dl → RX C S M0 G hp dl (K 1026 j (nI (i + 1)) M')) (hb : RB c s M0 M1 G hp dl) (hlr : LR M1 l d N v) : ∀ (e n cc : Nat) (j : Int64) (M : zM), cc + e = N → e < n → KM 1 4 M1 M → IT M (mX M1) l cc → RX C S M0 G hp dl (f_X7_digest_168 K n 1026 j (nI i) (mX M1) M) := by
  intro e
  induction e with
  | zero =>
    intro n cc j M hc hn hk hi
    obtain ⟨n, rfl⟩ : ∃ m, n = m + 1 := ⟨n - 1, by omega⟩
    obtain ⟨⟨l1, l2, l3, l4, l5⟩, -⟩ := hlr.km hk
    have hbM : RB (c + 1) (s + 4) M0 M G hp dl := hb.tr (RB.km hb.1 hb.2.1 hk)
    obtain ⟨q1, q2⟩ := r_players hbM.1 hi4
    obtain ⟨A', e1, f1⟩ := r_waitsG (I := mI M) (J := mJ M) (A := mA M) hbM.1 hbM.2.1 hq.1 hi4
    have e1' : f_X6_waits (1028 + 4 * i) M = some (gW G i, cs (mI M) (mJ M) A' M) := e1
    have hb2 : RB (c + 1) (s + 4) M0 (cs (mI M) (mJ M) A' M) G hp dl := ⟨hbM.1, f1, hbM.2.2⟩
    obtain ⟨x, y, e2⟩ := r_leadNow (M := cs (mI M) (mJ M) A' M) hb2.1 hi4
    rw [f_X7_digest_168, if_pos hi.1, r_hasNext hi l1 l3 (by omega) (by omega), Option.bind_some, if_pos (show cc = N by omega)]
    dsimp only
    rw [if_pos rfl, q1, Option.bind_some, q2, Option.bind_some, if_pos (hbM.1.2.1 i hi4).1, e1', Option.bind_some]
    dsimp only
    rw [r_add7, Option.bind_some]
    dsimp only
    rw [if_pos (show mK (cs (mI M) (mJ M) A' M) 1026 = 13 from hbM.1.1.1), e2, Option.bind_some]
    dsimp only
    rw [if_pos (z_mul4 (z_sub4n x y)), r_add7, Option.bind_some, nI_1]
    exact hK _ _ hb2
  | succ e ih =>
    intro n cc j M hc hn hk hi
    obtain ⟨n, rfl⟩ : ∃ m, n = m + 1 := ⟨n - 1, by omega⟩
    obtain ⟨⟨l1, l2, l3, l4, l5⟩, l6, l7⟩ := hlr.km hk
    obtain ⟨d1, d2, d3, d4⟩ := l6 (by omega)
    obtain ⟨o, o1, o2, o3, o4⟩ := l7 cc (by omega)
    obtain ⟨e1, e2⟩ := r_next hi l1 l3 (by omega) l2 d1 d2 d3 (by omega) o1
    have o22 : mK (sI (sI M 128 (mX M1) (nI (cc + 1))) 129 (mX M1) (nI cc)) o = 3 ∨ mK (sI (sI M 128 (mX M1) (nI (cc + 1))) 129 (mX M1) (nI cc)) o = 303 := Or.inr o2
    have hk2 : KM 1 4 M1 (sI (sI M 128 (mX M1) (nI (cc + 1))) 129 (mX M1) (nI cc)) := (hk.sI (Nat.le_refl _) _ _).sI (Nat.le_refl _) _ _
    generalize sI (sI M 128 (mX M1) (nI (cc + 1))) 129 (mX M1) (nI cc) = M2 at *
    rw [f_X7_digest_168, if_pos hi.1, r_hasNext hi l1 l3 (by omega) (by omega), Option.bind_some, if_neg (show ¬ cc = N by omega)]
    dsimp only
    rw [if_neg (show ¬ (1 : Int32) = 0 by decide), if_pos hi.1, e1, Option.bind_some]
    dsimp only
    rw [if_pos o22, if_pos o22]
    unfold f_J6_intValue_8abf5 f_J6_intValue_8abf5_0
    rw [e_hI 96 o22, Option.bind_some, Option.bind_some, r_add7, Option.bind_some]
    exact ih n (cc + 1) _ M2 (by omega) (by omega) hk2 e2
theorem r_dig_118 (hq : WQ G) {i c s C S : Nat} (hi4 : i < 4) {K : Nat → Int64 → Int32 → zM → Option (Int64 × zM)} (hK : ∀ j M', RB (c + 2) (s + 8) M0 M' G hp dl → RX C S M0 G hp dl (K 1026 j (nI (i + 1)) M')) (hb : RB c s M0 M1 G hp dl) (hlv : LV M1 l d N v) : ∀ (e n cc : Nat) (j : Int64) (M : zM), cc + e = N → e < n → KM 1 4 M1 M → IT M (mX M1) l cc → RX C S M0 G hp dl (f_X7_digest_118 K n 1026 j (nI i) (mX M1) M) := by
  intro e
  induction e with
  | zero =>
    intro n cc j M hc hn hk hi
    obtain ⟨n, rfl⟩ : ∃ m, n = m + 1 := ⟨n - 1, by omega⟩
    obtain ⟨⟨l1, l2, l3, l4, l5⟩, -⟩ := hlv.km hk
    have hbM : RB (c + 1) (s + 4) M0 M G hp dl := hb.tr (RB.km hb.1 hb.2.1 hk)
    obtain ⟨q1, q2⟩ := r_players hbM.1 hi4
    have hlr := hbM.1.lr (I := mI M) (J := mJ M) (A := mA M) hbM.2.1 hq.1 hi4
    have hs := hbM.1.2.1 i hi4
    have hr1 : mK M (1031 + 4 * i) = 5 := hs.2.2.2.2.2
    obtain ⟨M2, e2, i2, k2⟩ := r_iter hr1 hlr.1.2.2.2.1
    rw [f_X7_digest_118, if_pos hi.1, r_hasNext hi l1 l3 (by omega) (by omega), Option.bind_some, if_pos (show cc = N by omega)]
    dsimp only
    rw [if_pos rfl, q1, Option.bind_some, q2, Option.bind_some, e_gR 388 hs.1 hs.2.2.2.1, Option.bind_some, if_pos hr1, e2, Option.bind_some]
    exact r_dig_168 hq hi4 (c := c + 1) (s := s + 4) (fun j M' b => hK j M' b) hbM hlr (eM G i) zN 0 j M2 (by omega) (by have := hlr.1.2.2.2.2; show eM G i < 130; omega) k2 i2
  | succ e ih =>
    intro n cc j M hc hn hk hi
    obtain ⟨n, rfl⟩ : ∃ m, n = m + 1 := ⟨n - 1, by omega⟩
    obtain ⟨⟨l1, l2, l3, l4, l5⟩, l6, l7⟩ := hlv.km hk
    obtain ⟨d1, d2, d3, d4⟩ := l6 (by omega)
    obtain ⟨o, o1, o2, o3, o4, o5⟩ := l7 cc (by omega)
    obtain ⟨e1, e2⟩ := r_next hi l1 l3 (by omega) l2 d1 d2 d3 (by omega) o1
    have o22 : mK (sI (sI M 128 (mX M1) (nI (cc + 1))) 129 (mX M1) (nI cc)) o = 11 := o2
    have hk2 : KM 1 4 M1 (sI (sI M 128 (mX M1) (nI (cc + 1))) 129 (mX M1) (nI cc)) := (hk.sI (Nat.le_refl _) _ _).sI (Nat.le_refl _) _ _
    generalize sI (sI M 128 (mX M1) (nI (cc + 1))) 129 (mX M1) (nI cc) = M2 at *
    rw [f_X7_digest_118, if_pos hi.1, r_hasNext hi l1 l3 (by omega) (by omega), Option.bind_some, if_neg (show ¬ cc = N by omega)]
    dsimp only
    rw [if_neg (show ¬ (1 : Int32) = 0 by decide), if_pos hi.1, e1, Option.bind_some]
    dsimp only
    rw [if_pos (Or.inl o22)]
    unfold f_X7_ofSetNow f_X7_ofSetNow_0
    rw [e_gI 352 o22, Option.bind_some, e_gI 353 o22, Option.bind_some, Option.bind_some, r_add7, Option.bind_some]
    exact ih n (cc + 1) _ M2 (by omega) (by omega) hk2 e2
theorem r_dig_73 (hq : WQ G) {i c s C S : Nat} (hi4 : i < 4) {K : Nat → Int64 → Int32 → zM → Option (Int64 × zM)} (hK : ∀ j M', RB (c + 2) (s + 8) M0 M' G hp dl → RX C S M0 G hp dl (K 1026 j (nI (i + 1)) M')) (hb : RB c s M0 M G hp dl) : ∀ (e n k : Nat) (j : Int64), k + e = 25 → e < n → RX C S M0 G hp dl (f_X7_digest_73 K n 1026 j (nI i) (nI k) M) := by
  obtain ⟨q1, q2⟩ := r_players hb.1 hi4
  have hs := hb.1.2.1 i hi4
  have hh := hb.1.2.2.1 i hi4
  intro e
  induction e with
  | zero =>
    intro n k j hk hn
    obtain ⟨n, rfl⟩ : ∃ m, n = m + 1 := ⟨n - 1, by omega⟩
    have hlv := hb.1.lv (I := mI M) (J := mJ M) (A := mA M) hb.2.1 hq.1 hi4
    have hl1 : mK M (1030 + 4 * i) = 5 := hs.2.2.2.2.1
    obtain ⟨M2, e2, i2, k2⟩ := r_iter hl1 hlv.1.2.2.2.1
    rw [f_X7_digest_73, if_pos (le_t (x := 25) 25 k (by omega) (by omega)), q1, Option.bind_some, q2, Option.bind_some, e_gR 387 hs.1 hs.2.2.1, Option.bind_some, if_pos hl1, e2, Option.bind_some]
    exact r_dig_118 hq hi4 hK hb hlv (eN G i) zN 0 j M2 (by omega) (by have := hlv.1.2.2.2.2; show eN G i < 130; omega) k2 i2
  | succ e ih =>
    intro n k j hk hn
    obtain ⟨n, rfl⟩ : ∃ m, n = m + 1 := ⟨n - 1, by omega⟩
    rw [f_X7_digest_73, if_neg (le_f (x := 25) 25 k (by omega) (by decide)), q1, Option.bind_some, q2, Option.bind_some, e_gR 386 hs.1 hs.2.1, Option.bind_some, e_lA hh.1 (by rw [hh.2.1]; omega) (by rw [hh.2.1]; decide), Option.bind_some, r_add7, Option.bind_some, nI_1]
    exact ih n (k + 1) _ (by omega) (by omega)
theorem r_dig_44 (hq : WQ G) {i c s C S : Nat} (hi4 : i < 4) {K : Nat → Int64 → Int32 → zM → Option (Int64 × zM)} (hK : ∀ j M', RB (c + 12) (s + 48) M0 M' G hp dl → RX C S M0 G hp dl (K 1026 j (nI (i + 1)) M')) : ∀ (e n x : Nat) (j : Int64) (M : zM), x + e = 10 → e < n → RB (c + x) (s + 4 * x) M0 M G hp dl → RX C S M0 G hp dl (f_X7_digest_44 K n 1026 j (nI i) (nI x) M) := by
  intro e
  induction e with
  | zero =>
    intro n x j M hx hn hb
    obtain ⟨n, rfl⟩ : ∃ m, n = m + 1 := ⟨n - 1, by omega⟩
    rw [f_X7_digest_44, if_pos (le_t (x := 10) 10 x (by omega) (by omega))]
    exact r_dig_73 hq hi4 (c := c + 10) (s := s + 40) (fun j M' b => hK j M' b) (hb.w (by omega) (by omega)) 25 zN 0 j rfl (by decide)
  | succ e ih =>
    intro n x j M hx hn hb
    obtain ⟨n, rfl⟩ : ∃ m, n = m + 1 := ⟨n - 1, by omega⟩
    obtain ⟨v, M1, e1, b1⟩ := r_ofPlayerNow hb.1 hb.2.1 hq hi4 (nI x)
    rw [f_X7_digest_44, if_neg (le_f (x := 10) 10 x (by omega) (by decide)), if_pos hb.1.1.1, e1, Option.bind_some]
    dsimp only
    rw [r_add7, Option.bind_some, nI_1]
    exact ih n (x + 1) _ M1 (by omega) (by omega) ((hb.tr b1).w (by omega) (by omega))
theorem r_dig_36 (hq : WQ G) : ∀ (e n i : Nat) (j : Int64) (M : zM), i + e = 4 → e < n → RB (10 + 12 * i) (100 + 48 * i) M0 M G hp dl → RX 58 292 M0 G hp dl (f_X7_digest_36 n 1026 j (nI i) M) := by
  intro e
  induction e with
  | zero =>
    intro n i j M hi hn hb
    obtain ⟨n, rfl⟩ : ∃ m, n = m + 1 := ⟨n - 1, by omega⟩
    obtain ⟨v, M1, e1, b1⟩ := r_bestNow hb.1 hb.2.1 hq
    rw [f_X7_digest_36, if_pos (le_t (x := 4) 4 i (by omega) (by omega)), if_pos hb.1.1.1, e1, Option.bind_some]
    dsimp only
    rw [r_add7, Option.bind_some]
    exact ⟨_, M1, rfl, (hb.tr b1).w (by omega) (by omega)⟩
  | succ e ih =>
    intro n i j M hi hn hb
    obtain ⟨n, rfl⟩ : ∃ m, n = m + 1 := ⟨n - 1, by omega⟩
    rw [f_X7_digest_36, if_neg (le_f (x := 4) 4 i (by omega) (by decide))]
    exact r_dig_44 hq (by omega) (c := 10 + 12 * i) (s := 100 + 48 * i) (fun j M' b => ih n (i + 1) j M' (by omega) (by omega) (b.w (by omega) (by omega))) 10 zN 0 j M rfl (by decide) hb
theorem r_dig_11 (hq : WQ G) : ∀ (e n x : Nat) (j : Int64) (M : zM), x + e = 10 → e < n → RB x (10 * x) M0 M G hp dl → RX 58 292 M0 G hp dl (f_X7_digest_11 n 1026 j (nI x) M) := by
  intro e
  induction e with
  | zero =>
    intro n x j M hx hn hb
    obtain ⟨n, rfl⟩ : ∃ m, n = m + 1 := ⟨n - 1, by omega⟩
    rw [f_X7_digest_11, if_pos (le_t (x := 10) 10 x (by omega) (by omega))]
    exact r_dig_36 hq 4 zN 0 j M rfl (by decide) (hb.w (by omega) (by omega))
  | succ e ih =>
    intro n x j M hx hn hb
    obtain ⟨n, rfl⟩ : ∃ m, n = m + 1 := ⟨n - 1, by omega⟩
    obtain ⟨v, M1, e1, b1⟩ := r_manyNow hb.1 hb.2.1 (show x < 10 by omega)
    rw [f_X7_digest_11, if_neg (le_f (x := 10) 10 x (by omega) (by decide)), if_pos hb.1.1.1, e1, Option.bind_some]
    dsimp only
    rw [r_add7, Option.bind_some, nI_1]
    exact ih n (x + 1) _ M1 (by omega) (by omega) ((hb.tr b1).w (by omega) (by omega))
theorem r_digest (h : RS M hp dl) (hn : RN (mI M) (mJ M) (mA M) M G hp dl) (hq : WQ G) : RX 58 292 M G hp dl (f_X7_digest 1026 M) := by
  have hb := RB.th h hn 0
  unfold f_X7_digest f_X7_digest_0
  rw [e_pI 416 h.1.1, Option.bind_some]
  exact r_dig_11 (M0 := M) hq 10 zN 0 _ (sI M 416 1026 0) rfl (by decide) hb
end RDIG
