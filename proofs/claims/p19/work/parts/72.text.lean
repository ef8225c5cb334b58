/-! ===== PURE, THE REFERENCE: the hand ===== -/
section RHAND
variable {M0 M : zM} {G : zG} {hp dl : Nat → Nat} {c : Nat}
theorem y_118 (h : BS M0 M c) (hc : c + 1 < 16) {k : Nat} (hk : k < 25) {K : Nat → Nat → Int32 → zM → Option (Nat × zM)} {a3 : Nat} : ∃ M' c', f_X7_hand_118 K (mX M0) a3 (nI k) M = K (mX M0) a3 (nI (k + 1)) M' ∧ BS M0 M' c' ∧ c' ≤ c + (if k = 17 then 1 else 0) := by
  unfold f_X7_hand_118
  by_cases y : k = 17
  · subst y
    rw [if_pos (show nI 17 = 17 from rfl), if_pos h.2.2.1, b_len h, Option.bind_some, if_pos rfl]
    dsimp only
    by_cases z : c = 0
    · rw [if_pos (show nI c ≤ 0 by rw [z]; decide), nI_1]
      exact ⟨M, c, rfl, h, by omega⟩
    · obtain ⟨b, rfl⟩ : ∃ b, c = b + 1 := ⟨c - 1, by omega⟩
      obtain ⟨q, q1, q2⟩ := b_at h (by omega)
      rw [if_neg (le_f (y := 0) (b + 1) 0 (by omega) (by omega)), if_pos h.2.2.1, b_len h, Option.bind_some]
      dsimp only
      rw [if_pos h.2.2.1, q2, Option.bind_some]
      dsimp only
      split
      · rw [nI_1]
        exact ⟨M, b + 1, rfl, h, by omega⟩
      · obtain ⟨M1, e1, b1⟩ := b_char h (by omega) (v := 98) (by decide)
        rw [if_pos h.2.2.1, e1, Option.bind_some, nI_1]
        exact ⟨M1, b + 1 + 1, rfl, b1, by omega⟩
  · rw [if_neg (eq_f (y := 17) k 17 y (by omega) (by decide)), if_neg y, nI_1]
    exact ⟨M, c, rfl, h, by omega⟩
theorem y_47 (hT : TX M0) (hX : 1026 ≤ mX M0) {a3 k : Nat} (hk : k < 25) {K : Nat → Nat → Int32 → zM → Option (Nat × zM)} {g : Nat} (hk1 : mK M0 a3 = 100) (hk2 : mL M0 a3 = 25) (hk3 : a3 < mX M0) (hg : mA M0 a3 k = nI g) (hg4 : g ≤ 4) : ∀ (j n i c : Nat) (M : zM), i + j = g → j < n → c + j + 2 < 16 → BS M0 M c → ∃ M' c', f_X7_hand_47 K n (mX M0) a3 (nI k) (nI i) M = K (mX M0) a3 (nI (k + 1)) M' ∧ BS M0 M' c' ∧ c' ≤ c + j + (if k = 8 then 1 else 0) + (if k = 17 then 1 else 0) := by
  have row : ∀ c M, BS M0 M c → lA 0 M a3 (nI k) = some (nI g) := fun c M h => by
    have kb := h.1.2 a3 hk3
    rw [e_lA (kb.1.trans hk1) (by rw [kb.2.1, hk2]; omega) (by rw [kb.2.1, hk2]; decide), kb.2.2.2.2.2.1 k (by omega), hg]
  intro j
  induction j with
  | zero =>
    intro n i c M hi hn hc h
    obtain ⟨n, rfl⟩ : ∃ m, n = m + 1 := ⟨n - 1, by omega⟩
    rw [f_X7_hand_47, row c M h, Option.bind_some, if_pos (le_t g i (by omega) (by omega))]
    by_cases y : k = 8
    · subst y
      rw [if_pos (show nI 8 = 8 from rfl), if_pos h.2.2.1, b_len h, Option.bind_some, if_pos rfl]
      dsimp only
      split
      · obtain ⟨M1, c1, e1, b1, l1⟩ := y_118 (K := K) (a3 := a3) h (by omega) hk
        exact ⟨M1, c1, e1, b1, by omega⟩
      · obtain ⟨M2, e2, b2⟩ := b_char h (by omega) (v := 100) (by decide)
        obtain ⟨M1, c1, e1, b1, l1⟩ := y_118 (K := K) (a3 := a3) b2 (by omega) hk
        rw [if_pos h.2.2.1, e2, Option.bind_some]
        exact ⟨M1, c1, e1, b1, by omega⟩
    · rw [if_neg (eq_f (y := 8) k 8 y (by omega) (by decide)), if_neg y]
      obtain ⟨M1, c1, e1, b1, l1⟩ := y_118 (K := K) (a3 := a3) h (by omega) hk
      exact ⟨M1, c1, e1, b1, by omega⟩
  | succ j ih =>
    intro n i c M hi hn hc h
    obtain ⟨n, rfl⟩ : ∃ m, n = m + 1 := ⟨n - 1, by omega⟩
    have lo := LO.km h.1 hX
    have htM := hT.lo lo
    rw [f_X7_hand_47, row c M h, Option.bind_some, if_neg (le_f g i (by omega) (by omega))]
    have go : ∀ v : Int32, ¬ (255 : Int32) < v → ∃ M' c', f_X7_hand_87 K (f_X7_hand_47 K n) (mX M0) a3 (nI k) (nI i) v (mX M0) M = K (mX M0) a3 (nI (k + 1)) M' ∧ BS M0 M' c' ∧ c' ≤ c + (j + 1) + (if k = 8 then 1 else 0) + (if k = 17 then 1 else 0) := fun v hv => by
      obtain ⟨M1, e1, b1⟩ := b_char h (by omega) hv
      obtain ⟨M2, c2, e2, b2, l2⟩ := ih n (i + 1) (c + 1) M1 (by omega) (by omega) (by omega) b1
      refine ⟨M2, c2, ?_, b2, by omega⟩
      unfold f_X7_hand_87
      rw [if_pos h.2.2.1, e1, Option.bind_some, nI_1]
      exact e2
    by_cases y : 18 ≤ k
    · obtain ⟨m, rfl⟩ : ∃ m, k = 18 + m := ⟨k - 18, by omega⟩
      obtain ⟨q, q1, q2⟩ := t_at htM (Or.inr rfl) (i := m) (by omega)
      have es : ∀ m, m < 7 → nI (18 + m) - (18 : Int32) = nI m := by decide
      rw [if_pos (le_t (x := 18) 18 (18 + m) (by omega) (by omega)), if_pos (Or.inr (htM.2 21 (Or.inr rfl)).1), es m (by omega), q2, Option.bind_some]
      exact go _ (lt_f (x := 255) 255 q q1 (by decide))
    · rw [if_neg (le_f (x := 18) 18 k (by omega) (by decide))]
      have ed : ∀ k, k < 18 → ¬ (255 : Int32) < (((((49 : Int32)) + ((zmd (nI k) ((9 : Int32)))))).toUInt32 % 65536).toInt32 := by decide
      exact go _ (ed k (by omega))
theorem y_37 (hT : TX M0) (hX : 1026 ≤ mX M0) {a3 : Nat} {g : Nat → Nat} (hk1 : mK M0 a3 = 100) (hk2 : mL M0 a3 = 25) (hk3 : a3 < mX M0) (hg : ∀ k, k < 25 → mA M0 a3 k = nI (g k)) (hg4 : ∀ k, k < 25 → g k ≤ 4) : ∀ (e n k c : Nat) (M : zM), k + e = 25 → e < n → c + sn g k e + (if k ≤ 8 then 1 else 0) + (if k ≤ 17 then 1 else 0) + 2 < 16 → BS M0 M c → ∃ r M', f_X7_hand_37 n (mX M0) a3 (nI k) M = some (r, M') ∧ KM 4 40 M0 M' := by
  intro e
  induction e with
  | zero =>
    intro n k c M hi hn hc h
    obtain ⟨n, rfl⟩ : ∃ m, n = m + 1 := ⟨n - 1, by omega⟩
    obtain ⟨r, M5, e5, k5⟩ := b_str h (by omega)
    refine ⟨r, M5, ?_, k5⟩
    rw [f_X7_hand_37, if_pos (le_t (x := 25) 25 k (by omega) (by omega)), if_pos h.2.2.1, e5]
    rfl
  | succ e ih =>
    intro n k c M hi hn hc h
    obtain ⟨n, rfl⟩ : ∃ m, n = m + 1 := ⟨n - 1, by omega⟩
    rw [sn] at hc
    have hg4k := hg4 k (by omega)
    obtain ⟨M1, c1, e1, b1, l1⟩ := y_47 (K := f_X7_hand_37 n) hT hX (k := k) (by omega) hk1 hk2 hk3 (hg k (by omega)) hg4k (g k) zN 0 c M (by omega) (by show _ < 130; omega) (by omega) h
    obtain ⟨r, M2, e2, k2⟩ := ih n (k + 1) c1 M1 (by omega) (by omega) (by split at l1 <;> split at l1 <;> split at hc <;> split at hc <;> split <;> split <;> omega) b1
    refine ⟨r, M2, ?_, k2⟩
    rw [f_X7_hand_37, if_neg (le_f (x := 25) 25 k (by omega) (by decide))]
    exact e1.trans e2
theorem r_hand (h : RS M hp dl) (hn : RN (mI M) (mJ M) (mA M) M G hp dl) (hw : WF G) (hz : WZ G) (hT : TX M) (i : Int32) : RX 4 40 M G hp dl (f_X7_hand 1026 i M) := by
  unfold f_X7_hand f_X7_hand_0
  by_cases y : pBad i
  · rw [r_noPl_bad y, Option.bind_some]
    dsimp only
    rw [if_pos h.1.1, m11 h, Option.bind_some]
    dsimp only
    rw [if_neg (show ¬ (1 : Int32) = 0 by decide)]
    exact ⟨_, _, rfl, (RB.th h hn 1).w (by decide) (by decide)⟩
  · obtain ⟨p, hp4, rfl⟩ := pBad_no y
    have hb := RB.th h hn 0
    have hTT : TX (cs (th 0 (mI M)) (mJ M) (mA M) M) := by
      refine ⟨hT.1, fun x hx => ?_⟩
      obtain ⟨t1, t2, t3, t4⟩ := hT.2 x hx
      exact ⟨t1, t2, (u2_kn (k := 416) (k' := 33) (mI M) 1026 x 0 (by decide)).trans t3, t4⟩
    rw [r_noPl_ok hp4, Option.bind_some]
    dsimp only
    rw [if_pos h.1.1, m10 h, Option.bind_some]
    dsimp only
    rw [if_pos rfl]
    generalize cs (th 0 (mI M)) (mJ M) (mA M) M = M1 at *
    have hX := hb.1.2.2.2.2.2.2.2
    obtain ⟨M2, e2, b2⟩ := b_init M1
    have s2 := hb.1.st (ST.km b2.1)
    obtain ⟨q1, q2⟩ := r_players s2 hp4
    have hs2 := s2.2.1 p hp4
    have hh := hb.1.2.2.1 p hp4
    have hgp := (hw.2.2.2.2.2.2.2.2.2.2 p hp4).1
    have hzp := hz p hp4
    obtain ⟨r, M3, e3, k3⟩ := y_37 hTT (by omega) hh.1 hh.2.1 hh.2.2.2.2 (hb.2.1.2.1 p hp4).1 hgp 25 zN 0 0 M2 rfl (by decide) (by rw [if_pos (by decide), if_pos (by decide)]; omega) b2
    rw [e2, Option.bind_some]
    dsimp only
    rw [q1, Option.bind_some, q2, Option.bind_some, e_gR 386 hs2.1 hs2.2.1, Option.bind_some]
    exact ⟨r, M3, e3, (hb.tr (RB.km hb.1 hb.2.1 k3)).w (by decide) (by decide)⟩
end RHAND
