/-! ===== PURE, THE REFERENCE: what lies ===== -/
/-- how many of a kind lie of one player, of all -/
def snP (G : zG) (p k : Nat) : Nat := sn (fun j => tlN (eV G p j / 100) (eV G p j % 100) k) 0 (eN G p) + sn (fun j => if eR G p j = k then 1 else 0) 0 (eM G p)
def snA (G : zG) (k : Nat) : Nat → Nat → Nat
  | 0, _ => 0
  | d + 1, i => snP G i k + snA G k d (i + 1)
section RSEEN
variable {M M0 : zM} {l d N : Nat} {v : Nat → Nat}
theorem r_X5_ofN {o x k : Nat} (ho : mK M o = 11) (h1 : mI M 352 o = nI (x % 100)) (h2 : mI M 353 o = nI (x / 100)) (hx : x < 400) (hk : k < 25) : f_X5_of o (nI k) M = some (nI (tlN (x / 100) (x % 100) k), M) := by
  unfold f_X5_of f_X5_of_0
  have e2 : nI (x % 100) + 2 = nI (x % 100 + 2) := nI_add _ 2
  rw [e_gI 353 ho, Option.bind_some, h2]
  unfold tlN
  by_cases y : x / 100 = 1
  · rw [if_pos (show nI (x / 100) = 1 by rw [y]; rfl), if_pos y, e_gI 352 ho, Option.bind_some, Option.bind_some, h1, e2, r_isIn, Option.bind_some]
    dsimp only
    by_cases z1 : k < x % 100
    · rw [if_pos (lt_t k (x % 100) z1 (by omega)), if_pos rfl, if_pos z1]
      rfl
    · rw [if_neg (lt_f k (x % 100) (by omega) (by omega)), if_neg z1]
      by_cases z2 : x % 100 + 2 < k
      · rw [if_pos (lt_t (x % 100 + 2) k z2 (by omega)), if_pos rfl, if_pos z2]
        rfl
      · rw [if_neg (lt_f (x % 100 + 2) k (by omega) (by omega)), if_neg (show ¬ (1 : Int32) = 0 by decide), if_neg z2]
        rfl
  · rw [if_neg (eq_f (y := 1) (x / 100) 1 y (by omega) (by decide)), if_neg y, e_gI 352 ho, Option.bind_some, h1]
    by_cases z : k = x % 100
    · rw [if_pos (congrArg nI z), if_pos z, Option.bind_some]
      by_cases u : x / 100 = 0
      · rw [if_pos (show nI (x / 100) = 0 by rw [u]; rfl), if_pos u]
        rfl
      · rw [if_neg (eq_f (y := 0) (x / 100) 0 u (by omega) (by decide)), if_neg u]
        rfl
    · rw [if_neg (eq_f k (x % 100) z (by omega) (by omega)), if_neg z]
      rfl
theorem r_seen_81 {k : Nat} (hk : k < 25) {K : Int32 → Int32 → Nat → Int32 → Int32 → zM → Option (Int32 × zM)} {a3 : Nat} {i4 : Int32} {i c s : Nat} {M1 : zM} (h : LR M1 l d N v) (h25 : ∀ j, j < N → v j < 25) : ∀ (e n cc a : Nat) (M : zM), cc + e = N → e < n → KM c s M0 M1 → KM 1 4 M1 M → IT M (mX M1) l cc → ∃ M2, f_X7_seenNow_81 K n (nI k) (nI a) a3 i4 (nI i) (mX M1) M = K (nI k) (nI (a + sn (fun j => if v j = k then 1 else 0) cc e)) a3 i4 (nI (i + 1)) M2 ∧ KM (c + 1) (s + 4) M0 M2 := by
  intro e
  induction e with
  | zero =>
    intro n cc a M hc hn h01 hk1 hi
    obtain ⟨n, rfl⟩ : ∃ m, n = m + 1 := ⟨n - 1, by omega⟩
    obtain ⟨⟨l1, l2, l3, l4, l5⟩, -⟩ := h.km hk1
    refine ⟨M, ?_, h01.tr hk1⟩
    rw [f_X7_seenNow_81, if_pos hi.1, r_hasNext hi l1 l3 (by omega) (by omega), Option.bind_some, if_pos (show cc = N by omega)]
    dsimp only
    rw [if_pos rfl, nI_1]
    rfl
  | succ e ih =>
    intro n cc a M hc hn h01 hk1 hi
    obtain ⟨n, rfl⟩ : ∃ m, n = m + 1 := ⟨n - 1, by omega⟩
    obtain ⟨⟨l1, l2, l3, l4, l5⟩, l6, l7⟩ := h.km hk1
    obtain ⟨d1, d2, d3, d4⟩ := l6 (by omega)
    obtain ⟨o, o1, o2, o3, o4⟩ := l7 cc (by omega)
    obtain ⟨e1, e2⟩ := r_next hi l1 l3 (by omega) l2 d1 d2 d3 (by omega) o1
    have hv9 := h25 cc (by omega)
    have o22 : mK (sI (sI M 128 (mX M1) (nI (cc + 1))) 129 (mX M1) (nI cc)) o = 3 ∨ mK (sI (sI M 128 (mX M1) (nI (cc + 1))) 129 (mX M1) (nI cc)) o = 303 := Or.inr o2
    have o44 : mI (sI (sI M 128 (mX M1) (nI (cc + 1))) 129 (mX M1) (nI cc)) 96 o = nI (v cc) := o4
    have hk2 : KM 1 4 M1 (sI (sI M 128 (mX M1) (nI (cc + 1))) 129 (mX M1) (nI cc)) := (hk1.sI (Nat.le_refl _) _ _).sI (Nat.le_refl _) _ _
    generalize sI (sI M 128 (mX M1) (nI (cc + 1))) 129 (mX M1) (nI cc) = M2 at *
    rw [f_X7_seenNow_81, if_pos hi.1, r_hasNext hi l1 l3 (by omega) (by omega), Option.bind_some, if_neg (show ¬ cc = N by omega)]
    dsimp only
    rw [if_neg (show ¬ (1 : Int32) = 0 by decide), if_pos hi.1, e1, Option.bind_some]
    dsimp only
    rw [if_pos o22, if_pos o22]
    unfold f_J6_intValue_8abf5 f_J6_intValue_8abf5_0
    rw [e_hI 96 o22, Option.bind_some, Option.bind_some, o44, sn]
    dsimp only
    by_cases y : v cc = k
    · obtain ⟨M3, q1, q2⟩ := ih n (cc + 1) (a + 1) M2 (by omega) (by omega) h01 hk2 e2
      refine ⟨M3, ?_, q2⟩
      rw [if_pos (congrArg nI y), if_pos y, show nI a + 1 = nI (a + 1) from nI_1 a, q1, Nat.add_assoc]
    · obtain ⟨M3, q1, q2⟩ := ih n (cc + 1) (a + 0) M2 (by omega) (by omega) h01 hk2 e2
      refine ⟨M3, ?_, q2⟩
      rw [if_neg (eq_f (v cc) k y (by omega) (by omega)), if_neg y, show nI a + 0 = nI (a + 0) from Int32.add_zero _, q1, Nat.add_assoc]
theorem r_seen_37 {k : Nat} (hk : k < 25) {K : Int32 → Int32 → Nat → Int32 → Int32 → zM → Option (Int32 × zM)} {a3 P lr dr Nr : Nat} {vr : Nat → Nat} {i4 : Int32} {i c s : Nat} {M1 : zM} (h : LV M1 l d N v) (h400 : ∀ j, j < N → v j < 400) (hP : mK M1 P = 12 ∧ mR M1 388 P = some lr ∧ P < mX M1) (hr : LR M1 lr dr Nr vr) (h25 : ∀ j, j < Nr → vr j < 25) : ∀ (e n cc a : Nat) (M : zM), cc + e = N → e < n → KM c s M0 M1 → KM 1 4 M1 M → IT M (mX M1) l cc → ∃ M2, f_X7_seenNow_37 K n (nI k) (nI a) a3 i4 (nI i) P (mX M1) M = K (nI k) (nI (a + sn (fun j => tlN (v j / 100) (v j % 100) k) cc e + sn (fun j => if vr j = k then 1 else 0) 0 Nr)) a3 i4 (nI (i + 1)) M2 ∧ KM (c + 2) (s + 8) M0 M2 := by
  intro e
  induction e with
  | zero =>
    intro n cc a M hc hn h01 hk1 hi
    obtain ⟨n, rfl⟩ : ∃ m, n = m + 1 := ⟨n - 1, by omega⟩
    obtain ⟨⟨l1, l2, l3, l4, l5⟩, -⟩ := h.km hk1
    have hrM := hr.km hk1
    have hr2 := hrM
    obtain ⟨⟨r1, r2, r3, r4, r5⟩, -⟩ := hr2
    have kP : mK M P = 12 := ((hk1.2 P hP.2.2).1).trans hP.1
    have kP2 : mR M 388 P = some lr := ((hk1.2 P hP.2.2).2.2.2.2.1 388).trans hP.2.1
    obtain ⟨M3, e3, i3, k3⟩ := r_iter r1 r4
    obtain ⟨M2, q1, q2⟩ := r_seen_81 (K := K) (a3 := a3) (i4 := i4) (i := i) hk (M0 := M0) (M1 := M) hrM h25 Nr zN 0 a M3 (by omega) (by show Nr < 130; omega) (h01.tr hk1) k3 i3
    refine ⟨M2, ?_, q2⟩
    rw [f_X7_seenNow_37, if_pos hi.1, r_hasNext hi l1 l3 (by omega) (by omega), Option.bind_some, if_pos (show cc = N by omega)]
    dsimp only
    rw [if_pos rfl, e_gR 388 kP kP2, Option.bind_some, if_pos r1, e3, Option.bind_some]
    exact q1
  | succ e ih =>
    intro n cc a M hc hn h01 hk1 hi
    obtain ⟨n, rfl⟩ : ∃ m, n = m + 1 := ⟨n - 1, by omega⟩
    obtain ⟨⟨l1, l2, l3, l4, l5⟩, l6, l7⟩ := h.km hk1
    obtain ⟨d1, d2, d3, d4⟩ := l6 (by omega)
    obtain ⟨o, o1, o2, o3, o4, o5⟩ := l7 cc (by omega)
    obtain ⟨e1, e2⟩ := r_next hi l1 l3 (by omega) l2 d1 d2 d3 (by omega) o1
    have hv9 := h400 cc (by omega)
    have o22 : mK (sI (sI M 128 (mX M1) (nI (cc + 1))) 129 (mX M1) (nI cc)) o = 11 := o2
    have o44 : mI (sI (sI M 128 (mX M1) (nI (cc + 1))) 129 (mX M1) (nI cc)) 352 o = nI (v cc % 100) := o4
    have o55 : mI (sI (sI M 128 (mX M1) (nI (cc + 1))) 129 (mX M1) (nI cc)) 353 o = nI (v cc / 100) := o5
    have hk2 : KM 1 4 M1 (sI (sI M 128 (mX M1) (nI (cc + 1))) 129 (mX M1) (nI cc)) := (hk1.sI (Nat.le_refl _) _ _).sI (Nat.le_refl _) _ _
    generalize sI (sI M 128 (mX M1) (nI (cc + 1))) 129 (mX M1) (nI cc) = M2 at *
    obtain ⟨M3, q1, q2⟩ := ih n (cc + 1) (a + tlN (v cc / 100) (v cc % 100) k) M2 (by omega) (by omega) h01 hk2 e2
    refine ⟨M3, ?_, q2⟩
    rw [f_X7_seenNow_37, if_pos hi.1, r_hasNext hi l1 l3 (by omega) (by omega), Option.bind_some, if_neg (show ¬ cc = N by omega)]
    dsimp only
    rw [if_neg (show ¬ (1 : Int32) = 0 by decide), if_pos hi.1, e1, Option.bind_some]
    dsimp only
    rw [if_pos (Or.inl o22), if_pos o22, r_X5_ofN o22 o44 o55 hv9 hk, Option.bind_some, sn, ← Nat.add_assoc]
    dsimp only
    rw [nI_add]
    exact q1
end RSEEN
section RSEEN2
variable {I : Nat → Nat → Int32} {J : Nat → Nat → Int64} {A : Nat → Nat → Int32} {M : zM} {G : zG} {hp dl : Nat → Nat}
theorem r_seen_14 (h : RS M hp dl) (hn : RN I J A M G hp dl) (hw : WF G) (hv : WV G) {k : Nat} (hk : k < 25) : ∀ (e n i a : Nat) (M1 : zM), i + e = 4 → e < n → KM (2 * i) (8 * i) (cs I J A M) M1 → ∃ M2, f_X7_seenNow_14 n (nI k) (nI a) 1027 (nI 4) (nI i) M1 = some (nI (a + snA G k e i), M2) ∧ KM 8 32 (cs I J A M) M2 := by
  intro e
  induction e with
  | zero =>
    intro n i a M1 hi hn' hk1
    obtain ⟨n, rfl⟩ : ∃ m, n = m + 1 := ⟨n - 1, by omega⟩
    refine ⟨M1, ?_, hk1.w (by omega) (by omega)⟩
    rw [f_X7_seenNow_14, if_pos (le_t 4 i (by omega) (by omega))]
    rfl
  | succ e ih =>
    intro n i a M1 hi hn' hk1
    obtain ⟨n, rfl⟩ : ∃ m, n = m + 1 := ⟨n - 1, by omega⟩
    have hi4 : i < 4 := by omega
    have hS := RS.st (M := cs I J A M) h (ST.km hk1)
    have hs := hS.2.1 i hi4
    have hX := hS.2.2.2.2.2.2.2
    have hlv := (h.lv hn hw hi4).km hk1
    have hlr := (h.lr hn hw hi4).km hk1
    have hl := hlv
    obtain ⟨⟨l1, l2, l3, l4, l5⟩, -⟩ := hl
    obtain ⟨M2, e2, i2, k2⟩ := r_iter l1 l4
    have hR := (hw.2.2.2.2.2.2.2.2.2.2 i hi4).2.2.2
    obtain ⟨M3, q1, q2⟩ := r_seen_37 (K := f_X7_seenNow_14 n) (a3 := 1027) (i4 := nI 4) (i := i) hk (M0 := cs I J A M) hlv (fun j hj => hv i hi4 j hj) ⟨hs.1, hs.2.2.2.1, by omega⟩ hlr (fun j hj => hR j hj) (eN G i) zN 0 a M2 (by omega) (by show eN G i < 130; omega) hk1 k2 i2
    obtain ⟨M4, t1, t2⟩ := ih n (i + 1) (a + sn (fun j => tlN (eV G i j / 100) (eV G i j % 100) k) 0 (eN G i) + sn (fun j => if eR G i j = k then 1 else 0) 0 (eM G i)) M3 (by omega) (by omega) (q2.w (by omega) (by omega))
    refine ⟨M4, ?_, t2⟩
    have el : lQ 2 M1 1027 (nI i) = some (1028 + 4 * i) := RS.pl (I := mI M1) (J := mJ M1) (A := mA M1) hS hi4
    rw [f_X7_seenNow_14, if_neg (le_f 4 i (by omega) (by decide)), el, Option.bind_some, e_gR 387 hs.1 hs.2.2.1, Option.bind_some, if_pos l1, e2, Option.bind_some]
    dsimp only
    rw [q1, t1, snA, snP]
    exact congrArg some (congrArg (·, M4) (congrArg nI (by omega)))
theorem r_seenNow (h : RS M hp dl) (hn : RN I J A M G hp dl) (hw : WF G) (hv : WV G) {k : Nat} (hk : k < 25) : ∃ M', f_X7_seenNow 1026 (nI k) (cs I J A M) = some (nI (snA G k 4 0), M') ∧ KM 8 32 (cs I J A M) M' := by
  obtain ⟨M', q1, q2⟩ := r_seen_14 h hn hw hv hk 4 zN 0 0 (cs I J A M) rfl (by decide) ((KM.rf _).w (by decide) (by decide))
  refine ⟨M', ?_, q2⟩
  rw [Nat.zero_add] at q1
  unfold f_X7_seenNow f_X7_seenNow_0
  rw [gR_cs 417 h.1.1 h.1.2.1, Option.bind_some, e_gL (M := cs I J A M) (by show zrow (mK M 1027); rw [h.1.2.2.2.1]; decide) h.1.2.2.2.2.1, Option.bind_some]
  exact q1
theorem r_seen_bad (h : RS M hp dl) {i : Int32} (y : oBad i) : f_X7_seen 1026 i (cs I J A M) = some (0, cs (th 1 I) J A M) := by
  unfold f_X7_seen f_X7_seen_0
  rw [r_kind_bad y, Option.bind_some]
  dsimp only
  rw [if_pos rfl]
  unfold f_X7_seen_13
  rw [if_pos (show mK (cs I J A M) 1026 = 13 from h.1.1), s11 h, Option.bind_some]
  dsimp only
  rw [if_neg (show ¬ (1 : Int32) = 0 by decide)]
theorem r_seen (h : RS M hp dl) (hn : RN I J A M G hp dl) (hw : WF G) (hv : WV G) {k : Nat} (hk : k < 25) : ∃ M', f_X7_seen 1026 (nI k) (cs I J A M) = some (nI (snA G k 4 0), M') ∧ KM 8 32 (cs (th 0 I) J A M) M' := by
  obtain ⟨M', q1, q2⟩ := r_seenNow (I := th 0 I) h (hn.th 0) hw hv hk
  refine ⟨M', ?_, q2⟩
  unfold f_X7_seen f_X7_seen_0
  rw [r_kind_ok hk, Option.bind_some]
  dsimp only
  rw [if_neg (show ¬ (1 : Int32) = 0 by decide)]
  unfold f_X7_seen_13
  rw [if_pos (show mK (cs I J A M) 1026 = 13 from h.1.1), s10 h, Option.bind_some]
  dsimp only
  rw [if_pos rfl, if_pos (show mK (cs (th 0 I) J A M) 1026 = 13 from h.1.1), q1, Option.bind_some]
end RSEEN2
