/-! ===== PURE, THE REFERENCE: lay, as it is called ===== -/
/-- the lucky kind behind a kind -/
def lkN (k : Nat) : Nat := if 18 ≤ k then (if k = 21 then 18 else if k = 24 then 22 else k + 1) else if k % 9 = 8 then k - 8 else k + 1
theorem lkN_lt {k : Nat} (h : k < 25) : lkN k < 25 := by
  unfold lkN
  repeat' split
  all_goals omega
theorem r_lucky {k : Nat} (h : k < 25) (M : zM) : f_X7_lucky (nI k) M = some (nI (lkN k), M) := by
  unfold f_X7_lucky f_X7_lucky_0 lkN
  by_cases y : 18 ≤ k
  · rw [if_pos (le_t (x := 18) 18 k y (by omega)), if_pos y]
    by_cases y1 : k = 21
    · rw [if_pos (show nI k = 21 by rw [y1]; rfl), if_pos y1]
      rfl
    · rw [if_neg (eq_f (y := 21) k 21 y1 (by omega) (by decide)), if_neg y1]
      by_cases y2 : k = 24
      · rw [if_pos (show nI k = 24 by rw [y2]; rfl), if_pos y2]
        rfl
      · rw [if_neg (eq_f (y := 24) k 24 y2 (by omega) (by decide)), if_neg y2]
        exact congrArg some (congrArg (·, M) (nI_1 k))
  · have em : zmd (nI k) 9 = nI (k % 9) := pk_rem (a := k) (d := 9) (by omega) (by decide) (by decide)
    rw [if_neg (le_f (x := 18) 18 k (by omega) (by decide)), if_neg y, em]
    by_cases y1 : k % 9 = 8
    · have e : nI k - 9 + 1 = nI (k - 8) := by
        have e2 : nI k - 9 + 1 = nI k - nI 8 := by
          rw [show nI 8 = (8 : Int32) from rfl]
          grind
        rw [e2, pk_sub (by omega)]
      rw [if_pos (show nI (k % 9) = 8 by rw [y1]; rfl), if_pos y1, e]
    · rw [if_neg (eq_f (y := 8) (k % 9) 8 y1 (by omega) (by decide)), if_neg y1]
      exact congrArg some (congrArg (·, M) (nI_1 k))
section RLAY2
variable {I : Nat → Nat → Int32} {J : Nat → Nat → Int64} {A : Nat → Nat → Int32} {M : zM} {G : zG} {hp dl : Nat → Nat}
theorem gK_wH (G : zG) (p k v t : Nat) : gK (wH G p k v) t = gK G t := rfl
theorem r_lay_137 (h : RS M hp dl) {p : Nat} (hp4 : p < 4) (K : Nat → Int32 → zM → Option (Int32 × zM)) : ∀ (d n i : Nat) (A : Nat → Nat → Int32) (G : zG), i + d = 10 → d < n → RNQ I J A M G hp dl → (∀ t, t < 100 → A 1044 t = nI (gK G t)) → ∃ A', f_X7_lay_137 K n 1026 (nI p) (nI i) (cs I J A M) = K 1026 (nI (p + 1)) (cs I J A' M) ∧ RNQ I J A' M (gDeal p d i G) hp dl ∧ ∀ t, A' 1044 t = A 1044 t := by
  have k := h.1.1
  have hs := h.2.1 p hp4
  have hh := h.2.2.1 p hp4
  intro d
  induction d with
  | zero =>
    intro n i A G hi hn hq hwl
    obtain ⟨n, rfl⟩ : ∃ m, n = m + 1 := ⟨n - 1, by omega⟩
    refine ⟨A, ?_, hq, fun _ => rfl⟩
    rw [f_X7_lay_137, if_pos (le_t (x := 10) 10 i (by omega) (by omega)), nI_1]
  | succ d ih =>
    intro n i A G hi hn hq hwl
    obtain ⟨n, rfl⟩ : ∃ m, n = m + 1 := ⟨n - 1, by omega⟩
    have hkt := gK_lt G (10 * p + i)
    have e1 : (10 : Int32) * nI p + nI i = nI (10 * p + i) := by
      have : (10 : Int32) * nI p = nI (10 * p) := pk_mul 10 p
      rw [this, nI_add]
    have hrow := (hq.1 p hp4).1 _ hkt
    obtain ⟨A', q1, q2, q3⟩ := ih n (i + 1) (u2 A (hp p) (gK G (10 * p + i)) (nI (eH G p (gK G (10 * p + i)) + 1))) (wH G p (gK G (10 * p + i)) (eH G p (gK G (10 * p + i)) + 1)) (by omega) (by omega) (hq.hand h hp4) (fun t ht => (if_neg (fun z => hh.2.2.2.1 z.1.symm)).trans (hwl t ht))
    refine ⟨A', ?_, q2, fun t => (q3 t).trans (if_neg (fun z => hh.2.2.2.1 z.1.symm))⟩
    rw [f_X7_lay_137, if_neg (le_f (x := 10) 10 i (by omega) (by decide)), gR_cs 417 k h.1.2.1, Option.bind_some, h.pl hp4, Option.bind_some, gR_cs 386 hs.1 hs.2.1, Option.bind_some, gR_cs 418 k h.1.2.2.1, Option.bind_some, e1, lA_cs h.1.2.2.2.2.2.2.1 (by rw [h.1.2.2.2.2.2.2.2]; omega) (by rw [h.1.2.2.2.2.2.2.2]; decide), Option.bind_some, hwl _ (by omega), lA_cs hh.1 (by rw [hh.2.1]; exact hkt) (by rw [hh.2.1]; decide), Option.bind_some, hrow, nI_1, tA_cs hh.1 (by rw [hh.2.1]; exact hkt) (by rw [hh.2.1]; decide), Option.bind_some, nI_1]
    exact q1
/-- behind the deal -/
def layT (M : zM) : Option (Int32 × zM) := (pI 13 3 M 1026 40).bind fun M1 => (pI 13 4 M1 1026 99).bind fun M2 => (gR 13 2 M2 1026).bind fun v3 => (lA 0 M2 v3 95).bind fun v4 => (f_X7_lucky v4 M2).bind fun r5 => (pI 13 5 r5.2 1026 r5.1).bind fun M6 => (pI 13 10 M6 1026 0).bind fun M7 => (pI 13 6 M7 1026 0).bind fun M8 => (gI 13 8 M8 1026).bind fun v9 => (pI 13 7 M8 1026 v9).bind fun M10 => (gI 13 8 M10 1026).bind fun v11 => some (v11, M10)
theorem gClr_gK (G : zG) (p t : Nat) : gK (gClr G p) t = gK G t := rfl
theorem gDeal_gK (p d i t : Nat) (G : zG) : gK (gDeal p d i G) t = gK G t := by
  unfold gK
  rw [gDeal_S]
theorem gDeal_NM (p : Nat) : ∀ (d i : Nat) (G : zG), eN (gDeal p d i G) = eN G ∧ eM (gDeal p d i G) = eM G := by
  intro d
  induction d with
  | zero => exact fun _ _ => ⟨rfl, rfl⟩
  | succ d ih => exact fun i G => ih (i + 1) _
theorem r_lay_120 : ∀ (d n p : Nat) (I : Nat → Nat → Int32) (J : Nat → Nat → Int64) (A : Nat → Nat → Int32) (M : zM) (G : zG) (hp : Nat → Nat), p + d = 4 → d < n → RS M hp dl → RNQ I J A M G hp dl → (∀ c, c < 4 → eN G c ≤ 3 ∧ eM G c ≤ 60) → (∀ t, t < 100 → A 1044 t = nI (gK G t)) → ∃ I' J' A' M' hp', f_X7_lay_120 n 1026 (nI p) (cs I J A M) = layT (cs I' J' A' M') ∧ RS M' hp' dl ∧ RNQ I' J' A' M' (gAll d p G) hp' dl ∧ (∀ k, I' k 1026 = I k 1026) ∧ (∀ t, A' 1044 t = A 1044 t) ∧ (mX M' ≤ mX M + d ∧ mS M' ≤ mS M + 25 * d) := by
  intro d
  induction d with
  | zero =>
    intro n p I J A M G hp hi hn h hq hb hwl
    obtain ⟨n, rfl⟩ : ∃ m, n = m + 1 := ⟨n - 1, by omega⟩
    refine ⟨I, J, A, M, hp, ?_, h, hq, fun _ => rfl, fun _ => rfl, by omega, by omega⟩
    rw [f_X7_lay_120, if_pos (le_t (x := 4) 4 p (by omega) (by omega))]
    rfl
  | succ d ih =>
    intro n p I J A M G hp hi hn h hq hb hwl
    obtain ⟨n, rfl⟩ : ∃ m, n = m + 1 := ⟨n - 1, by omega⟩
    have hp4 : p < 4 := by omega
    have k := h.1.1
    have hs := h.2.1 p hp4
    obtain ⟨I1, J1, A1, M1, q1, q2, q3, q4, q5, q6, q7⟩ := r_begin h hq hp4 (hb p hp4).1 (hb p hp4).2
    obtain ⟨A2, t1, t2, t3⟩ := r_lay_137 (I := I1) (J := J1) q2 hp4 (f_X7_lay_120 n) 10 zN 0 A1 (gClr G p) rfl (by decide) q3 (fun t ht => by rw [q5, hwl t ht, gClr_gK])
    have hNM := gDeal_NM p 10 0 (gClr G p)
    obtain ⟨I', J', A', M', hp', u1', u2', u3', u4', u5', u6'⟩ := ih n (p + 1) I1 J1 A2 M1 (gDeal p 10 0 (gClr G p)) _ (by omega) (by omega) q2 t2 (fun c hc => by
      rw [hNM.1, hNM.2]
      show u1 (eN G) p 0 c ≤ 3 ∧ u1 (eM G) p 0 c ≤ 60
      by_cases y : c = p
      · rw [y, u1_at, u1_at]; omega
      · rw [u1_ne _ _ y, u1_ne _ _ y]; exact hb c hc) (fun t ht => by rw [t3, q5, hwl t ht, gDeal_gK, gClr_gK])
    refine ⟨I', J', A', M', hp', ?_, u2', u3', fun k => (u4' k).trans (q4 k), fun t => (u5' t).trans ((t3 t).trans (q5 t)), by omega, by omega⟩
    rw [f_X7_lay_120, if_neg (le_f (x := 4) 4 p (by omega) (by decide)), gR_cs 417 k h.1.2.1, Option.bind_some, h.pl hp4, Option.bind_some, if_pos (show mK (cs I J A M) (1028 + 4 * p) = 12 from hs.1), q1, Option.bind_some]
    exact t1.trans u1'
theorem r_lay_70 (h : RS M hp dl) {st sh : Nat} (hst : st < 100) (hsh : sh < 100) : ∀ (d n i : Nat) (w : Nat → Int32), i + d = 100 → d < n → (∀ t, t < i → w t = nI ((st * t + sh) % 100 / 4)) → ∃ w', f_X7_lay_70 n 1026 (nI st) (nI sh) (nI i) (cs I J (ur A 1044 w) M) = f_X7_lay_70 1 1026 (nI st) (nI sh) (nI 100) (cs I J (ur A 1044 w') M) ∧ ∀ t, t < 100 → w' t = nI ((st * t + sh) % 100 / 4) := by
  have k := h.1.1
  intro d
  induction d with
  | zero =>
    intro n i w hi hn hw
    obtain ⟨n, rfl⟩ : ∃ m, n = m + 1 := ⟨n - 1, by omega⟩
    obtain rfl : i = 100 := by omega
    refine ⟨w, ?_, hw⟩
    rw [f_X7_lay_70, f_X7_lay_70, if_pos (le_t (x := 100) 100 100 (by omega) (by omega)), if_pos (le_t (x := 100) 100 100 (by omega) (by omega))]
  | succ d ih =>
    intro n i w hi hn hw
    obtain ⟨n, rfl⟩ : ∃ m, n = m + 1 := ⟨n - 1, by omega⟩
    have hle : st * i ≤ 100 * 100 := Nat.mul_le_mul (by omega) (by omega)
    have e1 : zmd (nI (st * i + sh)) 100 = nI ((st * i + sh) % 100) := pk_rem (a := st * i + sh) (d := 100) (by omega) (by decide) (by decide)
    have e2 : nI ((st * i + sh) % 100) / 4 = nI ((st * i + sh) % 100 / 4) := pk_div (a := (st * i + sh) % 100) (d := 4) (by omega) (by decide) (by decide)
    obtain ⟨w', q1, q2⟩ := ih n (i + 1) (u1 w i (nI ((st * i + sh) % 100 / 4))) (by omega) (by omega) (fun t ht => by
      by_cases y : t = i
      · rw [y, u1_at]
      · rw [u1_ne _ _ y]; exact hw t (by omega))
    refine ⟨w', ?_, q2⟩
    rw [← q1, f_X7_lay_70, if_neg (le_f (x := 100) 100 i (by omega) (by decide)), gR_cs 418 k h.1.2.2.1, Option.bind_some, pk_mul, nI_add, e1, e2, tA_cs h.1.2.2.2.2.2.2.1 (by rw [h.1.2.2.2.2.2.2.2]; omega) (by rw [h.1.2.2.2.2.2.2.2]; decide), Option.bind_some, u2_ur, nI_1]
/-- what may not be laid -/
def laB (i1 i2 : Int32) : Prop := i1 < 0 ∨ i1.toNatClampNeg = 0 ∨ 100 ≤ i1.toNatClampNeg ∨ i1.toNatClampNeg % 2 = 0 ∨ i1.toNatClampNeg % 5 = 0 ∨ i2 < 0 ∨ 100 ≤ i2.toNatClampNeg
theorem r_lay_bad (h : RS M hp dl) {i1 i2 : Int32} (y : laB i1 i2) : f_X7_lay 1026 i1 i2 (cs I J A M) = some (0, cs (th 1 I) J A M) := by
  have e := r_start (I := I) (J := J) (A := A) h true 1 (by decide) (by decide)
  have e' : f_X7_start 1026 1 1 (cs I J A M) = some (1, cs (th 1 I) J A M) := e
  have e33 : f_X7_lay_33 1026 i1 i2 1026 (cs I J A M) = some (0, cs (th 1 I) J A M) := by
    unfold f_X7_lay_33 f_X7_lay_38
    rw [if_pos (show mK (cs I J A M) 1026 = 13 from h.1.1), e', Option.bind_some]
    dsimp only
    rw [if_neg (show ¬ (1 : Int32) = 0 by decide)]
  unfold f_X7_lay f_X7_lay_0
  rcases nI_all i1 with z | ⟨st, z1, rfl⟩
  · have : i1 < 1 := Int32.lt_trans z (by decide)
    rw [r_isIn, if_pos this, Option.bind_some]
    exact e33
  · unfold laB at y
    rw [nI_cl z1] at y
    have y' := y.resolve_left (nI_nn z1)
    by_cases s0 : st = 0
    · rw [r_isIn, if_pos (lt_t (y := 1) st 1 (by omega) (by decide)), Option.bind_some]
      exact e33
    · by_cases s1 : 100 ≤ st
      · rw [r_isIn, if_neg (lt_f (y := 1) st 1 (by omega) (by omega)), if_pos (lt_t (x := 99) 99 st (by omega) z1), Option.bind_some]
        exact e33
      · have em2 : zmd (nI st) 2 = nI (st % 2) := pk_rem (a := st) (d := 2) (by omega) (by decide) (by decide)
        have em5 : zmd (nI st) 5 = nI (st % 5) := pk_rem (a := st) (d := 5) (by omega) (by decide) (by decide)
        rw [r_isIn, if_neg (lt_f (y := 1) st 1 (by omega) (by omega)), if_neg (lt_f (x := 99) 99 st (by omega) (by decide)), Option.bind_some]
        dsimp only
        rw [if_neg (show ¬ (1 : Int32) = 0 by decide), em2]
        by_cases s2 : st % 2 = 0
        · rw [if_pos (show nI (st % 2) = 0 by rw [s2]; rfl)]
          exact e33
        · rw [if_neg (eq_f (y := 0) (st % 2) 0 s2 (by omega) (by decide)), em5]
          by_cases s5 : st % 5 = 0
          · rw [if_pos (show nI (st % 5) = 0 by rw [s5]; rfl)]
            exact e33
          · rw [if_neg (eq_f (y := 0) (st % 5) 0 s5 (by omega) (by decide)), r_isIn]
            have y2 : i2 < 0 ∨ 100 ≤ i2.toNatClampNeg := (((y'.resolve_left s0).resolve_left s1).resolve_left s2).resolve_left s5
            rcases nI_all i2 with u | ⟨sh, u1', rfl⟩
            · rw [if_pos u, Option.bind_some]
              exact e33
            · have h100 : 100 ≤ sh := by
                rcases y2 with y2 | y2
                · exact absurd y2 (nI_nn u1')
                · rw [nI_cl u1'] at y2; exact y2
              rw [if_neg (nI_nn u1'), if_pos (lt_t (x := 99) 99 sh (by omega) u1'), Option.bind_some]
              exact e33
theorem r_lay (h : RS M hp dl) (hn : RN I J A M G hp dl) (hw : WF G) (hd : WD G) {st sh : Nat} (h0 : st ≠ 0) (hst : st < 100) (h2 : st % 2 ≠ 0) (h5 : st % 5 ≠ 0) (hsh : sh < 100) : (eS G 4 = 3 ∧ ∃ I' J' A' M' hp', f_X7_lay 1026 (nI st) (nI sh) (cs I J A M) = some (nI (eS G 6 % 4), cs I' J' A' M') ∧ RS M' hp' dl ∧ RN I' J' A' M' (gLay G st sh) hp' dl ∧ I' 416 1026 = 0 ∧ (mX M' ≤ mX M + 4 ∧ mS M' ≤ mS M + 100)) ∨ (eS G 4 ≠ 3 ∧ f_X7_lay 1026 (nI st) (nI sh) (cs I J A M) = some (0, cs (th 2 I) J A M)) := by
  have k := h.1.1
  have hw4 : eS G 4 < 4 := hw.2.2.2.2.1
  have hn1 := hn.th 0
  have e := r_start (I := I) (J := J) (A := A) h false 1 (by decide) (by decide)
  have e' : f_X7_start 1026 0 1 (cs I J A M) = some (0, cs (th 0 I) J A M) := e
  have em2 : zmd (nI st) 2 = nI (st % 2) := pk_rem (a := st) (d := 2) (by omega) (by decide) (by decide)
  have em5 : zmd (nI st) 5 = nI (st % 5) := pk_rem (a := st) (d := 5) (by omega) (by decide) (by decide)
  have start : f_X7_lay 1026 (nI st) (nI sh) (cs I J A M) = (if nI (eS G 4) = 3 then f_X7_lay_59 1026 (nI st) (nI sh) 0 1026 (cs (th 0 I) J A M) else f_X7_lay_59 1026 (nI st) (nI sh) 1 1026 (cs (th 0 I) J A M)) := by
    unfold f_X7_lay f_X7_lay_0
    rw [r_isIn, if_neg (lt_f (y := 1) st 1 (by omega) (by omega)), if_neg (lt_f (x := 99) 99 st (by omega) (by decide)), Option.bind_some]
    dsimp only
    rw [if_neg (show ¬ (1 : Int32) = 0 by decide), em2, if_neg (eq_f (y := 0) (st % 2) 0 h2 (by omega) (by decide)), em5, if_neg (eq_f (y := 0) (st % 5) 0 h5 (by omega) (by decide)), r_isIn, if_neg (nI_nn (by omega)), if_neg (lt_f (x := 99) 99 sh (by omega) (by decide)), Option.bind_some]
    dsimp only
    rw [if_neg (show ¬ (1 : Int32) = 0 by decide)]
    unfold f_X7_lay_38
    rw [if_pos (show mK (cs I J A M) 1026 = 13 from k), e', Option.bind_some]
    dsimp only
    rw [if_pos rfl, gI_cs 422 k, Option.bind_some, hn1.1.1]
  rw [start]
  by_cases y : eS G 4 = 3
  · refine Or.inl ⟨y, ?_⟩
    have er := r_refuse (I := I) (J := J) (A := A) h false 2 (by decide) (by decide)
    have er' : f_X7_refuse 1026 0 2 (cs (th 0 I) J A M) = some (0, cs (th 0 I) J A M) := er
    rw [if_pos (show nI (eS G 4) = 3 by rw [y]; rfl)]
    unfold f_X7_lay_59
    rw [if_pos (show mK (cs (th 0 I) J A M) 1026 = 13 from k), er', Option.bind_some]
    dsimp only
    rw [if_pos rfl]
    obtain ⟨w, q1, q2⟩ := r_lay_70 (I := th 0 I) (J := J) (A := A) h hst hsh 100 zN 0 (A 1044) rfl (by decide) (fun t ht => absurd ht (Nat.not_lt_zero _))
    rw [ur_self] at q1
    have q1' : f_X7_lay_70 zN 1026 (nI st) (nI sh) 0 (cs (th 0 I) J A M) = f_X7_lay_70 1 1026 (nI st) (nI sh) (nI 100) (cs (th 0 I) J (ur A 1044 w) M) := q1
    rw [q1', f_X7_lay_70, if_pos (le_t (x := 100) 100 100 (by omega) (by omega)), gI_cs 425 k, Option.bind_some, hn1.1.2.2.2.1]
    have w7 := hw.2.2.2.2.2.2.2.1
    have w6 := hw.2.2.2.2.2.2.1
    have ed : zmd (nI (eS G 7)) 4 = nI (eS G 6 % 4) := (pk_rem (a := eS G 7) (d := 4) (by omega) (by decide) (by decide)).trans (congrArg nI (by
      rcases hd with ⟨d1, d2⟩ | ⟨d1, d2⟩
      · rw [d1, d2]
      · rw [d2]; omega))
    rw [ed, pI_cs 424 k, Option.bind_some, gI_cs 425 k, Option.bind_some, show u2 (th 0 I) 424 1026 (nI (eS G 6 % 4)) 425 1026 = nI (eS G 7) from hn1.1.2.2.2.1, nI_1, pI_cs 425 k, Option.bind_some]
    have hQ0 : RNQ (u2 (u2 (th 0 I) 424 1026 (nI (eS G 6 % 4))) 425 1026 (nI (eS G 7 + 1))) J (ur A 1044 w) M (gBeg G st sh) hp dl := by
      obtain ⟨q, v⟩ := hn1.2
      refine ⟨fun c hc => ?_, v⟩
      obtain ⟨a, b⟩ := q c hc
      exact ⟨fun j hj => (ur_ne _ _ _ (h.2.2.1 c hc).2.2.2.1).trans (a j hj), b⟩
    obtain ⟨I', J', A', M', hp', t1, t2, t3, t4, t5, t6⟩ := r_lay_120 (dl := dl) 4 zN 0 _ J (ur A 1044 w) M (gBeg G st sh) hp rfl (by decide) h hQ0 (fun c hc => by
      obtain ⟨-, a, b, -⟩ := hw.2.2.2.2.2.2.2.2.2.2 c hc
      exact ⟨a, b⟩) (fun t ht => (ur_at _ _ _ _).trans (q2 t ht))
    have t1' : f_X7_lay_120 zN 1026 0 (cs (u2 (u2 (th 0 I) 424 1026 (nI (eS G 6 % 4))) 425 1026 (nI (eS G 7 + 1))) J (ur A 1044 w) M) = layT (cs I' J' A' M') := t1
    have k2 := t2.1.1
    have hwl : ∀ t, t < 100 → A' 1044 t = nI (gK (gBeg G st sh) t) := fun t ht => (t5 t).trans ((ur_at _ _ _ _).trans (q2 t ht))
    have e95 : lA 0 (cs (u2 (u2 I' 419 1026 40) 420 1026 99) J' A' M') 1044 95 = some (nI (gK (gBeg G st sh) 95)) := by
      have := lA_cs (I := u2 (u2 I' 419 1026 40) 420 1026 99) (J := J') (A := A') (i := 95) t2.1.2.2.2.2.2.2.1 (by rw [t2.1.2.2.2.2.2.2.2]; decide) (by rw [t2.1.2.2.2.2.2.2.2]; decide)
      rw [hwl 95 (by decide)] at this
      exact this
    have hkl := gK_lt (gBeg G st sh) 95
    have i424 : I' 424 1026 = nI (eS G 6 % 4) := t4 424
    rw [t1']
    unfold layT
    rw [pI_cs 419 k2, Option.bind_some, pI_cs 420 k2, Option.bind_some, gR_cs 418 k2 t2.1.2.2.1, Option.bind_some, e95, Option.bind_some, r_lucky hkl, Option.bind_some]
    dsimp only
    rw [pI_cs 421 k2, Option.bind_some, pI_cs 426 k2, Option.bind_some, pI_cs 422 k2, Option.bind_some, gI_cs 424 k2, Option.bind_some, show u2 (u2 (u2 (u2 (u2 I' 419 1026 40) 420 1026 99) 421 1026 (nI (lkN (gK (gBeg G st sh) 95)))) 426 1026 0) 422 1026 0 424 1026 = nI (eS G 6 % 4) from i424, pI_cs 423 k2, Option.bind_some, gI_cs 424 k2, Option.bind_some, show u2 (u2 (u2 (u2 (u2 (u2 I' 419 1026 40) 420 1026 99) 421 1026 (nI (lkN (gK (gBeg G st sh) 95)))) 426 1026 0) 422 1026 0) 423 1026 (nI (eS G 6 % 4)) 424 1026 = nI (eS G 6 % 4) from i424]
    refine ⟨u2 (u2 (u2 (u2 (u2 (u2 I' 419 1026 40) 420 1026 99) 421 1026 (nI (lkN (gK (gBeg G st sh) 95)))) 426 1026 0) 422 1026 0) 423 1026 (nI (eS G 6 % 4)), J', A', M', hp', rfl, t2, ⟨?_, t3⟩, ?_, by omega, by omega⟩
    · have eSl : eS (gLay G st sh) = eS (gBeg G st sh) := gAll_S 4 0 _
      unfold RNs
      rw [eSl]
      refine ⟨rfl, rfl, ?_, t4 425, rfl, fun _ => ⟨rfl, rfl, fun t ht => ?_, lkN (gK (gBeg G st sh) 95), lkN_lt hkl, rfl⟩, fun z => absurd z (show ¬ (0 : Nat) = 1 by decide), fun z => absurd z (show ¬ (0 : Nat) = 2 by decide)⟩
      · show I' 424 1026 + 1 = nI (eS G 6 % 4 + 1)
        rw [i424, nI_1]
      · rw [hwl t ht]
        have : gK (gLay G st sh) t = gK (gBeg G st sh) t := by unfold gK; rw [eSl]
        rw [this]
    · exact t4 416
  · have er := r_refuse (I := I) (J := J) (A := A) h true 2 (by decide) (by decide)
    have er' : f_X7_refuse 1026 1 2 (cs (th 0 I) J A M) = some (1, cs (th 2 I) J A M) := er
    rw [if_neg (eq_f (y := 3) (eS G 4) 3 y (by omega) (by decide))]
    unfold f_X7_lay_59
    rw [if_pos (show mK (cs (th 0 I) J A M) 1026 = 13 from k), er', Option.bind_some]
    dsimp only
    rw [if_neg (show ¬ (1 : Int32) = 0 by decide)]
    exact Or.inr ⟨y, rfl⟩
end RLAY2
