/-! ===== NUMBERS: quarters are exact ===== -/
/-- a is the quarter of i -/
def DQ (i : Int) (a : UInt64) : Prop := ∃ s c q, FP.Core.val64 a = .fin s c q ∧ FP.Core.Whole i (.fin s c (q + 2))
theorem fq_min : FP.Core.Fmt.qmin FP.Core.b64 = -1074 := by decide
theorem fq_p : FP.Core.b64.p = 53 := rfl
theorem fq_round {i : Int} (hi : i.natAbs ≤ 2 ^ 53) {s : Bool} {c : Nat} {q : Int} (h : FP.Core.Whole i (.fin s c (q + 2))) : ∃ c' q', FP.Core.round FP.Core.b64 (.fin s c q) = .fin s c' q' ∧ FP.Core.Whole i (.fin s c' (q' + 2)) := by
  by_cases h0 : i = 0
  · have hc : c = 0 := (FP.Core.whole_zero h).mpr h0
    subst hc
    subst h0
    refine ⟨0, FP.Core.b64.qmin, ?_, ?_⟩
    · show FP.Core.roundRatio FP.Core.b64 s 0 1 q = _
      unfold FP.Core.roundRatio
      exact if_pos rfl
    · show FP.Core.signed s (0 * _) = 0 * _
      rw [Nat.zero_mul, FP.Core.signed_zero, Int.zero_mul]
  · obtain ⟨c', q', hfit, hv⟩ := FP.Core.natFit FP.Core.good_b64 FP.Core.wide_b64 s (n := i.natAbs) hi
    have hw : FP.Core.Whole i (FP.Core.round FP.Core.b64 (.fin s c (q + 2))) := FP.Core.whole_round FP.Core.good_b64 FP.Core.wide_b64 hi h
    have er : FP.Core.round FP.Core.b64 (.fin s c (q + 2)) = .fin s c' q' := by
      rw [FP.Core.round_whole h]
      exact FP.Core.roundRatio_exact FP.Core.good_b64 (by decide) hfit hv
    rw [er] at hw
    have hn : 0 < i.natAbs := by omega
    have hq : -60 ≤ q' := by
      refine Int.le_of_not_gt fun z => ?_
      rw [show (q' - 0).toNat = 0 by omega, Nat.pow_zero, Nat.mul_one, Nat.mul_one] at hv
      have h1 : c' < 2 ^ 53 := hfit.1
      have h2 : 2 ^ 53 ≤ 2 ^ (0 - q').toNat := Nat.pow_le_pow_right (by decide) (by omega)
      have h3 : 2 ^ (0 - q').toNat ≤ i.natAbs * 2 ^ (0 - q').toNat := Nat.le_mul_of_pos_left _ hn
      omega
    obtain ⟨f1, f2, f3, f4⟩ := hfit
    have m := fq_min
    have fit2 : FP.Core.fits FP.Core.b64 (.fin s c' (q' - 2)) := ⟨f1, by omega, by omega, Or.inr (f4.resolve_left (by omega))⟩
    refine ⟨c', q' - 2, ?_, ?_⟩
    · have e1 : FP.Core.round FP.Core.b64 (.fin s c q) = FP.Core.roundRatio FP.Core.b64 s i.natAbs 1 (-2) := by
        refine FP.Core.roundRatio_congr (by decide) (by decide) ?_
        have := FP.Core.whole_natAbs h
        rw [show (q - -2).toNat = (q + 2).toNat by omega, show (-2 - q).toNat = (-(q + 2)).toNat by omega, Nat.mul_one, Nat.mul_one]
        exact this
      rw [e1]
      refine FP.Core.roundRatio_exact FP.Core.good_b64 (by decide) fit2 ?_
      rw [show (-2 - (q' - 2)).toNat = (0 - q').toNat by omega, show (q' - 2 - -2).toNat = (q' - 0).toNat by omega]
      exact hv
    · rw [show q' - 2 + 2 = q' by omega]
      exact hw
theorem fq_4 : FP.Core.val64 4616189618054758400 = .fin false (2 ^ 52) (-50) := by decide +kernel
theorem fq_fin {i : Int} {a : UInt64} (h : FP.Core.DInt i a) : ∃ s c q, FP.Core.val64 a = .fin s c q ∧ FP.Core.Whole i (.fin s c q) := by
  unfold FP.Core.DInt at h
  cases e : FP.Core.val64 a with
  | nan => rw [e] at h; exact h.elim
  | inf s => rw [e] at h; exact h.elim
  | fin s c q => rw [e] at h; exact ⟨s, c, q, rfl, h⟩
theorem fq_div (x : Int32) : DQ x.toInt (FP.ddiv (FP.i2d x) (4616189618054758400 : UInt64)) := by
  obtain ⟨s, c, q, e, w⟩ := fq_fin (FP.Core.i2d_int x)
  have hb : x.toInt.natAbs ≤ 2 ^ 53 := by
    have h1 := x.toInt_lt
    have h2 := x.le_toInt
    omega
  obtain ⟨c', q', e1, w1⟩ := fq_round hb (q := q - 2) (by rw [show q - 2 + 2 = q by omega]; exact w)
  refine ⟨s, c', q', ?_, w1⟩
  have e2 : FP.Core.val64 (FP.ddiv (FP.i2d x) (4616189618054758400 : UInt64)) = FP.Core.quotient FP.Core.b64 (FP.Core.val64 (FP.i2d x)) (FP.Core.val64 4616189618054758400) := FP.Core.val64_ddiv _ _
  have e3 : FP.Core.val64 (FP.i2d x) = .fin s c q := e
  rw [e2, e3, fq_4, ← e1]
  show (if (2 : Nat) ^ 52 = 0 then (if c = 0 then FP.Core.Datum.nan else FP.Core.Datum.inf (s != false)) else FP.Core.roundRatio FP.Core.b64 (s != false) c (2 ^ 52) (q - -50)) = FP.Core.roundRatio FP.Core.b64 s c 1 (q - 2)
  rw [if_neg (by decide), Bool.bne_false]
  refine FP.Core.roundRatio_congr (by decide) (by decide) ?_
  rw [show (q - -50 - (q - 2)).toNat = 52 by omega, show (q - 2 - (q - -50)).toNat = 0 by omega]
  omega
theorem fq_w4 {a : Int} {s : Bool} {c : Nat} {q : Int} (h : FP.Core.Whole a (.fin s c q)) : FP.Core.Whole (4 * a) (.fin s c (q + 2)) := by
  have h4 : FP.Core.Whole 4 (.fin false 1 2) := by
    show FP.Core.signed false (1 * 2 ^ (2 : Int).toNat) = 4 * ((2 ^ (-(2 : Int)).toNat : Nat) : Int)
    decide
  have p := FP.Core.whole_product h4 h
  have e : FP.Core.exactProduct (.fin false 1 2) (.fin s c q) = .fin s c (q + 2) := by
    show FP.Core.Datum.fin (false != s) (1 * c) (2 + q) = .fin s c (q + 2)
    rw [Bool.false_bne, Nat.one_mul, Int.add_comm]
  rw [e] at p
  exact p
theorem fq_sub {a b : UInt64} {i j : Int} (ha : FP.Core.DInt i a) (hb : DQ j b) (hi : (4 * i - j).natAbs ≤ 2 ^ 53) : DQ (4 * i - j) (FP.dsub a b) := by
  obtain ⟨s, c, q, e, w⟩ := fq_fin ha
  obtain ⟨t, d, r, e', w'⟩ := hb
  have w4 := fq_w4 w
  have wn := FP.Core.whole_negate w'
  have ws := FP.Core.whole_sum w4 wn
  have m : min (q + 2) (r + 2) = min q r + 2 := by omega
  have es : FP.Core.exactSum (.fin s c (q + 2)) (FP.Core.negate (.fin t d (r + 2))) = .fin (FP.Core.sumSign s (!t) (FP.Core.sumUnits s c q (!t) d r (min q r))) (FP.Core.sumUnits s c q (!t) d r (min q r)).natAbs (min q r + 2) := by
    show FP.Core.Datum.fin (FP.Core.sumSign s (!t) (FP.Core.sumUnits s c (q + 2) (!t) d (r + 2) (min (q + 2) (r + 2)))) (FP.Core.sumUnits s c (q + 2) (!t) d (r + 2) (min (q + 2) (r + 2))).natAbs (min (q + 2) (r + 2)) = _
    have eu : FP.Core.sumUnits s c (q + 2) (!t) d (r + 2) (min (q + 2) (r + 2)) = FP.Core.sumUnits s c q (!t) d r (min q r) := by
      unfold FP.Core.sumUnits FP.Core.inUnits
      rw [m, show q + 2 - (min q r + 2) = q - min q r by omega, show r + 2 - (min q r + 2) = r - min q r by omega]
    rw [eu, m]
  rw [es] at ws
  rw [← Int.sub_eq_add_neg] at ws
  obtain ⟨c', q', e1, w1⟩ := fq_round hi ws
  refine ⟨_, c', q', ?_, w1⟩
  have e2 : FP.Core.val64 (FP.dsub a b) = FP.Core.round FP.Core.b64 (FP.Core.exactSum (FP.Core.val64 a) (FP.Core.negate (FP.Core.val64 b))) := FP.Core.val64_dsub _ _
  rw [e2, e, e']
  exact e1
theorem fq_mul {b : UInt64} {i : Int} (hb : DQ i b) (hi : i.natAbs ≤ 2 ^ 53) : FP.Core.DInt i (FP.dmul (4616189618054758400 : UInt64) b) := by
  obtain ⟨s, c, q, e, w⟩ := hb
  have h1 : FP.Core.Whole 1 (.fin false (2 ^ 52) (-52)) := by
    show FP.Core.signed false (2 ^ 52 * 2 ^ (-52 : Int).toNat) = 1 * ((2 ^ (-(-52 : Int)).toNat : Nat) : Int)
    decide +kernel
  have p := FP.Core.whole_product h1 w
  rw [Int.one_mul] at p
  have ep : FP.Core.exactProduct (.fin false (2 ^ 52) (-52)) (.fin s c (q + 2)) = FP.Core.exactProduct (.fin false (2 ^ 52) (-50)) (.fin s c q) := by
    show FP.Core.Datum.fin (false != s) (2 ^ 52 * c) (-52 + (q + 2)) = .fin (false != s) (2 ^ 52 * c) (-50 + q)
    rw [show -52 + (q + 2) = -50 + q by omega]
  rw [ep] at p
  have w2 := FP.Core.whole_round FP.Core.good_b64 FP.Core.wide_b64 hi p
  have e2 : FP.Core.val64 (FP.dmul (4616189618054758400 : UInt64) b) = FP.Core.round FP.Core.b64 (FP.Core.exactProduct (FP.Core.val64 4616189618054758400) (FP.Core.val64 b)) := FP.Core.val64_dmul _ _
  unfold FP.Core.DInt
  rw [e2, fq_4, e]
  exact w2
theorem fq_cmp {a b : UInt64} {i : Int} (ha : DQ i a) (hb : DQ i b) : FP.dcmp a b = some .eq := by
  obtain ⟨s, c, q, e, w⟩ := ha
  obtain ⟨t, d, r, e', w'⟩ := hb
  have o := FP.Core.order_whole w w'
  rw [FP.Core.compare_self_int] at o
  have e2 : FP.dcmp a b = FP.Core.order (FP.Core.val64 a) (FP.Core.val64 b) := rfl
  rw [e2, e, e', ← o]
  have m : min (q + 2) (r + 2) = min q r + 2 := by omega
  show some (compare (FP.Core.signed s (FP.Core.inUnits c q (min q r))) (FP.Core.signed t (FP.Core.inUnits d r (min q r)))) = some (compare (FP.Core.signed s (FP.Core.inUnits c (q + 2) (min (q + 2) (r + 2)))) (FP.Core.signed t (FP.Core.inUnits d (r + 2) (min (q + 2) (r + 2)))))
  unfold FP.Core.inUnits
  rw [m, show q + 2 - (min q r + 2) = q - min q r by omega, show r + 2 - (min q r + 2) = r - min q r by omega]
/-- a lead, by both -/
theorem lead_eq {a S : Int32} {i : Int} (hi : i = 4 * a.toInt - S.toInt) (h : (4 * a - S).toInt = i) : DQ i (FP.ddiv (FP.i2d (4 * a - S)) (4616189618054758400 : UInt64)) ∧ DQ i (FP.dsub (FP.i2d a) (FP.ddiv (FP.i2d S) (4616189618054758400 : UInt64))) := by
  have hb : i.natAbs ≤ 2 ^ 53 := by
    rw [← h]
    have h1 := (4 * a - S).toInt_lt
    have h2 := (4 * a - S).le_toInt
    omega
  refine ⟨by rw [← h]; exact fq_div _, ?_⟩
  rw [hi] at hb ⊢
  exact fq_sub (FP.Core.i2d_int a) (fq_div S) hb
theorem lead_l {a S : Int32} (h : (4 * a - S).toInt = 4 * a.toInt - S.toInt) : FP.d2l (FP.dmul (4616189618054758400 : UInt64) (FP.dsub (FP.i2d a) (FP.ddiv (FP.i2d S) (4616189618054758400 : UInt64)))) = (4 * a - S).toInt64 := by
  have q := (lead_eq rfl h).2
  have hb : (4 * a.toInt - S.toInt).natAbs ≤ 2 ^ 53 := by
    rw [← h]
    have h1 := (4 * a - S).toInt_lt
    have h2 := (4 * a - S).le_toInt
    omega
  refine FP.Core.d2l_int ?_
  rw [Int32.toInt_toInt64, h]
  exact fq_mul q hb
/-! ===== BOTH: lead, with code and answer ===== -/
/-- the sum of all points -/
def pSum (pt : Nat → Int32) : Nat → Nat → Int32 → Int32
  | 0, _, a => a
  | d + 1, i, a => pSum pt d (i + 1) (a + pt i)
def pS4 (e : zPt) : Int32 := pSum e.1 4 0 0
/-- four leads are no greater than a number of 32 digits -/
theorem lead_b {c : Nat} {e : zPt} (h : EB c e) (hc : c ≤ 600) {p : Nat} (hp : p < 4) : (4 * e.1 p - pS4 e).toInt = 4 * (e.1 p).toInt - (pS4 e).toInt := by
  obtain ⟨a, -⟩ := h hc
  obtain ⟨z0, e0, b0⟩ := a 0 (by decide)
  obtain ⟨z1, e1, b1⟩ := a 1 (by decide)
  obtain ⟨z2, e2, b2⟩ := a 2 (by decide)
  obtain ⟨z3, e3, b3⟩ := a 3 (by decide)
  obtain ⟨z, ez, bz⟩ := a p hp
  have es : pS4 e = Int32.ofInt (z0 + z1 + z2 + z3) := by
    show 0 + e.1 0 + e.1 1 + e.1 2 + e.1 3 = _
    rw [e0, e1, e2, e3, Int32.ofInt_add, Int32.ofInt_add, Int32.ofInt_add, Int32.zero_add]
  have e4 : 4 * e.1 p - pS4 e = Int32.ofInt (4 * z - (z0 + z1 + z2 + z3)) := by
    rw [es, ez, Int32.ofInt_sub, Int32.ofInt_mul]
    rfl
  rw [e4, es, ez, Int32.toInt_ofInt_of_le (by omega) (by omega), Int32.toInt_ofInt_of_le (by omega) (by omega), Int32.toInt_ofInt_of_le (by omega) (by omega)]
section XLEAD
variable {I : Nat → Nat → Int32} {J : Nat → Nat → Int64} {A : Nat → Nat → Int32} {M : zM} {G : zG} {hp dl : Nat → Nat}
theorem x_fourLeads_4 (h : CSH M) {e : zPt} (he : CE I e) {p : Nat} (hp : p < 4) : ∀ (d n i : Nat) (v : Int32), i + d = 4 → d < n → f_X3_fourLeads_4 n 1000 (nI p) v (nI i) (cs I J A M) = some (4 * e.1 p - pSum e.1 d i v, cs I J A M) := by
  have hsp := h.2.2.2.2.2.2.2.1 _ hp
  intro d
  induction d with
  | zero =>
    intro n i v hi hn
    obtain ⟨n, rfl⟩ : ∃ m, n = m + 1 := ⟨n - 1, by omega⟩
    rw [f_X3_fourLeads_4, if_pos (le_t (x := 4) 4 i (by omega) (by omega)), gR_cs 288 h.1 h.2.1, Option.bind_some, h.seat hp, Option.bind_some, gI_cs 231 hsp.1, Option.bind_some, (he.1 p hp).1]
    rfl
  | succ d ih =>
    intro n i v hi hn
    obtain ⟨n, rfl⟩ : ∃ m, n = m + 1 := ⟨n - 1, by omega⟩
    have hi4 : i < 4 := by omega
    have hsi := h.2.2.2.2.2.2.2.1 _ hi4
    rw [f_X3_fourLeads_4, if_neg (le_f (x := 4) 4 i (by omega) (by decide)), gR_cs 288 h.1 h.2.1, Option.bind_some, h.seat hi4, Option.bind_some, gI_cs 231 hsi.1, Option.bind_some, nI_1, (he.1 i hi4).1]
    exact ih n (i + 1) _ (by omega) (by omega)
theorem x_fourLeads (h : CSH M) {e : zPt} (he : CE I e) {p : Nat} (hp : p < 4) : f_X3_fourLeads 1000 (nI p) (cs I J A M) = some (4 * e.1 p - pS4 e, cs I J A M) := x_fourLeads_4 h he hp 4 zN 0 0 rfl (by decide)
theorem x_lead (h : CSH M) {e : zPt} (he : CE I e) {p : Nat} (hp : p < 4) : f_X3_lead 1000 (nI p) (cs I J A M) = some (.inr (FP.ddiv (FP.i2d (4 * e.1 p - pS4 e)) (4616189618054758400 : UInt64)), cs I J A M) := by
  unfold f_X3_lead f_X3_lead_0
  rw [q_pl_ok hp]
  show (if mK (cs I J A M) 1000 = 9 then _ else none) = _
  rw [if_pos (show mK (cs I J A M) 1000 = 9 from h.1), x_fourLeads h he hp, Option.bind_some, if_pos (z_div4 _)]
end XLEAD
section XLEADR
variable {M : zM} {G : zG} {hp dl : Nat → Nat}
theorem x_lead_14 (h : RS M hp dl) {e : zPt} (re : RE (mI M) e) {p : Nat} (hp4 : p < 4) : ∀ (d n i : Nat) (a : Int32), i + d = 4 → d < n → f_X7_leadNow_14 n 1026 (nI p) a 1027 (nI 4) (nI i) M = some (FP.dsub (FP.i2d (e.1 p)) (FP.ddiv (FP.i2d (pSum e.1 d i a)) (4616189618054758400 : UInt64)), M) := by
  intro d
  induction d with
  | zero =>
    intro n i a hi hn
    obtain ⟨n, rfl⟩ : ∃ m, n = m + 1 := ⟨n - 1, by omega⟩
    obtain ⟨q1, q2⟩ := r_players h hp4
    rw [f_X7_leadNow_14, if_pos (le_t 4 i (by omega) (by omega)), q1, Option.bind_some, q2, Option.bind_some, e_gI 384 (h.2.1 p hp4).1, Option.bind_some, if_pos (z_div4 _), if_pos (z_sub4 _ _), (re.1 p hp4).1]
    rfl
  | succ d ih =>
    intro n i a hi hn
    obtain ⟨n, rfl⟩ : ∃ m, n = m + 1 := ⟨n - 1, by omega⟩
    have hi4 : i < 4 := by omega
    obtain ⟨q1, q2⟩ := r_players h hi4
    rw [f_X7_leadNow_14, if_neg (le_f 4 i (by omega) (by decide)), q2, Option.bind_some, e_gI 384 (h.2.1 i hi4).1, Option.bind_some, nI_1, (re.1 i hi4).1]
    exact ih n (i + 1) _ (by omega) (by omega)
theorem x_leadNow (h : RS M hp dl) {e : zPt} (re : RE (mI M) e) {p : Nat} (hp4 : p < 4) : f_X7_leadNow 1026 (nI p) M = some (FP.dsub (FP.i2d (e.1 p)) (FP.ddiv (FP.i2d (pS4 e)) (4616189618054758400 : UInt64)), M) := by
  unfold f_X7_leadNow f_X7_leadNow_0
  rw [e_gR 417 h.1.1 h.1.2.1, Option.bind_some, e_gL (by rw [h.1.2.2.2.1]; decide) h.1.2.2.2.2.1, Option.bind_some]
  exact x_lead_14 h re hp4 4 zN 0 0 rfl (by decide)
theorem r_lead_bad (h : RS M hp dl) {i1 : Int32} (y : pBad i1) : f_X7_lead 1026 i1 M = some (FP.dconst0, cs (th 1 (mI M)) (mJ M) (mA M) M) := by
  unfold f_X7_lead f_X7_lead_0
  rw [r_noPl_bad y, Option.bind_some]
  dsimp only
  rw [if_pos h.1.1, m11 h, Option.bind_some]
  dsimp only
  rw [if_neg (show ¬ (1 : Int32) = 0 by decide)]
theorem x_leadR (h : RS M hp dl) {e : zPt} (re : RE (mI M) e) {p : Nat} (hp4 : p < 4) : f_X7_lead 1026 (nI p) M = some (FP.dsub (FP.i2d (e.1 p)) (FP.ddiv (FP.i2d (pS4 e)) (4616189618054758400 : UInt64)), cs (th 0 (mI M)) (mJ M) (mA M) M) := by
  have e1 := x_leadNow (M := cs (th 0 (mI M)) (mJ M) (mA M) M) h (re.th 0) hp4
  unfold f_X7_lead f_X7_lead_0
  rw [r_noPl_ok hp4, Option.bind_some]
  dsimp only
  rw [if_pos h.1.1, m10 h, Option.bind_some]
  dsimp only
  rw [if_pos rfl, if_pos (show mK (cs (th 0 (mI M)) (mJ M) (mA M) M) 1026 = 13 from h.1.1), e1, Option.bind_some]
end XLEADR
section ASKL
variable {n cc : Nat} {xs : Nat → Int32} {M : zM} {G : zG} {hp dl : Nat → Nat}
def SDL (n : Nat) (xs : Nat → Int32) (cc : Nat) (M : zM) (G : zG) (x : Option (Int32 × zM)) (y : zM → Option (UInt64 × zM)) : Prop := ∃ v M1 w M2, x = some (v, M1) ∧ ROW n xs M1 ∧ y M1 = some (w, M2) ∧ (∃ hp2 dl2, CK n xs M2 G G hp2 dl2) ∧ (mI M2 416 1026 = v ∧ (v = 0 → ∃ i, DQ i (mD M2 321 1045) ∧ DQ i w)) ∧ (WX G ∧ W9 G ∧ EK (cc + 1) M2) ∧ (mX M2 ≤ mX M + 404 ∧ mS M2 ≤ mS M + 1640)
theorem tj_lead (h : CK n xs M G G hp dl) (hx : WX G) (h9 : W9 G) (ke : EK cc M) (hcc : cc ≤ 600) (hr : eS G 7 < 2 ^ 20) (i : Int32) : SDL n xs cc M G (f_L_lead 1000 i 1045 M) (fun M1 => f_X7_lead 1026 i M1) := by
  have hw := hx.f hr
  have kf := kc_X3_lead h.2.2.1.1 own1000 (FC.rf M) (i1 := i)
  have kq := kq_X3_lead (FQ.rf M) (a0 := 1000) (i1 := i)
  obtain ⟨tb, e0, ce0, re0, eb0⟩ := id ke
  unfold f_L_lead f_L_lead_0
  rw [if_pos h.1.1.1]
  by_cases y : pBad i
  · have e : f_X3_lead 1000 i M = some (.inl "java/lang/IndexOutOfBoundsException", nE M) := by
      unfold f_X3_lead f_X3_lead_0
      rw [q_pl_bad y]
      rfl
    have fc := kf _ e
    have ck : CK n xs (nE M) G G hp dl := h.c0 rfl rfl rfl rfl fc h.1.1 h.1.2
    have k1 : EK cc (nE M) := ke.fr h.x46 (kq _ e) (FC.ft h fc)
    rw [e]
    have eX : mX (nE M) = mX M + 1 := rfl
    have eS' : mS (nE M) = mS M + 6 := rfl
    have r := r_lead_bad ck.2.1.1 y
    have fn := kn_X7_lead ck.2.2.1.2.1 ck.fn _ r
    refine ⟨1, nE M, _, _, (show (if ("java/lang/IndexOutOfBoundsException" : String) = "java/lang/IndexOutOfBoundsException" then some ((1 : Int32), nE M) else none) = some (1, nE M) from if_pos rfl), ck.row, r, ⟨hp, dl, ck.ref hw fn ck.2.1.1 (ck.2.1.2.th 1)⟩, ⟨u2_at (mI (nE M)) 416 1026 1, fun z => absurd z (by decide)⟩, ⟨hx, h9, (k1.fr ck.x46 (kq_X7_lead (FQ.rf _) _ r) (FN.ft ck fn)).w⟩, ?_, ?_⟩
    · show mX (nE M) ≤ _
      omega
    · show mS (nE M) ≤ _
      omega
  · obtain ⟨p, hp4, rfl⟩ := pBad_no y
    have e : f_X3_lead 1000 (nI p) M = some (.inr (FP.ddiv (FP.i2d (4 * e0.1 p - pS4 e0)) (4616189618054758400 : UInt64)), M) := x_lead (I := mI M) (J := mJ M) (A := mA M) h.1.1 ce0 hp4
    rw [e]
    have hl := lead_eq (a := e0.1 p) (S := pS4 e0) rfl (lead_b eb0 hcc hp4)
    generalize FP.ddiv (FP.i2d (4 * e0.1 p - pS4 e0)) (4616189618054758400 : UInt64) = v at *
    have ck := h.sD v
    have k1 : EK cc (sD M 321 1045 v) := ke
    have r := x_leadR (M := sD M 321 1045 v) ck.2.1.1 re0 hp4
    have fn := kn_X7_lead ck.2.2.1.2.1 ck.fn _ r
    have ep : pD 10 1 M 1045 v = some (sD M 321 1045 v) := if_pos h.2.2.2.2
    have eD : mD (cs (th 0 (mI (sD M 321 1045 v))) (mJ (sD M 321 1045 v)) (mA (sD M 321 1045 v)) (sD M 321 1045 v)) 321 1045 = v := u2_at (mD M) 321 1045 v
    refine ⟨0, sD M 321 1045 v, _, _, ?_, ck.row, r, ⟨hp, dl, ck.ref hw fn ck.2.1.1 (ck.2.1.2.th 0)⟩, ⟨u2_at (mI M) 416 1026 0, fun _ => ⟨_, by rw [eD]; exact hl.1, hl.2⟩⟩, ⟨hx, h9, (k1.fr ck.x46 (kq_X7_lead (FQ.rf _) _ r) (FN.ft ck fn)).w⟩, Nat.le_add_right _ _, Nat.le_add_right _ _⟩
    show (pD 10 1 M 1045 v).bind _ = _
    rw [ep]
    rfl
end ASKL
