/-! ===== THE LAW: all is well ===== -/
theorem DQ.num {i : Int} {a : UInt64} (h : DQ i a) : a &&& 0x7fffffffffffffff ≤ 0x7ff0000000000000 := by
  obtain ⟨s, c, q, e, -⟩ := h
  exact z_num (FP.Core.DFin.notNaN ⟨s, c, q, e⟩)
/-- tiles of a set -/
def st34 (v : Nat) : Nat := if v / 100 ≤ 1 then 3 else 4
/-- points, in the order of the law -/
def ptS (e : zPt) : Nat → Int32
  | 0 => e.2.2.1
  | p + 1 => ptS e p + e.1 p
/-- leads, in the order of the law -/
def ldS (e : zPt) : Nat → Int
  | 0 => 0
  | p + 1 => ldS e p + (4 * e.1 p - pS4 e).toInt
theorem ldS_b (e : zPt) : ∀ p, (ldS e p).natAbs ≤ p * 2 ^ 31 := by
  intro p
  induction p with
  | zero => exact Nat.zero_le _
  | succ p ih =>
    have h1 := (4 * e.1 p - pS4 e).toInt_lt
    have h2 := (4 * e.1 p - pS4 e).le_toInt
    rw [ldS, Nat.succ_mul]
    omega
theorem ldS_4 {k : Nat} {e : zPt} (h : EB k e) (hk : k ≤ 600) : ldS e 4 = 0 := by
  have l0 := lead_b h hk (p := 0) (by decide)
  have l1 := lead_b h hk (p := 1) (by decide)
  have l2 := lead_b h hk (p := 2) (by decide)
  have l3 := lead_b h hk (p := 3) (by decide)
  obtain ⟨a, -⟩ := h hk
  obtain ⟨z0, e0, b0⟩ := a 0 (by decide)
  obtain ⟨z1, e1, b1⟩ := a 1 (by decide)
  obtain ⟨z2, e2, b2⟩ := a 2 (by decide)
  obtain ⟨z3, e3, b3⟩ := a 3 (by decide)
  have es : pS4 e = Int32.ofInt (z0 + z1 + z2 + z3) := by
    show 0 + e.1 0 + e.1 1 + e.1 2 + e.1 3 = _
    rw [e0, e1, e2, e3, Int32.ofInt_add, Int32.ofInt_add, Int32.ofInt_add, Int32.zero_add]
  have t0 : (e.1 0).toInt = z0 := by rw [e0, Int32.toInt_ofInt_of_le (by omega) (by omega)]
  have t1 : (e.1 1).toInt = z1 := by rw [e1, Int32.toInt_ofInt_of_le (by omega) (by omega)]
  have t2 : (e.1 2).toInt = z2 := by rw [e2, Int32.toInt_ofInt_of_le (by omega) (by omega)]
  have t3 : (e.1 3).toInt = z3 := by rw [e3, Int32.toInt_ofInt_of_le (by omega) (by omega)]
  have ts : (pS4 e).toInt = z0 + z1 + z2 + z3 := by rw [es, Int32.toInt_ofInt_of_le (by omega) (by omega)]
  show 0 + (4 * e.1 0 - pS4 e).toInt + (4 * e.1 1 - pS4 e).toInt + (4 * e.1 2 - pS4 e).toInt + (4 * e.1 3 - pS4 e).toInt = 0
  rw [l0, l1, l2, l3, t0, t1, t2, t3, ts]
  omega
theorem ptS_4 {e : zPt} (h : eTot e = 1000) : ptS e 4 = 1000 := by
  rw [← h]
  show e.2.2.1 + e.1 0 + e.1 1 + e.1 2 + e.1 3 = e.1 0 + e.1 1 + e.1 2 + e.1 3 + e.2.2.1
  grind
theorem ptl_e (G : zG) (p : Nat) : ptl G p = sn (eH G p) 0 25 + eM G p + sn (fun j => st34 (eV G p j)) 0 (eN G p) := by
  show sn (eH G p) 0 25 + (sn (fun j => if eV G p j / 100 ≤ 1 then 3 else 4) 0 (eN G p) + eM G p) = _
  have e : (fun j => st34 (eV G p j)) = fun j => if eV G p j / 100 ≤ 1 then 3 else 4 := rfl
  rw [e]
  omega
section WELL
variable {n : Nat} {xs : Nat → Int32} {c C k rr : Nat} {M : zM} {G : zG} {e : zPt} {P : Option (Int32 × zM) → Prop}
/-- a hand's text is no shorter than the hand -/
theorem w_aw_248 (h : QK n xs c M G e) (g : GI k rr G e) {p : Nat} (hp : p < 4) {K : Nat → Int32 → Int32 → UInt64 → Int32 → zM → Option (Int32 × zM)} {i1 i2 : Int32} {d3 : UInt64} (kk : ∀ M1, QK n xs (c + 1) M1 G e → P (K 1000 i1 i2 d3 (nI (p + 1)) M1)) : P (f_L_areWell_248 K 1000 i1 i2 d3 (nI p) M) := by
  unfold f_L_areWell_248
  refine h.hand g hp rfl fun M1 v q h1 hk hl h2 h3 => ?_
  rw [if_pos (Or.inl hk), hl, Option.bind_some]
  dsimp only
  refine h1.pl g hp 3 (by decide) rfl rfl fun M2 m2 => ?_
  rw [if_pos (show opl G e p 3 ≤ nI q from le_t (sn (eH G p) 0 25) q h2 (by omega)), nI_1]
  exact kk M2 m2
/-- sets, points, leads -/
theorem w_aw_161 (g : GI k rr G e) {p : Nat} (hp : p < 4) {K : Nat → Int32 → Int32 → UInt64 → Int32 → zM → Option (Int32 × zM)} {i2 : Int32} {d3 : UInt64} {z : Int} (hd : DQ z d3) (hz : (z + (4 * e.1 p - pS4 e).toInt).natAbs ≤ 2 ^ 53) : ∀ (d m j T c : Nat) (M : zM), j + d = eN G p → d < m → QK n xs c M G e → (∀ M1 d', QK n xs (c + 1) M1 G e → DQ (z + (4 * e.1 p - pS4 e).toInt) d' → P (K 1000 (nI (T + sn (fun j => st34 (eV G p j)) j d)) (i2 + e.1 p) d' (nI (p + 1)) M1)) → P (f_L_areWell_161 K m 1000 (nI T) i2 d3 (nI p) (nI (eN G p)) (nI j) M) := by
  have hN := (g.f.2.2.2.2.2.2.2.2.2.2 _ hp).2.1
  intro d
  induction d with
  | zero =>
    intro m j T c M hj hm h kk
    obtain ⟨m, rfl⟩ : ∃ x, m = x + 1 := ⟨m - 1, by omega⟩
    rw [f_L_areWell_161, if_pos (le_t (eN G p) j (by omega) (by omega))]
    refine h.pl g hp 0 (by decide) rfl rfl fun M1 m1 => ?_
    refine m1.lead hp rfl fun M2 m2 => ?_
    have dq := fq_add hd (fq_div (4 * e.1 p - pS4 e)) hz
    rw [if_pos dq.num]
    refine m2.pl g hp 2 (by decide) rfl rfl fun M3 m3 => ?_
    have hop : opN G p ≤ eN G p := sn_le1 _ (fun j => by split <;> omega) _ _
    rw [if_neg (show ¬ nI (eN G p) < opl G e p 2 from lt_f (eN G p) (opN G p) hop (by omega))]
    refine m3.pl g hp 5 (by decide) rfl rfl fun M4 m4 => ?_
    have last : ∀ M5, QK n xs c M5 G e → P (f_L_areWell_248 K 1000 (nI T) (i2 + opl G e p 0) (FP.dadd d3 (FP.ddiv (FP.i2d (4 * e.1 p - pS4 e)) (4616189618054758400 : UInt64))) (nI p) M5) := fun M5 m5 => w_aw_248 m5 g hp fun M6 m6 => kk M6 _ m6 dq
    have e5 : opl G e p 5 = b32 (eC G p) := rfl
    by_cases y : eC G p = true
    · rw [e5, if_pos (show b32 (eC G p) = 1 by rw [y]; rfl)]
      refine m4.pl g hp 2 (by decide) rfl rfl fun M5 m5 => ?_
      rw [if_neg (show ¬ 0 < opl G e p 2 from by
        show ¬ 0 < nI (opN G p)
        rw [g.2.1.1 p hp y]
        decide)]
      exact last M5 m5
    · have y' : eC G p = false := by cases hx : eC G p; rfl; exact absurd hx y
      rw [e5, if_neg (show ¬ b32 (eC G p) = 1 by rw [y']; decide)]
      exact last M4 m4
  | succ d ih =>
    intro m j T c M hj hm h kk
    obtain ⟨m, rfl⟩ : ∃ x, m = x + 1 := ⟨m - 1, by omega⟩
    have hv := g.1.1.v p hp j (by omega)
    rw [f_L_areWell_161, if_neg (le_f (eN G p) j (by omega) (by omega))]
    refine h.ofSet g hp (j := j) (by omega) rfl rfl fun M1 m1 => ?_
    have kk' : ∀ M1 d', QK n xs (c + 1) M1 G e → DQ (z + (4 * e.1 p - pS4 e).toInt) d' → P (K 1000 (nI (T + st34 (eV G p j) + sn (fun j => st34 (eV G p j)) (j + 1) d)) (i2 + e.1 p) d' (nI (p + 1)) M1) := fun M1 d' q1 q2 => by
      have r := kk M1 d' q1 q2
      rw [sn, ← Nat.add_assoc] at r
      exact r
    by_cases y : eV G p j / 100 ≤ 1
    · have e3 : st34 (eV G p j) = 3 := if_pos y
      rw [e3] at kk'
      rw [if_neg (le_f (x := 200) 200 (eV G p j) (by omega) (by decide)), nI_1, show nI T + (3 : Int32) = nI (T + 3) from nI_add T 3]
      exact ih m (j + 1) (T + 3) c M1 (by omega) (by omega) m1 kk'
    · have e4 : st34 (eV G p j) = 4 := if_neg y
      rw [e4] at kk'
      rw [if_pos (le_t (x := 200) 200 (eV G p j) (by omega) (by omega)), nI_1, show nI T + (4 : Int32) = nI (T + 4) from nI_add T 4]
      exact ih m (j + 1) (T + 4) c M1 (by omega) (by omega) m1 kk'
/-- the tiles of a hand are as many as they may be -/
theorem sz_1 (g : GI k rr G e) (h7 : eS G 7 ≠ 0) {p : Nat} (hp : p < 4) : sz G p = 10 ∨ (sz G p = 11 ∧ ((eS G 4 = 1 ∧ p = eS G 5) ∨ (eS G 4 = 3 ∧ e.2.2.2.2 = nI p))) := by
  by_cases y3 : eS G 4 = 3
  · rcases (g.2.2.1 h7).2.1 y3 p hp with z | ⟨z1, z2⟩
    · exact Or.inl z
    · exact Or.inr ⟨z1, Or.inr ⟨y3, z2⟩⟩
  · have a := (g.1.1.2.2.1 p hp).1 y3
    by_cases y : eS G 4 = 1 ∧ p = eS G 5
    · rw [if_pos y] at a
      exact Or.inr ⟨a, Or.inl y⟩
    · rw [if_neg y] at a
      exact Or.inl a
theorem w_aw_140 (h : QK n xs c M G e) (g : GI k rr G e) {p : Nat} (hp : p < 4) {K : Nat → Int32 → Int32 → UInt64 → Int32 → zM → Option (Int32 × zM)} {i2 : Int32} {d3 : UInt64} {z : Int} (hd : DQ z d3) (hz : (z + (4 * e.1 p - pS4 e).toInt).natAbs ≤ 2 ^ 53) {T : Nat} (hT : T < 900000) (kk : ∀ M1 d', QK n xs (c + 1) M1 G e → DQ (z + (4 * e.1 p - pS4 e).toInt) d' → P (K 1000 (nI (T + ptl G p)) (i2 + e.1 p) d' (nI (p + 1)) M1)) : P (f_L_areWell_140 K 1000 (nI T) i2 d3 (nI p) (nI (eN G p)) M) := by
  have hM := (g.f.2.2.2.2.2.2.2.2.2.2 _ hp).2.2.1
  have hz11 := g.1.1.z p hp
  have hN := (g.f.2.2.2.2.2.2.2.2.2.2 _ hp).2.1
  unfold f_L_areWell_140
  refine h.pl g hp 3 (by decide) rfl rfl fun M1 m1 => ?_
  refine m1.pl g hp 4 (by decide) rfl rfl fun M2 m2 => ?_
  have e1 : nI T + (opl G e p 3 + opl G e p 4) = nI (T + (sn (eH G p) 0 25 + eM G p)) := by
    show nI T + (nI (sn (eH G p) 0 25) + nI (eM G p)) = _
    rw [nI_add, nI_add]
  rw [e1]
  refine w_aw_161 g hp hd hz (eN G p) zN 0 _ c M2 (Nat.zero_add _) (by show _ < 130; omega) m2 fun M3 d' m3 q => ?_
  have r := kk M3 d' m3 q
  rw [ptl_e, ← Nat.add_assoc] at r
  exact r
theorem w_aw_91 (h : QK n xs c M G e) (g : GI k rr G e) (h7 : eS G 7 ≠ 0) {p : Nat} (hp : p < 4) {K : Nat → Int32 → Int32 → UInt64 → Int32 → zM → Option (Int32 × zM)} {i2 : Int32} {d3 : UInt64} {z : Int} (hd : DQ z d3) (hz : (z + (4 * e.1 p - pS4 e).toInt).natAbs ≤ 2 ^ 53) {T : Nat} (hT : T < 900000) {i0 : Int32} (hi : sz G p = 11 → i0 ≠ 0) (kk : ∀ M1 d', QK n xs (c + 1) M1 G e → DQ (z + (4 * e.1 p - pS4 e).toInt) d' → P (K 1000 (nI (T + ptl G p)) (i2 + e.1 p) d' (nI (p + 1)) M1)) : P (f_L_areWell_91 K 1000 (nI T) i2 d3 (nI p) (nI (eN G p)) (nI (sz G p)) i0 M) := by
  have go : (eS G 4 = 1 → p = eS G 5 → sz G p = 11) → P (f_L_areWell_112 K 1000 (nI T) i2 d3 (nI p) (nI (eN G p)) (nI (sz G p)) M) := fun t11 => by
    unfold f_L_areWell_112
    refine h.many g 0 (by decide) rfl fun M1 m1 => ?_
    have e0 : mny G e 0 = nI (eS G 4) := rfl
    have p4 := g.1.1.1.2.2.2.2.1
    have t4 := g.1.1.1.2.2.2.2.2.1
    by_cases y : eS G 4 = 1
    · rw [e0, if_pos (show nI (eS G 4) = 1 by rw [y]; rfl)]
      refine m1.many g 1 (by decide) rfl fun M2 m2 => ?_
      have e1 : mny G e 1 = nI (eS G 5) := if_neg (by omega)
      rw [e1]
      by_cases u : nI (eS G 5) = nI p
      · have u' : p = eS G 5 := Classical.byContradiction fun w => eq_f (x := nI (eS G 5)) (y := nI p) (eS G 5) p (Ne.symm w) (by omega) (by omega) rfl rfl u
        rw [if_pos u, if_pos (show nI (sz G p) = 11 by rw [t11 y u']; rfl)]
        exact w_aw_140 m2 g hp hd hz hT kk
      · rw [if_neg u]
        exact w_aw_140 m2 g hp hd hz hT kk
    · rw [e0, if_neg (eq_f (y := 1) (eS G 4) 1 y (by omega) (by decide))]
      exact w_aw_140 m1 g hp hd hz hT kk
  unfold f_L_areWell_91
  rcases sz_1 g h7 hp with s | ⟨s, -⟩
  · rw [if_pos (show nI (sz G p) = 10 by rw [s]; rfl)]
    refine go fun y1 y2 => ?_
    have a := sz_t g.1.1 y1
    rw [← y2] at a
    exact a
  · rw [if_neg (show ¬ nI (sz G p) = 10 by rw [s]; decide), if_pos (show nI (sz G p) = 11 by rw [s]; rfl), if_neg (hi s)]
    exact go fun _ _ => s
theorem w_aw_66 (h : QK n xs c M G e) (g : GI k rr G e) (h7 : eS G 7 ≠ 0) {p : Nat} (hp : p < 4) {K : Nat → Int32 → Int32 → UInt64 → Int32 → zM → Option (Int32 × zM)} {i2 : Int32} {d3 : UInt64} {z : Int} (hd : DQ z d3) (hz : (z + (4 * e.1 p - pS4 e).toInt).natAbs ≤ 2 ^ 53) {T : Nat} (hT : T < 900000) (hi : ¬ (eS G 4 = 1 ∧ p = eS G 5)) (kk : ∀ M1 d', QK n xs (c + 1) M1 G e → DQ (z + (4 * e.1 p - pS4 e).toInt) d' → P (K 1000 (nI (T + ptl G p)) (i2 + e.1 p) d' (nI (p + 1)) M1)) : P (f_L_areWell_66 K 1000 (nI T) i2 d3 (nI p) (nI (eN G p)) (nI (sz G p)) M) := by
  have p4 := g.1.1.1.2.2.2.2.1
  have e0 : mny G e 0 = nI (eS G 4) := rfl
  have e9 : mny G e 9 = e.2.2.2.2 := rfl
  unfold f_L_areWell_66
  refine h.many g 0 (by decide) rfl fun M1 m1 => ?_
  rw [e0]
  by_cases y : eS G 4 = 3
  · rw [if_pos (show nI (eS G 4) = 3 by rw [y]; rfl)]
    refine m1.many g 9 (by decide) rfl fun M2 m2 => ?_
    rw [e9]
    by_cases u : e.2.2.2.2 = nI p
    · rw [if_pos u]
      unfold f_L_areWell_86
      exact w_aw_91 m2 g h7 hp hd hz hT (fun _ => by decide) kk
    · rw [if_neg u]
      unfold f_L_areWell_90
      refine w_aw_91 m2 g h7 hp hd hz hT (fun s => ?_) kk
      rcases sz_1 g h7 hp with w | ⟨-, w | w⟩
      · omega
      · exact absurd w hi
      · exact absurd w.2 u
  · rw [if_neg (eq_f (y := 3) (eS G 4) 3 y (by omega) (by decide))]
    unfold f_L_areWell_90
    refine w_aw_91 m1 g h7 hp hd hz hT (fun s => ?_) kk
    rcases sz_1 g h7 hp with w | ⟨-, w | w⟩
    · omega
    · exact absurd w hi
    · exact absurd w.1 y
/-- kind by kind: four at most; what is seen is what left the wall -/
theorem TT_e (G : zG) (q : Nat) : eH G 0 q + eH G 1 q + eH G 2 q + eH G 3 q + snA G q 4 0 = TT G q := by
  show eH G 0 q + eH G 1 q + eH G 2 q + eH G 3 q + (snP G 0 q + (snP G 1 q + (snP G 2 q + (snP G 3 q + 0)))) = pc G q 0 + (pc G q 1 + (pc G q 2 + (pc G q 3 + 0)))
  unfold pc
  omega
theorem w_aw_294 (g : GI k rr G e) (h7 : eS G 7 ≠ 0) {q : Nat} (hq : q < 25) {K : Nat → Int32 → Int32 → UInt64 → Int32 → Int32 → zM → Option (Int32 × zM)} {i1 i2 : Int32} {d3 : UInt64} {S : Nat} (kk : ∀ M1, QK n xs c M1 G e → P (K 1000 i1 i2 d3 (nI (S + TT G q)) (nI (q + 1)) M1)) : ∀ (d m p T : Nat) (M : zM), p + d = 4 → d < m → T = sn (fun p => eH G p q) 0 p → QK n xs c M G e → P (f_L_areWell_294 K m 1000 i1 i2 d3 (nI S) (nI q) (nI T) (nI p) M) := by
  intro d
  induction d with
  | zero =>
    intro m p T M hp hm hT h
    obtain ⟨m, rfl⟩ : ∃ x, m = x + 1 := ⟨m - 1, by omega⟩
    have p4 : p = 4 := by omega
    subst p4
    have hT' : T = eH G 0 q + (eH G 1 q + (eH G 2 q + (eH G 3 q + 0))) := hT
    have t4 := g.1.1.tt h7 hq
    have te := TT_e G q
    rw [f_L_areWell_294, if_pos (show (4 : Int32) ≤ nI 4 by decide)]
    refine h.seen g hq rfl fun M1 m1 => ?_
    have e1 : nI T + nI (snA G q 4 0) = nI (TT G q) := by
      rw [nI_add]
      exact congrArg nI (by omega)
    rw [e1, if_pos (le_t (y := 4) (TT G q) 4 t4 (by decide))]
    refine m1.seen g hq rfl fun M2 m2 => ?_
    rw [e1, nI_add, nI_1]
    exact kk M2 m2
  | succ d ih =>
    intro m p T M hp hm hT h
    obtain ⟨m, rfl⟩ : ∃ x, m = x + 1 := ⟨m - 1, by omega⟩
    rw [f_L_areWell_294, if_neg (le_f (x := 4) 4 p (by omega) (by decide))]
    refine h.has (p := p) (by omega) hq rfl rfl fun M1 m1 => ?_
    rw [nI_add, nI_1]
    refine ih m (p + 1) _ M1 (by omega) (by omega) ?_ m1
    rw [sn_last, Nat.zero_add, ← hT]
theorem TT_all (g : GI k rr G e) (h7 : eS G 7 ≠ 0) : sn (TT G) 0 25 = 40 + eS G 2 + eS G 3 := by
  have e2 : sn (TT G) 0 25 = sn (DC (eS G)) 0 25 := sn_eq 25 0 fun q _ hq => (g.2.2.1 h7).1 q (by omega)
  rw [e2, DC_sn]
theorem w_aw_281 (g : GI k rr G e) (h7 : eS G 7 ≠ 0) {d3 : UInt64} (hd : DQ 0 d3) : ∀ (d m q S : Nat) (M : zM), q + d = 25 → d < m → S = sn (TT G) 0 q → QK n xs c M G e → GO n xs c (fun v G' e' => v = 1 ∧ G' = G ∧ e' = e) (f_L_areWell_281 m 1000 (nI 100) 1000 d3 (nI S) (nI q) M) := by
  obtain ⟨w0, w1, w2, w3, w4, ht, w8, w9, w10⟩ := g.1.1.1
  intro d
  induction d with
  | zero =>
    intro m q S M hp hm hS h
    obtain ⟨m, rfl⟩ : ∃ x, m = x + 1 := ⟨m - 1, by omega⟩
    have q25 : q = 25 := by omega
    subst q25
    have eS' := TT_all g h7
    have el : lft G = 60 - eS G 2 - eS G 3 := if_neg h7
    rw [f_L_areWell_281, if_pos (show (25 : Int32) ≤ nI 25 by decide), if_pos (show nI 100 = 100 by decide)]
    refine h.many g 2 (by decide) rfl fun M1 m1 => ?_
    rw [if_pos (show nI S = (100 : Int32) - mny G e 2 from by
      show nI S = nI 100 - nI (lft G)
      rw [pk_sub (by omega)]
      exact congrArg nI (by omega)), if_pos rfl, if_pos (show Op.cmpValue (FP.dcmp d3 FP.dconst0) .l = 0 from by rw [fq_cmp hd fq_0]; decide)]
    refine m1.many g 4 (by decide) rfl fun M2 m2 => ?_
    have last : ∀ (b : Int32), b = (if eS G 4 = 2 then 1 else 0) → GO n xs c (fun v G' e' => v = 1 ∧ G' = G ∧ e' = e) (f_L_areWell_399 1000 b M2) := fun b hb => by
      unfold f_L_areWell_399
      refine m2.many g 0 (by decide) rfl fun M3 m3 => ?_
      have fin : GO n xs c (fun v G' e' => v = 1 ∧ G' = G ∧ e' = e) (f_L_areWell_413 1000 (if eS G 4 = 2 then 1 else 0) b M3) := by
        unfold f_L_areWell_413
        rw [if_pos hb]
        refine m3.many g 5 (by decide) rfl fun M4 m4 => ?_
        rw [if_neg (show ¬ (5 : Int32) ≤ mny G e 5 from le_f (x := 5) 5 (eS G 3) (by omega) (by decide))]
        exact GO.r m4 (Nat.le_refl _) ⟨rfl, rfl, rfl⟩
      have e0 : mny G e 0 = nI (eS G 4) := rfl
      rw [e0]
      by_cases y : eS G 4 = 2
      · rw [if_pos y] at fin
        rw [if_pos (show nI (eS G 4) = 2 by rw [y]; rfl)]
        exact fin
      · rw [if_neg y] at fin
        rw [if_neg (eq_f (y := 2) (eS G 4) 2 y (by omega) (by decide))]
        exact fin
    by_cases y : eS G 4 = 2
    · have hl := g.1.1.ls y
      rw [show mny G e 4 = nI (lst G) from if_pos y, if_neg (nI_nn (by omega))]
      exact last 1 (if_pos y).symm
    · rw [show mny G e 4 = -1 from if_neg y, if_pos (by decide)]
      exact last 0 (if_neg y).symm
  | succ d ih =>
    intro m q S M hp hm hS h
    obtain ⟨m, rfl⟩ : ∃ x, m = x + 1 := ⟨m - 1, by omega⟩
    rw [f_L_areWell_281, if_neg (le_f (x := 25) 25 q (by omega) (by decide))]
    refine w_aw_294 (P := GO n xs c (fun v G' e' => v = 1 ∧ G' = G ∧ e' = e)) g h7 (q := q) (by omega) (fun M1 m1 => ?_) 4 zN 0 0 M rfl (by decide) rfl h
    refine ih m (q + 1) _ M1 (by omega) (by omega) ?_ m1
    rw [sn_last, Nat.zero_add, ← hS]
theorem ptl_b (g : GI k rr G e) {p : Nat} (hp : p < 4) : ptl G p < 1000 := by
  obtain ⟨-, hN, hM, -⟩ := g.f.2.2.2.2.2.2.2.2.2.2 _ hp
  have hz := g.1.1.z p hp
  have hs : sn (fun j => st34 (eV G p j)) 0 (eN G p) ≤ eN G p * 4 := sn_le _ 4 _ 0 fun j _ _ => by
    unfold st34
    split <;> omega
  rw [ptl_e]
  omega
theorem sn_ptl (g : GI k rr G e) : ∀ p, p ≤ 4 → sn (ptl G) 0 p < 1000 * p + 1 := by
  intro p
  induction p with
  | zero => exact fun _ => Nat.lt_succ_self 0
  | succ p ih =>
    intro h
    have a := ih (by omega)
    have b := ptl_b g (p := p) (by omega)
    rw [sn_last, Nat.zero_add]
    omega
theorem w_aw_18 (g : GI k rr G e) (h7 : eS G 7 ≠ 0) : ∀ (d m p c : Nat) (M : zM) (d3 : UInt64), p + d = 4 → d < m → QK n xs c M G e → DQ (ldS e p) d3 → GO n xs (c + d) (fun v G' e' => v = 1 ∧ G' = G ∧ e' = e) (f_L_areWell_18 m 1000 (nI (lft G + sn (ptl G) 0 p)) (ptS e p) d3 (nI p) M) := by
  obtain ⟨w0, w1, w2, w3, w4, ht, w8, w9, w10⟩ := g.1.1.1
  have el : lft G = 60 - eS G 2 - eS G 3 := if_neg h7
  intro d
  induction d with
  | zero =>
    intro m p c M d3 hp hm h hd
    obtain ⟨m, rfl⟩ : ∃ x, m = x + 1 := ⟨m - 1, by omega⟩
    have p4 : p = 4 := by omega
    subst p4
    have a := all_sn g.1.1 g.1.2 (g.2.2.1 h7).1
    have b : sn (ptl G) 0 4 = ptl G 0 + (ptl G 1 + (ptl G 2 + (ptl G 3 + 0))) := rfl
    rw [ldS_4 g.2.2.2.2.1 g.2.2.2.2.2.2] at hd
    rw [f_L_areWell_18, if_pos (show (4 : Int32) ≤ nI 4 by decide), show lft G + sn (ptl G) 0 4 = 100 by omega, ptS_4 g.2.2.2.1]
    exact w_aw_281 g h7 hd 25 zN 0 0 M rfl (by decide) rfl h
  | succ d ih =>
    intro m p c M d3 hp hm h hd
    obtain ⟨m, rfl⟩ : ∃ x, m = x + 1 := ⟨m - 1, by omega⟩
    have hp4 : p < 4 := by omega
    have hz : (ldS e p + (4 * e.1 p - pS4 e).toInt).natAbs ≤ 2 ^ 53 := by
      have := ldS_b e (p + 1)
      rw [ldS] at this
      have : (p + 1) * 2 ^ 31 ≤ 4 * 2 ^ 31 := Nat.mul_le_mul_right _ (by omega)
      omega
    have hT := sn_ptl g p (by omega)
    have kk : ∀ M1 d', QK n xs (c + 1) M1 G e → DQ (ldS e p + (4 * e.1 p - pS4 e).toInt) d' → GO n xs (c + (d + 1)) (fun v G' e' => v = 1 ∧ G' = G ∧ e' = e) (f_L_areWell_18 m 1000 (nI (lft G + sn (ptl G) 0 p + ptl G p)) (ptS e p + e.1 p) d' (nI (p + 1)) M1) := fun M1 d' m1 q => by
      have r := ih m (p + 1) (c + 1) M1 d' (by omega) (by omega) m1 q
      rw [sn_last, Nat.zero_add, ← Nat.add_assoc, show c + 1 + d = c + (d + 1) by omega] at r
      exact r
    rw [f_L_areWell_18, if_neg (le_f (x := 4) 4 p (by omega) (by decide))]
    refine h.pl g hp4 1 (by decide) rfl rfl fun M1 m1 => ?_
    refine m1.pl g hp4 3 (by decide) rfl rfl fun M2 m2 => ?_
    have es : opl G e p 3 + (3 : Int32) * opl G e p 1 = nI (sz G p) := by
      show nI (sn (eH G p) 0 25) + nI 3 * nI (eN G p) = nI (sn (eH G p) 0 25 + 3 * eN G p)
      rw [pk_mul, nI_add]
    have e1' : opl G e p 1 = nI (eN G p) := rfl
    rw [es, e1']
    refine m2.many g 0 (by decide) rfl fun M3 m3 => ?_
    have e0 : mny G e 0 = nI (eS G 4) := rfl
    rw [e0]
    by_cases y : eS G 4 = 1
    · rw [if_pos (show nI (eS G 4) = 1 by rw [y]; rfl)]
      refine m3.many g 1 (by decide) rfl fun M4 m4 => ?_
      have e1 : mny G e 1 = nI (eS G 5) := if_neg (by omega)
      rw [e1]
      by_cases u : nI (eS G 5) = nI p
      · rw [if_pos u]
        unfold f_L_areWell_86
        exact w_aw_91 (P := GO n xs (c + (d + 1)) (fun v G' e' => v = 1 ∧ G' = G ∧ e' = e)) m4 g h7 hp4 hd hz (by omega) (fun _ => by decide) kk
      · rw [if_neg u]
        exact w_aw_66 (P := GO n xs (c + (d + 1)) (fun v G' e' => v = 1 ∧ G' = G ∧ e' = e)) m4 g h7 hp4 hd hz (by omega) (fun w => u (by rw [w.2])) kk
    · rw [if_neg (eq_f (y := 1) (eS G 4) 1 y (by omega) (by decide))]
      exact w_aw_66 (P := GO n xs (c + (d + 1)) (fun v G' e' => v = 1 ∧ G' = G ∧ e' = e)) m3 g h7 hp4 hd hz (by omega) (fun w => y w.1) kk
/-- all is well -/
theorem w_areWell (h : QK n xs c M G e) (g : GI k rr G e) (h7 : eS G 7 ≠ 0) : GO n xs (c + 4) (fun v G' e' => v = 1 ∧ G' = G ∧ e' = e) (f_L_areWell 1000 M) := by
  unfold f_L_areWell f_L_areWell_0
  refine h.many g 2 (by decide) rfl fun M1 m1 => ?_
  refine m1.many g 6 (by decide) rfl fun M2 m2 => ?_
  exact w_aw_18 g h7 4 zN 0 c M2 FP.dconst0 rfl (by decide) m2 fq_0
end WELL
