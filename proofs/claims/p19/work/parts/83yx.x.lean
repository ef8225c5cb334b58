/-! ===== BOTH: digest, with the answer ===== -/
def fo (f : Nat → Int64) : Nat → Nat → Int64 → Int64
  | 0, _, j => j
  | d + 1, i, j => fo f d (i + 1) (j * 31 + f i)
noncomputable def dg1 (G : zG) (e : zPt) (p : Nat) (j : Int64) : Int64 := fo (fun x => (opl G e p x).toInt64) 10 0 j
def dg2 (G : zG) (p : Nat) (j : Int64) : Int64 := fo (fun k => (nI (eH G p k)).toInt64) 25 0 j
def dg3 (G : zG) (p : Nat) (j : Int64) : Int64 := fo (fun k => (nI (eV G p k)).toInt64) (eN G p) 0 j
def dg4 (G : zG) (p : Nat) (j : Int64) : Int64 := fo (fun k => (nI (eR G p k)).toInt64) (eM G p) 0 j
def dg5 (G : zG) (e : zPt) (p : Nat) (j : Int64) : Int64 := (j * 31 + gW G p) * 31 + (4 * e.1 p - pS4 e).toInt64
noncomputable def dgP (G : zG) (e : zPt) (p : Nat) (j : Int64) : Int64 := dg5 G e p (dg4 G p (dg3 G p (dg2 G p (dg1 G e p j))))
noncomputable def dgA (G : zG) (e : zPt) : Nat → Nat → Int64 → Int64
  | 0, _, j => j
  | d + 1, i, j => dgA G e d (i + 1) (dgP G e i j)
noncomputable def dgV (G : zG) (e : zPt) : Int64 := dgA G e 4 0 (fo (fun x => (mny G e x).toInt64) 10 0 58317) * 31 + (bsv G).toInt64
section XDIG
variable {I : Nat → Nat → Int32} {J : Nat → Nat → Int64} {A : Nat → Nat → Int32} {M : zM} {G : zG} {e : zPt}
/-- what the class's digest comes to -/
def DX (I : Nat → Nat → Int32) (J : Nat → Nat → Int64) (M : zM) (G : zG) (V : Int64) (x : Option ((String ⊕ Int64) × zM)) : Prop := ∃ A', x = some (.inr V, cs I J A' M) ∧ CR I J A' G ∧ TB A'
theorem x_dp164 (h : CSH M) (hw : WF G) (hc : CR I J A G) (hT : TB A) (he : CE I e) {p : Nat} (hp : p < 4) (v : Int64) : DX I J M G (dg5 G e p v) (f_X3_digestPlayer_164 1000 (nI p) (1010 + 4 * p) v (cs I J A M)) := by
  obtain ⟨A1, e1, f1⟩ := q_waitsG h hc hw hp
  unfold f_X3_digestPlayer_164
  rw [if_pos (show mK (cs I J A M) 1000 = 9 from h.1), e1, Option.bind_some, if_pos (show mK (cs I J A1 M) 1000 = 9 from h.1), x_fourLeads h he hp, Option.bind_some]
  exact ⟨A1, rfl, hc.own f1, hT.eq fun b hb => f1 b (fun z => by unfold OWN at z; omega)⟩
theorem x_dp123 (h : CSH M) (hw : WF G) (hc : CR I J A G) (hT : TB A) (he : CE I e) {p : Nat} (hp : p < 4) : ∀ (d n i : Nat) (v : Int64), i + d = eM G p → d < n → DX I J M G (dg5 G e p (fo (fun k => (nI (eR G p k)).toInt64) d i v)) (f_X3_digestPlayer_123 n 1000 (nI p) (1010 + 4 * p) v (nI i) (cs I J A M)) := by
  have hsp := h.2.2.2.2.2.2.2.1 _ hp
  obtain ⟨d1, d2, d3, d4, d5, d6, d7⟩ := hc.2 _ hp
  obtain ⟨v1, v2, v3, v4⟩ := hw.2.2.2.2.2.2.2.2.2.2 _ hp
  intro d
  induction d with
  | zero =>
    intro n i v hi hn
    obtain ⟨n, rfl⟩ : ∃ m, n = m + 1 := ⟨n - 1, by omega⟩
    rw [f_X3_digestPlayer_123, gI_cs 229 hsp.1, Option.bind_some, d4, if_pos (le_t (eM G p) i (by omega) (by omega))]
    exact x_dp164 h hw hc hT he hp v
  | succ d ih =>
    intro n i v hi hn
    obtain ⟨n, rfl⟩ : ∃ m, n = m + 1 := ⟨n - 1, by omega⟩
    rw [f_X3_digestPlayer_123, gI_cs 229 hsp.1, Option.bind_some, d4, if_neg (le_f (eM G p) i (by omega) (by omega)), if_neg (le_f (x := 64) 64 i (by omega) (by decide)), gR_cs 226 hsp.1 hsp.2.2.2.1, Option.bind_some, lA_cs hsp.2.2.2.2.2.2.1 (by rw [hsp.2.2.2.2.2.2.2]; omega) (by rw [hsp.2.2.2.2.2.2.2]; decide), Option.bind_some, nI_1, d5 i (by omega)]
    exact ih n (i + 1) _ (by omega) (by omega)
theorem x_dp80 (h : CSH M) (hw : WF G) (hc : CR I J A G) (hT : TB A) (he : CE I e) {p : Nat} (hp : p < 4) : ∀ (d n i : Nat) (v : Int64), i + d = eN G p → d < n → DX I J M G (dg5 G e p (dg4 G p (fo (fun k => (nI (eV G p k)).toInt64) d i v))) (f_X3_digestPlayer_80 n 1000 (nI p) (1010 + 4 * p) v (nI i) (cs I J A M)) := by
  have hsp := h.2.2.2.2.2.2.2.1 _ hp
  obtain ⟨d1, d2, d3, d4, d5, d6, d7⟩ := hc.2 _ hp
  obtain ⟨v1, v2, v3, v4⟩ := hw.2.2.2.2.2.2.2.2.2.2 _ hp
  intro d
  induction d with
  | zero =>
    intro n i v hi hn
    obtain ⟨n, rfl⟩ : ∃ m, n = m + 1 := ⟨n - 1, by omega⟩
    rw [f_X3_digestPlayer_80, gI_cs 228 hsp.1, Option.bind_some, d2, if_pos (le_t (eN G p) i (by omega) (by omega))]
    exact x_dp123 h hw hc hT he hp (eM G p) zN 0 v (Nat.zero_add _) (by show eM G p < 130; omega)
  | succ d ih =>
    intro n i v hi hn
    obtain ⟨n, rfl⟩ : ∃ m, n = m + 1 := ⟨n - 1, by omega⟩
    rw [f_X3_digestPlayer_80, gI_cs 228 hsp.1, Option.bind_some, d2, if_neg (le_f (eN G p) i (by omega) (by omega)), if_neg (le_f (x := 3) 3 i (by omega) (by decide)), gR_cs 225 hsp.1 hsp.2.2.1, Option.bind_some, lA_cs hsp.2.2.2.2.2.1.1 (by rw [hsp.2.2.2.2.2.1.2]; omega) (by rw [hsp.2.2.2.2.2.1.2]; decide), Option.bind_some, nI_1, d3 i (by omega)]
    exact ih n (i + 1) _ (by omega) (by omega)
theorem x_dp47 (h : CSH M) (hw : WF G) (hc : CR I J A G) (hT : TB A) (he : CE I e) {p : Nat} (hp : p < 4) : ∀ (d n i : Nat) (v : Int64), i + d = 25 → d < n → DX I J M G (dg5 G e p (dg4 G p (dg3 G p (fo (fun k => (nI (eH G p k)).toInt64) d i v)))) (f_X3_digestPlayer_47 n 1000 (nI p) (1010 + 4 * p) v (nI i) (cs I J A M)) := by
  have hsp := h.2.2.2.2.2.2.2.1 _ hp
  obtain ⟨d1, -⟩ := hc.2 _ hp
  have v2 := (hw.2.2.2.2.2.2.2.2.2.2 _ hp).2.1
  intro d
  induction d with
  | zero =>
    intro n i v hi hn
    obtain ⟨n, rfl⟩ : ∃ m, n = m + 1 := ⟨n - 1, by omega⟩
    rw [f_X3_digestPlayer_47, if_pos (le_t (x := 25) 25 i (by omega) (by omega))]
    exact x_dp80 h hw hc hT he hp (eN G p) zN 0 v (Nat.zero_add _) (by show eN G p < 130; omega)
  | succ d ih =>
    intro n i v hi hn
    obtain ⟨n, rfl⟩ : ∃ m, n = m + 1 := ⟨n - 1, by omega⟩
    rw [f_X3_digestPlayer_47, if_neg (le_f (x := 25) 25 i (by omega) (by decide)), if_pos (show mK (cs I J A M) (1010 + 4 * p) = 7 from hsp.1), q_count hsp (show i < 25 by omega), Option.bind_some, nI_1, d1 i (by omega)]
    exact ih n (i + 1) _ (by omega) (by omega)
theorem tb_fc {α : Type} (hX : 4 ≤ mX M) {x : Option (α × zM)} {v : α} {A' : Nat → Nat → Int32} (k : KF (FC (cs I J A M)) x) (ex : x = some (v, cs I J A' M)) (hT : TB A) : TB A' := hT.eq fun b hb => ((k _ ex).1.2 b (by show b < mX M; omega) (fun z => by unfold own at z; omega)).2.2.2.2.2.1
theorem x_dp14 (hA : ∀ A, AT A M) (hg : RG M) (h : CSH M) (hw : WF G) (hv : WV G) (hd : WD G) (he : CE I e) {p : Nat} (hp : p < 4) : ∀ (d n i : Nat) (v : Int64) (A : Nat → Nat → Int32), i + d = 10 → d < n → CR I J A G → TB A → DX I J M G (dg5 G e p (dg4 G p (dg3 G p (dg2 G p (fo (fun x => (opl G e p x).toInt64) d i v))))) (f_X3_digestPlayer_14 n 1000 (nI p) (1010 + 4 * p) v (nI i) (cs I J A M)) := by
  have hX : 4 ≤ mX M := by have := hg.1; omega
  intro d
  induction d with
  | zero =>
    intro n i v A hi hn hc hT
    obtain ⟨n, rfl⟩ : ∃ m, n = m + 1 := ⟨n - 1, by omega⟩
    rw [f_X3_digestPlayer_14, if_pos (lt_t (x := 9) 9 i (by omega) (by omega))]
    exact x_dp47 h hw hc hT he hp 25 zN 0 v rfl (by decide)
  | succ d ih =>
    intro n i v A hi hn hc hT
    obtain ⟨n, rfl⟩ : ∃ m, n = m + 1 := ⟨n - 1, by omega⟩
    obtain ⟨A', e1, hc1⟩ := x_ofPlayer (hA A) hT h hw hv hd hc he hp (show i < 10 by omega)
    have hT1 := tb_fc hX (kc_X3_ofPlayer (M0 := cs I J A M) hg own1000 (FC.rf _)) e1 hT
    rw [f_X3_digestPlayer_14, if_neg (lt_f (x := 9) 9 i (by omega) (by decide)), if_pos (show mK (cs I J A M) 1000 = 9 from h.1), nI_1, e1]
    exact ih n (i + 1) _ A' (by omega) (by omega) hc1 hT1
theorem x_dig33 (hA : ∀ A, AT A M) (hg : RG M) (h : CSH M) (hw : WF G) (hv : WV G) (hd : WD G) (he : CE I e) : ∀ (d n i : Nat) (v : Int64) (A : Nat → Nat → Int32), i + d = 4 → d < n → CR I J A G → TB A → ∃ A', f_X3_digest_33 n 1000 v (nI i) (cs I J A M) = some (.inr (dgA G e d i v * 31 + (bsv G).toInt64), cs I J A' M) ∧ CR I J A' G := by
  intro d
  induction d with
  | zero =>
    intro n i v A hi hn hc hT
    obtain ⟨n, rfl⟩ : ∃ m, n = m + 1 := ⟨n - 1, by omega⟩
    obtain ⟨A', e1, f⟩ := x_best (J := J) hA hT h hw hc
    rw [f_X3_digest_33, if_pos (le_t (x := 4) 4 i (by omega) (by omega)), if_pos (show mK (cs I J A M) 1000 = 9 from h.1), e1, Option.bind_some]
    exact ⟨A', rfl, f⟩
  | succ d ih =>
    intro n i v A hi hn hc hT
    obtain ⟨n, rfl⟩ : ∃ m, n = m + 1 := ⟨n - 1, by omega⟩
    have hp : i < 4 := by omega
    obtain ⟨A', e1, hc1, hT1⟩ := x_dp14 hA hg h hw hv hd he hp 10 zN 0 v A rfl (by decide) hc hT
    have e2 : f_X3_digestPlayer 1000 v (nI i) (cs I J A M) = some (.inr (dgP G e i v), cs I J A' M) := by
      unfold f_X3_digestPlayer f_X3_digestPlayer_0
      rw [gR_cs 288 h.1 h.2.1, Option.bind_some, h.seat hp, Option.bind_some]
      exact e1
    rw [f_X3_digest_33, if_neg (le_f (x := 4) 4 i (by omega) (by decide)), if_pos (show mK (cs I J A M) 1000 = 9 from h.1), nI_1, e2]
    exact ih n (i + 1) _ A' (by omega) (by omega) hc1 hT1
theorem x_dig6 (hA : ∀ A, AT A M) (hg : RG M) (h : CSH M) (hw : WF G) (hv : WV G) (hd : WD G) (hL : WL G) (he : CE I e) (hc : CR I J A G) (hT : TB A) : ∀ (d n i : Nat) (v : Int64), i + d = 10 → d < n → ∃ A', f_X3_digest_6 n 1000 v (nI i) (cs I J A M) = some (.inr (dgA G e 4 0 (fo (fun x => (mny G e x).toInt64) d i v) * 31 + (bsv G).toInt64), cs I J A' M) ∧ CR I J A' G := by
  intro d
  induction d with
  | zero =>
    intro n i v hi hn
    obtain ⟨n, rfl⟩ : ∃ m, n = m + 1 := ⟨n - 1, by omega⟩
    rw [f_X3_digest_6, if_pos (lt_t (x := 9) 9 i (by omega) (by omega))]
    exact x_dig33 hA hg h hw hv hd he 4 zN 0 v A rfl (by decide) hc hT
  | succ d ih =>
    intro n i v hi hn
    obtain ⟨n, rfl⟩ : ∃ m, n = m + 1 := ⟨n - 1, by omega⟩
    rw [f_X3_digest_6, if_neg (lt_f (x := 9) 9 i (by omega) (by decide)), if_pos (show mK (cs I J A M) 1000 = 9 from h.1), nI_1, x_many h hw hL hc he (show i < 10 by omega)]
    exact ih n (i + 1) _ (by omega) (by omega)
theorem x_digest (hA : ∀ A, AT A M) (hg : RG M) (h : CSH M) (hw : WF G) (hv : WV G) (hd : WD G) (hL : WL G) (he : CE I e) (hc : CR I J A G) (hT : TB A) : ∃ A', f_X3_digest 1000 (cs I J A M) = some (.inr (dgV G e), cs I J A' M) ∧ CR I J A' G := x_dig6 hA hg h hw hv hd hL he hc hT 10 zN 0 58317 rfl (by decide)
end XDIG
theorem mI_s2 (M : zM) (a : Nat) (v w : Int32) (o : Nat) {k : Nat} (h1 : k ≠ 128) (h2 : k ≠ 129) : mI (sI (sI M 128 a v) 129 a w) k o = mI M k o := by
  show (if k = 129 ∧ o = a then w else if k = 128 ∧ o = a then v else mI M k o) = mI M k o
  rw [if_neg (fun z => h2 z.1), if_neg (fun z => h1 z.1)]
section XDIGR
variable {M M0 M1 : zM} {G : zG} {hp dl : Nat → Nat} {l d : Nat} {e : zPt}
def RDV (C S : Nat) (M0 : zM) (G : zG) (hp dl : Nat → Nat) (V : Int64) (x : Option (Int64 × zM)) : Prop := ∃ M', x = some (V, M') ∧ RB C S M0 M' G hp dl
def RBE (c s : Nat) (M0 M : zM) (G : zG) (hp dl : Nat → Nat) (e : zPt) : Prop := RB c s M0 M G hp dl ∧ RE (mI M) e
theorem RBE.w {c s c' s' : Nat} (h : RBE c s M0 M G hp dl e) (hc : c ≤ c') (hs : s ≤ s') : RBE c' s' M0 M G hp dl e := ⟨h.1.w hc hs, h.2⟩
theorem RBE.km {c s c' s' : Nat} {M' : zM} (h : RBE c s M0 M G hp dl e) (k : KM c' s' M M') : RBE (c + c') (s + s') M0 M' G hp dl e := ⟨h.1.tr (RB.km h.1.1 h.1.2.1 k), h.2.eq fun q b _ hb => (k.2 b (by have := h.1.1.2.2.2.2.2.2.2; omega)).2.2.1 q⟩
theorem x_dig_168 (hq : WQ G) {cb : Nat} (eb : EB cb e) (hcb : cb ≤ 600) {i c s C S : Nat} {V W : Int64} (hi4 : i < 4) {K : Nat → Int64 → Int32 → zM → Option (Int64 × zM)} (hK : ∀ M', RBE (c + 1) (s + 4) M0 M' G hp dl e → RDV C S M0 G hp dl V (K 1026 (dg5 G e i W) (nI (i + 1)) M')) (hb : RBE c s M0 M1 G hp dl e) (hlr : LR M1 l d (eM G i) (eR G i)) : ∀ (x n cc : Nat) (j : Int64) (M : zM), cc + x = eM G i → x < n → fo (fun k => (nI (eR G i k)).toInt64) x cc j = W → KM 1 4 M1 M → IT M (mX M1) l cc → RDV C S M0 G hp dl V (f_X7_digest_168 K n 1026 j (nI i) (mX M1) M) := by
  intro x
  induction x with
  | zero =>
    intro n cc j M hc hn hW hk hi
    obtain ⟨n, rfl⟩ : ∃ m, n = m + 1 := ⟨n - 1, by omega⟩
    obtain ⟨⟨l1, l2, l3, l4, l5⟩, -⟩ := hlr.km hk
    have hbM : RBE (c + 1) (s + 4) M0 M G hp dl e := hb.km hk
    obtain ⟨q1, q2⟩ := r_players hbM.1.1 hi4
    obtain ⟨A', e1, f1⟩ := r_waitsG (I := mI M) (J := mJ M) (A := mA M) hbM.1.1 hbM.1.2.1 hq.1 hi4
    have e1' : f_X6_waits (1028 + 4 * i) M = some (gW G i, cs (mI M) (mJ M) A' M) := e1
    have hb2 : RBE (c + 1) (s + 4) M0 (cs (mI M) (mJ M) A' M) G hp dl e := ⟨⟨hbM.1.1, f1, hbM.1.2.2⟩, hbM.2⟩
    have e2 := x_leadNow (M := cs (mI M) (mJ M) A' M) hb2.1.1 hb2.2 hi4
    have hW' : j = W := hW
    rw [f_X7_digest_168, if_pos hi.1, r_hasNext hi l1 l3 (by omega) (by omega), Option.bind_some, if_pos (show cc = eM G i by omega)]
    dsimp only
    rw [if_pos rfl, q1, Option.bind_some, q2, Option.bind_some, if_pos (hbM.1.1.2.1 i hi4).1, e1', Option.bind_some]
    dsimp only
    rw [r_add7, Option.bind_some]
    dsimp only
    rw [if_pos (show mK (cs (mI M) (mJ M) A' M) 1026 = 13 from hbM.1.1.1.1), e2, Option.bind_some]
    dsimp only
    rw [if_pos (z_mul4 (z_sub4n _ _)), r_add7, Option.bind_some, nI_1, lead_l (lead_b eb hcb hi4), hW']
    exact hK _ hb2
  | succ x ih =>
    intro n cc j M hc hn hW hk hi
    obtain ⟨n, rfl⟩ : ∃ m, n = m + 1 := ⟨n - 1, by omega⟩
    obtain ⟨⟨l1, l2, l3, l4, l5⟩, l6, l7⟩ := hlr.km hk
    obtain ⟨d1, d2, d3, d4⟩ := l6 (by omega)
    obtain ⟨o, o1, o2, o3, o4⟩ := l7 cc (by omega)
    obtain ⟨e1, e2⟩ := r_next hi l1 l3 (by omega) l2 d1 d2 d3 (by omega) o1
    have o22 : mK (sI (sI M 128 (mX M1) (nI (cc + 1))) 129 (mX M1) (nI cc)) o = 3 ∨ mK (sI (sI M 128 (mX M1) (nI (cc + 1))) 129 (mX M1) (nI cc)) o = 303 := Or.inr o2
    have o44 : mI (sI (sI M 128 (mX M1) (nI (cc + 1))) 129 (mX M1) (nI cc)) 96 o = nI (eR G i cc) := (mI_s2 M (mX M1) _ _ o (by decide) (by decide)).trans o4
    have hk2 : KM 1 4 M1 (sI (sI M 128 (mX M1) (nI (cc + 1))) 129 (mX M1) (nI cc)) := (hk.sI (Nat.le_refl _) _ _).sI (Nat.le_refl _) _ _
    generalize sI (sI M 128 (mX M1) (nI (cc + 1))) 129 (mX M1) (nI cc) = M2 at *
    rw [f_X7_digest_168, if_pos hi.1, r_hasNext hi l1 l3 (by omega) (by omega), Option.bind_some, if_neg (show ¬ cc = eM G i by omega)]
    dsimp only
    rw [if_neg (show ¬ (1 : Int32) = 0 by decide), if_pos hi.1, e1, Option.bind_some]
    dsimp only
    rw [if_pos o22, if_pos o22]
    unfold f_J6_intValue_8abf5 f_J6_intValue_8abf5_0
    rw [e_hI 96 o22, Option.bind_some, Option.bind_some, r_add7, Option.bind_some, o44]
    exact ih n (cc + 1) _ M2 (by omega) (by omega) hW hk2 e2
theorem x_dig_118 (hq : WQ G) {cb : Nat} (eb : EB cb e) (hcb : cb ≤ 600) {i c s C S : Nat} {V W : Int64} (hi4 : i < 4) {K : Nat → Int64 → Int32 → zM → Option (Int64 × zM)} (hK : ∀ M', RBE (c + 2) (s + 8) M0 M' G hp dl e → RDV C S M0 G hp dl V (K 1026 (dg5 G e i (dg4 G i W)) (nI (i + 1)) M')) (hb : RBE c s M0 M1 G hp dl e) (hlv : LV M1 l d (eN G i) (eV G i)) : ∀ (x n cc : Nat) (j : Int64) (M : zM), cc + x = eN G i → x < n → fo (fun k => (nI (eV G i k)).toInt64) x cc j = W → KM 1 4 M1 M → IT M (mX M1) l cc → RDV C S M0 G hp dl V (f_X7_digest_118 K n 1026 j (nI i) (mX M1) M) := by
  have hvi := hq.2.1 i hi4
  intro x
  induction x with
  | zero =>
    intro n cc j M hc hn hW hk hi
    obtain ⟨n, rfl⟩ : ∃ m, n = m + 1 := ⟨n - 1, by omega⟩
    obtain ⟨⟨l1, l2, l3, l4, l5⟩, -⟩ := hlv.km hk
    have hbM : RBE (c + 1) (s + 4) M0 M G hp dl e := hb.km hk
    obtain ⟨q1, q2⟩ := r_players hbM.1.1 hi4
    have hlr := hbM.1.1.lr (I := mI M) (J := mJ M) (A := mA M) hbM.1.2.1 hq.1 hi4
    have hs := hbM.1.1.2.1 i hi4
    have hr1 : mK M (1031 + 4 * i) = 5 := hs.2.2.2.2.2
    obtain ⟨M2, e2, i2, k2⟩ := r_iter hr1 hlr.1.2.2.2.1
    have hW' : j = W := hW
    rw [f_X7_digest_118, if_pos hi.1, r_hasNext hi l1 l3 (by omega) (by omega), Option.bind_some, if_pos (show cc = eN G i by omega)]
    dsimp only
    rw [if_pos rfl, q1, Option.bind_some, q2, Option.bind_some, e_gR 388 hs.1 hs.2.2.2.1, Option.bind_some, if_pos hr1, e2, Option.bind_some, hW']
    exact x_dig_168 hq eb hcb hi4 (c := c + 1) (s := s + 4) (W := dg4 G i W) (fun M' b => hK M' b) hbM hlr (eM G i) zN 0 W M2 (by omega) (by have := hlr.1.2.2.2.2; show eM G i < 130; omega) rfl k2 i2
  | succ x ih =>
    intro n cc j M hc hn hW hk hi
    obtain ⟨n, rfl⟩ : ∃ m, n = m + 1 := ⟨n - 1, by omega⟩
    obtain ⟨⟨l1, l2, l3, l4, l5⟩, l6, l7⟩ := hlv.km hk
    obtain ⟨d1, d2, d3, d4⟩ := l6 (by omega)
    obtain ⟨o, o1, o2, o3, o4, o5⟩ := l7 cc (by omega)
    obtain ⟨e1, e2⟩ := r_next hi l1 l3 (by omega) l2 d1 d2 d3 (by omega) o1
    have o22 : mK (sI (sI M 128 (mX M1) (nI (cc + 1))) 129 (mX M1) (nI cc)) o = 11 := o2
    have o44 : mI (sI (sI M 128 (mX M1) (nI (cc + 1))) 129 (mX M1) (nI cc)) 352 o = nI (eV G i cc % 100) := (mI_s2 M (mX M1) _ _ o (by decide) (by decide)).trans o4
    have o55 : mI (sI (sI M 128 (mX M1) (nI (cc + 1))) 129 (mX M1) (nI cc)) 353 o = nI (eV G i cc / 100) := (mI_s2 M (mX M1) _ _ o (by decide) (by decide)).trans o5
    have hk2 : KM 1 4 M1 (sI (sI M 128 (mX M1) (nI (cc + 1))) 129 (mX M1) (nI cc)) := (hk.sI (Nat.le_refl _) _ _).sI (Nat.le_refl _) _ _
    generalize sI (sI M 128 (mX M1) (nI (cc + 1))) 129 (mX M1) (nI cc) = M2 at *
    have e100 : (100 : Int32) * nI (eV G i cc / 100) = nI (100 * (eV G i cc / 100)) := pk_mul 100 _
    rw [f_X7_digest_118, if_pos hi.1, r_hasNext hi l1 l3 (by omega) (by omega), Option.bind_some, if_neg (show ¬ cc = eN G i by omega)]
    dsimp only
    rw [if_neg (show ¬ (1 : Int32) = 0 by decide), if_pos hi.1, e1, Option.bind_some]
    dsimp only
    rw [if_pos (Or.inl o22)]
    unfold f_X7_ofSetNow f_X7_ofSetNow_0
    rw [e_gI 352 o22, Option.bind_some, e_gI 353 o22, Option.bind_some, Option.bind_some, r_add7, Option.bind_some, o44, o55, e100, nI_add, show eV G i cc % 100 + 100 * (eV G i cc / 100) = eV G i cc by omega]
    exact ih n (cc + 1) _ M2 (by omega) (by omega) hW hk2 e2
theorem x_dig_73 (hq : WQ G) {cb : Nat} (eb : EB cb e) (hcb : cb ≤ 600) {i c s C S : Nat} {V W : Int64} (hi4 : i < 4) {K : Nat → Int64 → Int32 → zM → Option (Int64 × zM)} (hK : ∀ M', RBE (c + 2) (s + 8) M0 M' G hp dl e → RDV C S M0 G hp dl V (K 1026 (dg5 G e i (dg4 G i (dg3 G i W))) (nI (i + 1)) M')) (hb : RBE c s M0 M G hp dl e) : ∀ (x n k : Nat) (j : Int64), k + x = 25 → x < n → fo (fun k => (nI (eH G i k)).toInt64) x k j = W → RDV C S M0 G hp dl V (f_X7_digest_73 K n 1026 j (nI i) (nI k) M) := by
  obtain ⟨q1, q2⟩ := r_players hb.1.1 hi4
  have hs := hb.1.1.2.1 i hi4
  have hh := hb.1.1.2.2.1 i hi4
  have hr := (hb.1.2.1.2.1 i hi4).1
  intro x
  induction x with
  | zero =>
    intro n k j hk hn hW
    obtain ⟨n, rfl⟩ : ∃ m, n = m + 1 := ⟨n - 1, by omega⟩
    have hlv := hb.1.1.lv (I := mI M) (J := mJ M) (A := mA M) hb.1.2.1 hq.1 hi4
    have hl1 : mK M (1030 + 4 * i) = 5 := hs.2.2.2.2.1
    obtain ⟨M2, e2, i2, k2⟩ := r_iter hl1 hlv.1.2.2.2.1
    have hW' : j = W := hW
    rw [f_X7_digest_73, if_pos (le_t (x := 25) 25 k (by omega) (by omega)), q1, Option.bind_some, q2, Option.bind_some, e_gR 387 hs.1 hs.2.2.1, Option.bind_some, if_pos hl1, e2, Option.bind_some, hW']
    exact x_dig_118 hq eb hcb hi4 (W := dg3 G i W) hK hb hlv (eN G i) zN 0 W M2 (by omega) (by have := hlv.1.2.2.2.2; show eN G i < 130; omega) rfl k2 i2
  | succ x ih =>
    intro n k j hk hn hW
    obtain ⟨n, rfl⟩ : ∃ m, n = m + 1 := ⟨n - 1, by omega⟩
    rw [f_X7_digest_73, if_neg (le_f (x := 25) 25 k (by omega) (by decide)), q1, Option.bind_some, q2, Option.bind_some, e_gR 386 hs.1 hs.2.1, Option.bind_some, e_lA hh.1 (by rw [hh.2.1]; omega) (by rw [hh.2.1]; decide), Option.bind_some, r_add7, Option.bind_some, nI_1, hr k (by omega)]
    exact ih n (k + 1) _ (by omega) (by omega) hW
theorem x_dig_44 (hq : WQ G) {cb : Nat} (eb : EB cb e) (hcb : cb ≤ 600) {i c s C S : Nat} {V W : Int64} (hi4 : i < 4) {K : Nat → Int64 → Int32 → zM → Option (Int64 × zM)} (hK : ∀ M', RBE (c + 12) (s + 48) M0 M' G hp dl e → RDV C S M0 G hp dl V (K 1026 (dg5 G e i (dg4 G i (dg3 G i (dg2 G i W)))) (nI (i + 1)) M')) : ∀ (y n x : Nat) (j : Int64) (M : zM), x + y = 10 → y < n → fo (fun x => (opl G e i x).toInt64) y x j = W → RBE (c + x) (s + 4 * x) M0 M G hp dl e → RDV C S M0 G hp dl V (f_X7_digest_44 K n 1026 j (nI i) (nI x) M) := by
  intro y
  induction y with
  | zero =>
    intro n x j M hx hn hW hb
    obtain ⟨n, rfl⟩ : ∃ m, n = m + 1 := ⟨n - 1, by omega⟩
    have hW' : j = W := hW
    rw [f_X7_digest_44, if_pos (le_t (x := 10) 10 x (by omega) (by omega)), hW']
    exact x_dig_73 hq eb hcb hi4 (c := c + 10) (s := s + 40) (W := dg2 G i W) (fun M' b => hK M' b) (hb.w (by omega) (by omega)) 25 zN 0 W rfl (by decide) rfl
  | succ y ih =>
    intro n x j M hx hn hW hb
    obtain ⟨n, rfl⟩ : ∃ m, n = m + 1 := ⟨n - 1, by omega⟩
    obtain ⟨M1, e1, b1, -⟩ := x_ofPlayerNow hb.1.1 hb.1.2.1 hq hb.2 hi4 (show x < 10 by omega)
    have fq := kq_X7_ofPlayerNow (FQ.rf M) _ e1
    have hX := hb.1.1.2.2.2.2.2.2.2
    have hb1 : RBE (c + x + 1) (s + 4 * x + 4) M0 M1 G hp dl e := ⟨hb.1.tr b1, hb.2.eq fun k b hk hb => fq.2 k b hk (by omega)⟩
    rw [f_X7_digest_44, if_neg (le_f (x := 10) 10 x (by omega) (by decide)), if_pos hb.1.1.1.1, e1, Option.bind_some]
    dsimp only
    rw [r_add7, Option.bind_some, nI_1]
    exact ih n (x + 1) _ M1 (by omega) (by omega) hW (hb1.w (by omega) (by omega))
theorem x_dig_36 (hq : WQ G) {cb : Nat} (eb : EB cb e) (hcb : cb ≤ 600) : ∀ (y n i : Nat) (j : Int64) (M : zM), i + y = 4 → y < n → RBE (10 + 12 * i) (100 + 48 * i) M0 M G hp dl e → RDV 58 292 M0 G hp dl (dgA G e y i j * 31 + (bsv G).toInt64) (f_X7_digest_36 n 1026 j (nI i) M) := by
  intro y
  induction y with
  | zero =>
    intro n i j M hi hn hb
    obtain ⟨n, rfl⟩ : ∃ m, n = m + 1 := ⟨n - 1, by omega⟩
    obtain ⟨M1, e1, b1⟩ := x_bestNow hb.1.1 hb.1.2.1 hq
    rw [f_X7_digest_36, if_pos (le_t (x := 4) 4 i (by omega) (by omega)), if_pos hb.1.1.1.1, e1, Option.bind_some]
    dsimp only
    rw [r_add7, Option.bind_some]
    exact ⟨M1, rfl, (hb.1.tr b1).w (by omega) (by omega)⟩
  | succ y ih =>
    intro n i j M hi hn hb
    obtain ⟨n, rfl⟩ : ∃ m, n = m + 1 := ⟨n - 1, by omega⟩
    rw [f_X7_digest_36, if_neg (le_f (x := 4) 4 i (by omega) (by decide))]
    exact x_dig_44 hq eb hcb (by omega) (c := 10 + 12 * i) (s := 100 + 48 * i) (W := dg1 G e i j) (fun M' b => ih n (i + 1) _ M' (by omega) (by omega) (b.w (by omega) (by omega))) 10 zN 0 j M rfl (by decide) rfl hb
theorem x_dig_11 (hq : WQ G) {cb : Nat} (eb : EB cb e) (hcb : cb ≤ 600) : ∀ (y n x : Nat) (j : Int64) (M : zM), x + y = 10 → y < n → RBE x (10 * x) M0 M G hp dl e → RDV 58 292 M0 G hp dl (dgA G e 4 0 (fo (fun x => (mny G e x).toInt64) y x j) * 31 + (bsv G).toInt64) (f_X7_digest_11 n 1026 j (nI x) M) := by
  intro y
  induction y with
  | zero =>
    intro n x j M hx hn hb
    obtain ⟨n, rfl⟩ : ∃ m, n = m + 1 := ⟨n - 1, by omega⟩
    rw [f_X7_digest_11, if_pos (le_t (x := 10) 10 x (by omega) (by omega))]
    exact x_dig_36 hq eb hcb 4 zN 0 j M rfl (by decide) (hb.w (by omega) (by omega))
  | succ y ih =>
    intro n x j M hx hn hb
    obtain ⟨n, rfl⟩ : ∃ m, n = m + 1 := ⟨n - 1, by omega⟩
    obtain ⟨M1, e1, k1⟩ := x_manyNow hb.1.1 hb.1.2.1 hq hb.2 (show x < 10 by omega)
    rw [f_X7_digest_11, if_neg (le_f (x := 10) 10 x (by omega) (by decide)), if_pos hb.1.1.1.1, e1, Option.bind_some]
    dsimp only
    rw [r_add7, Option.bind_some, nI_1]
    exact ih n (x + 1) _ M1 (by omega) (by omega) ((hb.km k1).w (by omega) (by omega))
theorem x_digestR (h : RS M hp dl) (hn : RN (mI M) (mJ M) (mA M) M G hp dl) (hq : WQ G) {cb : Nat} (eb : EB cb e) (hcb : cb ≤ 600) (re : RE (mI M) e) : RDV 58 292 M G hp dl (dgV G e) (f_X7_digest 1026 M) := by
  have hb := RB.th h hn 0
  unfold f_X7_digest f_X7_digest_0
  rw [e_pI 416 h.1.1, Option.bind_some]
  exact x_dig_11 (M0 := M) hq eb hcb 10 zN 0 _ (sI M 416 1026 0) rfl (by decide) ⟨hb, re.th 0⟩
end XDIGR
section ASKD
variable {n cc : Nat} {xs : Nat → Int32} {M : zM} {G : zG} {hp dl : Nat → Nat}
theorem tj_digest (h : CK n xs M G G hp dl) (hx : WX G) (h9 : W9 G) (ke : EK cc M) (hcc : cc ≤ 600) (hr : eS G 7 < 2 ^ 20) : ∃ v M1 M2, f_X3_digest 1000 M = some (.inr v, M1) ∧ ROW n xs M1 ∧ f_X7_digest 1026 M1 = some (v, M2) ∧ (∃ hp2 dl2, CK n xs M2 G G hp2 dl2) ∧ (WX G ∧ W9 G ∧ EK (cc + 1) M2) ∧ (mX M2 ≤ mX M + 404 ∧ mS M2 ≤ mS M + 1640) := by
  have hw := hx.f hr
  have hA : ∀ A, AT A M := fun _ => h.1.1.2.2.2.2.2.2.2.2
  obtain ⟨tb, e0, ce0, re0, eb0⟩ := id ke
  obtain ⟨A', e, hc⟩ := x_digest (I := mI M) (J := mJ M) hA h.2.2.1.1 h.1.1 hw hx.v hx.2.2.2.2.2.2.1 hx.2.2.2.2.2.1 ce0 h.1.2 tb
  have e' : f_X3_digest 1000 M = some (.inr (dgV G e0), cs (mI M) (mJ M) A' M) := e
  have fc : FC M (cs (mI M) (mJ M) A' M) := (kc_X3_digest h.2.2.1.1 own1000 (FC.rf M)) _ e'
  have ck : CK n xs (cs (mI M) (mJ M) A' M) G G hp dl := h.c0 rfl rfl rfl rfl fc h.1.1 hc
  have k1 : EK cc (cs (mI M) (mJ M) A' M) := ke.fr h.x46 (kq_X3_digest (FQ.rf M) _ e') (FC.ft h fc)
  have re1 : RE (mI (cs (mI M) (mJ M) A' M)) e0 := re0
  have eX : mX (cs (mI M) (mJ M) A' M) = mX M := rfl
  have eS' : mS (cs (mI M) (mJ M) A' M) = mS M := rfl
  generalize cs (mI M) (mJ M) A' M = M1 at *
  obtain ⟨M2, r1, r2⟩ := x_digestR ck.2.1.1 ck.2.1.2 (hx.q hr) eb0 hcc re1
  have fn := kn_X7_digest ck.2.2.1.2.1 ck.fn _ r1
  have r3 := r2.2.2
  exact ⟨_, M1, M2, e', ck.row, r1, ⟨hp, dl, ck.ref hw fn r2.1 r2.2.1⟩, ⟨hx, h9, (k1.fr ck.x46 (kq_X7_digest (FQ.rf M1) _ r1) (FN.ft ck fn)).w⟩, by omega⟩
end ASKD
