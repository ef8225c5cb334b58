/-! ===== PURE: points, wins, pot, lucky kind, winner: the class's call, lay, win ===== -/
def eCal (e : zPt) (t : Nat) : zPt := (u1 e.1 t (e.1 t - 10), e.2.1, e.2.2.1 + 10, e.2.2.2.1, e.2.2.2.2)
def flw (k : Nat) : Nat := if k < 18 then (if k % 9 = 8 then k - 8 else k + 1) else if k = 21 then 18 else if k = 24 then 22 else k + 1
def eLay (e : zPt) (k : Nat) : zPt := (e.1, e.2.1, e.2.2.1, nI (flw k), e.2.2.2.2)
theorem flw_lt {k : Nat} (h : k < 25) : flw k < 25 := by
  unfold flw
  repeat' split
  all_goals omega
/-- a win: who wins, whose turn it is, whether by oneself, the value -/
def eWin (e : zPt) (p t : Nat) (al : Bool) (x : Int32) : zPt := (fun q => if q = p then e.1 p + 12 * x + e.2.2.1 else if al = true then e.1 q - 4 * x else if q = t then e.1 q - 12 * x else e.1 q, u1 e.2.1 p (e.2.1 p + 1), 0, e.2.2.2.1, nI p)
theorem x_follower {k : Nat} (hk : k < 25) (M : zM) : f_X3_follower (nI k) M = some (nI (flw k), M) := by
  unfold f_X3_follower f_X3_follower_0 flw
  have em : zmd (nI k) 9 = nI (k % 9) := pk_rem (a := k) (d := 9) (by omega) (by decide) (by decide)
  by_cases y : k < 18
  · rw [if_neg (le_f (x := 18) 18 k (by omega) (by decide)), if_pos y, em]
    by_cases z : k % 9 = 8
    · have e8 : nI k - 8 = nI (k - 8) := pk_sub (a := k) (b := 8) (by omega)
      have e9 : nI k - 9 + 1 = nI (k - 8) := by
        rw [← e8]
        grind
      rw [if_pos (show nI (k % 9) = 8 by rw [z]; rfl), if_pos z, e9]
    · rw [if_neg (eq_f (y := 8) (k % 9) 8 z (by omega) (by decide)), if_neg z, nI_1]
  · rw [if_pos (le_t (x := 18) 18 k (by omega) (by omega)), if_neg y]
    by_cases y2 : 22 ≤ k
    · rw [if_pos (le_t (x := 22) 22 k y2 (by omega)), if_neg (show ¬ k = 21 by omega)]
      by_cases z : k = 24
      · rw [if_pos (show nI k = 24 by rw [z]; rfl), if_pos z]
        rfl
      · rw [if_neg (eq_f (y := 24) k 24 z (by omega) (by decide)), if_neg z, nI_1]
    · rw [if_neg (le_f (x := 22) 22 k (by omega) (by decide)), if_neg (show ¬ k = 24 by omega)]
      by_cases z : k = 21
      · rw [if_pos (show nI k = 21 by rw [z]; rfl), if_pos z]
        rfl
      · rw [if_neg (eq_f (y := 21) k 21 z (by omega) (by decide)), if_neg z, nI_1]
section XCALLC
variable {I : Nat → Nat → Int32} {J : Nat → Nat → Int64} {A : Nat → Nat → Int32} {M : zM} {G : zG}
theorem x_call (h : CSH M) (hw : WF G) (hv : WV G) (hz : WZ G) (hX : 1046 ≤ mX M) (hc : CR I J A G) {k : Nat} (hk : k < 25) (z : eS G 4 = 1) (hC : eC G (eS G 5) = false) (x : opN G (eS G 5) = 0) (u : eH G (eS G 5) k ≠ 0) (r : wts (eN G (eS G 5)) (u1 (eH G (eS G 5)) k (eH G (eS G 5) k - 1)) ≠ 0) {e : zPt} (he : CE I e) : ∃ I' J' A', f_X3_call 1000 (nI k) (cs I J A M) = some (.inr (e.1 (eS G 5) - 10), cs I' J' A' M) ∧ CR I' J' A' (gRiv (gCal G (eS G 5)) k) ∧ CE I' (eCal e (eS G 5)) := by
  unfold f_X3_call f_X3_call_0
  have hs := hc.1
  have hw' := hw
  obtain ⟨w0, w1, w2, w3, w4, ht, w6, w7, w8, w9, w10⟩ := hw'
  obtain ⟨c1, c2, c3, c4, c5, c6, c7⟩ := hc.2 _ ht
  have hse := h.2.2.2.2.2.2.2.1 _ ht
  have v1 := (w10 _ ht).1
  have vN := (w10 _ ht).2.1
  have v1k := v1 k hk
  obtain ⟨w', e3⟩ := q_readyWithout (J := J) (A := A) h ht c1 (fun j hj => by have := v1 j hj; omega) (by have := hz _ ht; omega) c2 vN hk u
  have hc3 : CR I J (ur A 1003 w') G := hc.own (own_ur A w' (Or.inl ⟨by decide, by decide⟩))
  rw [q_requireKind_ok hk]
  show ∃ I' J' A', (if mK (cs I J A M) 1000 = 9 then _ else none) = _ ∧ _
  rw [if_pos (show mK (cs I J A M) 1000 = 9 from h.1), q_phase1 h hw hc, if_pos z]
  show ∃ I' J' A', (if mK (cs I J A M) 1000 = 9 then _ else none) = _ ∧ _
  rw [if_pos (show mK (cs I J A M) 1000 = 9 from h.1), q_seatInTurn h ht hs.2.2.2.2.2.1, Option.bind_some, gI_cs 230 hse.1, Option.bind_some, c7, hC, if_pos (show b32 false = 0 from rfl), if_pos (show mK (cs I J A M) (1010 + 4 * eS G 5) = 7 from hse.1), q_open h hv hw hc ht, Option.bind_some]
  dsimp only
  rw [x, if_neg (show ¬ (0 : Int32) < nI 0 by decide), if_pos (show mK (cs I J A M) (1010 + 4 * eS G 5) = 7 from hse.1), q_count hse hk, Option.bind_some, c1 k hk]
  dsimp only
  rw [if_neg (eq_f (y := 0) (eH G (eS G 5) k) 0 u (by omega) (by decide)), if_pos (show mK (cs I J A M) 1000 = 9 from h.1), e3, Option.bind_some]
  dsimp only
  rw [decide_eq_true r, if_neg (show ¬ b32 true = 0 by decide), gI_cs 231 hse.1, Option.bind_some, pI_cs 231 hse.1, Option.bind_some, gI_cs 299 h.1, Option.bind_some, pI_cs 299 h.1, Option.bind_some, pZ_cs 230 hse.1 (Or.inr rfl), Option.bind_some, if_pos (show mK (cs _ J _ M) 1000 = 9 from h.1)]
  have hcf : ∀ a b, CR (u2 (u2 I 231 (1010 + 4 * eS G 5) a) 299 1000 b) J (ur A 1003 w') G := fun a b => hc3.free (fun c d => by
    by_cases y1 : c = 231
    · exact Or.inl (Or.inl y1)
    · by_cases y2 : c = 299
      · exact Or.inl (Or.inr (Or.inr (by omega)))
      · exact Or.inr ((if_neg (fun q => y2 q.1)).trans (if_neg (fun q => y1 q.1))))
  have e231 := (he.1 _ ht).1
  have e299 : u2 I 231 (1010 + 4 * eS G 5) (I 231 (1010 + 4 * eS G 5) - 10) 299 1000 = e.2.2.1 := (if_neg (fun q => by have := q.1; omega)).trans he.2.1
  have he2 : CE (u2 (u2 (u2 I 231 (1010 + 4 * eS G 5) (I 231 (1010 + 4 * eS G 5) - 10)) 299 1000 (u2 I 231 (1010 + 4 * eS G 5) (I 231 (1010 + 4 * eS G 5) - 10) 299 1000 + 10)) 230 (1010 + 4 * eS G 5) 1) (eCal e (eS G 5)) := by
    rw [e299, e231]
    exact (((show CE I (e.1, e.2.1, e.2.2.1, e.2.2.2.1, e.2.2.2.2) from he).ptU _).poU _).ot 1 rfl
  obtain ⟨I', J', A', e1, e2, -, -⟩ := q_layIntoRiver (G := gCal G (eS G 5)) h hw ((hcf _ _).cal (eS G 5)) hk u
  have he3 := he2.fq hX (kq_X3_layIntoRiver (FQ.rf _)) e1
  refine ⟨I', J', A', (congrArg (fun q => Option.bind q _) e1).trans ?_, e2, he3⟩
  show (gI 7 7 (cs I' J' A' M) (1010 + 4 * eS G 5)).bind _ = _
  rw [gI_cs 231 hse.1, Option.bind_some, (he3.1 _ ht).1]
  show some (Sum.inr (u1 e.1 (eS G 5) (e.1 (eS G 5) - 10) (eS G 5)), _) = _
  rw [u1_at]
theorem x_lay_64 (h : CSH M) (hX : 1046 ≤ mX M) : ∀ (d n p : Nat) (I : Nat → Nat → Int32) (J : Nat → Nat → Int64) (A : Nat → Nat → Int32) (G : zG) (e : zPt), eS G 0 < 100 → eS G 1 < 100 → p + d = 4 → d < n → CR I J A G → CE I e → ∃ I' J' A', f_X3_lay_64 n 1000 (nI p) (cs I J A M) = some (.inr (nI (eS G 6) - 1), cs I' J' A' M) ∧ CE I' (eLay e (gK G 95)) := by
  intro d
  induction d with
  | zero =>
    intro n p I J A G e w0 w1 hi hn hc he
    obtain ⟨n, rfl⟩ : ∃ m, n = m + 1 := ⟨n - 1, by omega⟩
    have hs := hc.1
    have e2 : f_X3_kindAt 1000 95 (cs I J A M) = some (nI (gK G 95), cs I J A M) := q_kindAt h hs.1 hs.2.1 w0 w1 (t := 95) (by omega)
    have e3 := x_follower (gK_lt G 95) (cs I J A M)
    rw [f_X3_lay_64, if_pos (le_t (x := 4) 4 p (by omega) (by omega)), if_pos (show mK (cs I J A M) 1000 = 9 from h.1), e2, Option.bind_some, e3, Option.bind_some, pI_cs 300 h.1, Option.bind_some, gI_cs 297 h.1, Option.bind_some]
    dsimp only
    refine ⟨u2 I 300 1000 (nI (flw (gK G 95))), J, A, ?_, (show CE I (e.1, e.2.1, e.2.2.1, e.2.2.2.1, e.2.2.2.2) from he).lkU _⟩
    have e4 : I 297 1000 = nI (eS G 6) - 1 := by
      rw [← hs.2.2.2.2.2.2.1]
      grind
    have e5 : u2 I 300 1000 (nI (flw (gK G 95))) 297 1000 = I 297 1000 := if_neg (fun q => by have := q.1; omega)
    rw [e5, e4]
  | succ d ih =>
    intro n p I J A G e w0 w1 hi hn hc he
    obtain ⟨n, rfl⟩ : ∃ m, n = m + 1 := ⟨n - 1, by omega⟩
    obtain ⟨I1, J1, A1, e1, f1⟩ := q_dealTo h (show p < 4 by omega) w0 w1 hc
    have eS1 : eS (gDeal p 10 0 (gClr G p)) = eS G := (gDeal_S p 10 0 _).trans rfl
    have he1 := he.fq hX (kq_X3_dealTo (FQ.rf _)) e1
    have eg : gK (gDeal p 10 0 (gClr G p)) 95 = gK G 95 := by
      unfold gK
      rw [eS1]
    rw [f_X3_lay_64, if_neg (le_f (x := 4) 4 p (by omega) (by decide)), if_pos (show mK (cs I J A M) 1000 = 9 from h.1), e1, Option.bind_some, nI_1]
    obtain ⟨I2, J2, A2, e2, f2⟩ := ih n (p + 1) I1 J1 A1 _ e (by rw [eS1]; exact w0) (by rw [eS1]; exact w1) (by omega) (by omega) f1 he1
    rw [eS1] at e2
    rw [eg] at f2
    exact ⟨I2, J2, A2, e2, f2⟩
/-- lay, where it goes -/
theorem x_lay (h : CSH M) (hw : WF G) (hX : 1046 ≤ mX M) (hc : CR I J A G) {st sh : Nat} (n1 : st ≠ 0) (n2 : st < 100) (n3 : st % 2 ≠ 0) (n4 : st % 5 ≠ 0) (n5 : sh < 100) (z : eS G 4 = 3) {e : zPt} (he : CE I e) {v : String ⊕ Int32} {M' : zM} (ex : f_X3_lay 1000 (nI st) (nI sh) (cs I J A M) = some (v, M')) : CE (mI M') (eLay e (gK (gBeg G st sh) 95)) := by
  have m2 : zmd (nI st) 2 = nI (st % 2) := pk_rem (a := st) (d := 2) (by omega) (by decide) (by decide)
  have m5 : zmd (nI st) 5 = nI (st % 5) := pk_rem (a := st) (d := 5) (by omega) (by decide) (by decide)
  have w4 := hw.2.2.2.2.1
  have e1 := q_requirePhase (I := I) (J := J) (A := A) h hc.1 w4 3 (by decide)
  have e' : f_X3_requirePhase 1000 3 (cs I J A M) = if eS G 4 = 3 then some (.inr (), cs I J A M) else some (.inl "java/lang/IllegalStateException", cs I J A (nE M)) := e1
  unfold f_X3_lay f_X3_lay_0 at ex
  rw [m2, m5, if_neg (lt_f (y := 1) st 1 (by omega) (by omega)), if_neg (le_f (x := 100) 100 st (by omega) (by decide)), if_neg (eq_f (y := 0) (st % 2) 0 n3 (by omega) (by decide)), if_neg (eq_f (y := 0) (st % 5) 0 n4 (by omega) (by decide)), if_neg (nI_nn (by omega)), if_pos (lt_t (y := 100) sh 100 n5 (by decide)), if_pos (show mK (cs I J A M) 1000 = 9 from h.1), e', if_pos z] at ex
  have ex : (pI 9 3 (cs I J A M) 1000 (nI st)).bind _ = some (v, M') := ex
  rw [pI_cs 291 h.1, Option.bind_some, pI_cs 292 h.1, Option.bind_some, if_pos (show mK (cs _ J A M) 1000 = 9 from h.1)] at ex
  obtain ⟨I1, e2, f2⟩ := q_beginRound h hw hc (st := st) (sh := sh)
  have he1 : CE (u2 (u2 I 291 1000 (nI st)) 292 1000 (nI sh)) e := (he.ot _ rfl).ot _ rfl
  have he2 := he1.fq hX (kq_X3_beginRound (FQ.rf _)) e2
  obtain ⟨I2, J2, A2, e3, f3⟩ := x_lay_64 h hX 4 zN 0 I1 J A (gBeg G st sh) e (show st < 100 from n2) (show sh < 100 from n5) rfl (by decide) f2 he2
  have e3' : f_X3_lay_64 zN 1000 0 (cs I1 J A M) = some (.inr (nI (eS (gBeg G st sh) 6) - 1), cs I2 J2 A2 M) := e3
  rw [e2, Option.bind_some] at ex
  dsimp only at ex
  rw [e3'] at ex
  cases ex
  exact f3
end XCALLC
section XWINC
variable {I : Nat → Nat → Int32} {J : Nat → Nat → Int64} {A : Nat → Nat → Int32} {M : zM} {G : zG}
theorem x_pay92 (h : CSH M) {p : Nat} (hp : p < 4) {pt wn : Nat → Int32} {po lk wi : Int32} (he : CE I (pt, wn, po, lk, wi)) : ∃ I', f_X3_payWin_92 1000 (nI p) (cs I J A M) = some ((), cs I' J A M) ∧ CE I' (u1 pt p (pt p + po), wn, 0, lk, wi) ∧ PF I I' := by
  have hsp := h.2.2.2.2.2.2.2.1 _ hp
  unfold f_X3_payWin_92
  rw [gR_cs 288 h.1 h.2.1, Option.bind_some, h.seat hp, Option.bind_some, gI_cs 231 hsp.1, Option.bind_some, gI_cs 299 h.1, Option.bind_some, pI_cs 231 hsp.1, Option.bind_some, pI_cs 299 h.1, Option.bind_some, (he.1 p hp).1, show I 299 1000 = po from he.2.1]
  exact ⟨_, rfl, (he.ptU _).poU 0, ((PF.rfl' I).put (Or.inl rfl) _ _).put (Or.inr (Or.inr (by omega))) _ _⟩
theorem PF.tr' {I I1 I2 : Nat → Nat → Int32} (h : PF I I1) (g : PF I1 I2) : PF I I2 := fun k b => (g k b).elim Or.inl fun z => (h k b).imp id fun w => z.trans w
theorem x_pay7 (h : CSH M) {p : Nat} (hp : p < 4) (x : Int32) {wn : Nat → Int32} {po lk wi : Int32} : ∀ (d n i : Nat) (pt : Nat → Int32) (I : Nat → Nat → Int32), i + d = 4 → d < n → CE I (pt, wn, po, lk, wi) → ∃ I', f_X3_payWin_7 n 1000 (nI p) x (nI i) (cs I J A M) = some ((), cs I' J A M) ∧ CE I' (fun q => if q = p then (if i ≤ p then pt p - 4 * x else pt p) + 16 * x + po else if i ≤ q then pt q - 4 * x else pt q, wn, 0, lk, wi) ∧ PF I I' := by
  have hsp := h.2.2.2.2.2.2.2.1 _ hp
  intro d
  induction d with
  | zero =>
    intro n i pt I hi hn he
    obtain ⟨n, rfl⟩ : ∃ m, n = m + 1 := ⟨n - 1, by omega⟩
    have e231 := (he.1 p hp).1
    rw [f_X3_payWin_7, if_pos (le_t (x := 4) 4 i (by omega) (by omega)), gR_cs 288 h.1 h.2.1, Option.bind_some, h.seat hp, Option.bind_some, gI_cs 231 hsp.1, Option.bind_some, pI_cs 231 hsp.1, Option.bind_some, e231]
    obtain ⟨I', e1, e2, e3⟩ := x_pay92 (J := J) (A := A) h hp (he.ptU (p := p) (pt p + 16 * x))
    refine ⟨I', e1, e2.cg fun q hq => ?_, ((PF.rfl' I).put (Or.inl rfl) _ _).tr' e3⟩
    by_cases y : q = p
    · subst y
      rw [u1_at, u1_at, if_pos rfl, if_neg (by omega)]
    · rw [u1_ne _ _ y, u1_ne _ _ y, if_neg y, if_neg (by omega)]
  | succ d ih =>
    intro n i pt I hi hn he
    obtain ⟨n, rfl⟩ : ∃ m, n = m + 1 := ⟨n - 1, by omega⟩
    have hi4 : i < 4 := by omega
    have hsi := h.2.2.2.2.2.2.2.1 _ hi4
    have e231 := (he.1 i hi4).1
    rw [f_X3_payWin_7, if_neg (le_f (x := 4) 4 i (by omega) (by decide)), gR_cs 288 h.1 h.2.1, Option.bind_some, h.seat hi4, Option.bind_some, gI_cs 231 hsi.1, Option.bind_some, pI_cs 231 hsi.1, Option.bind_some, nI_1, e231]
    obtain ⟨I', e1, e2, e3⟩ := ih n (i + 1) (u1 pt i (pt i - 4 * x)) _ (by omega) (by omega) (he.ptU (p := i) (pt i - 4 * x))
    refine ⟨I', e1, e2.cg fun q hq => ?_, ((PF.rfl' I).put (Or.inl rfl) _ _).tr' e3⟩
    by_cases y : q = p
    · rw [if_pos y, if_pos y]
      by_cases w : p = i
      · rw [← w, u1_at, if_neg (by omega), if_pos (Nat.le_refl _)]
      · rw [u1_ne _ _ w]
        by_cases z : i + 1 ≤ p
        · rw [if_pos z, if_pos (by omega)]
        · rw [if_neg z, if_neg (by omega)]
    · rw [if_neg y, if_neg y]
      by_cases w : q = i
      · rw [w, u1_at, if_neg (by omega), if_pos (Nat.le_refl _)]
      · rw [u1_ne _ _ w]
        by_cases z : i + 1 ≤ q
        · rw [if_pos z, if_pos (by omega)]
        · rw [if_neg z, if_neg (by omega)]
theorem x_payWin (h : CSH M) {t p : Nat} (ht : t < 4) (hst : I 296 1000 = nI t) (hp : p < 4) (al : Bool) (hpt : al = false → p ≠ t) (x : Int32) {e : zPt} (he : CE I e) : ∃ I', f_X3_payWin 1000 (nI p) (b32 al) x (cs I J A M) = some ((), cs I' J A M) ∧ CE I' ((eWin e p t al x).1, e.2.1, 0, e.2.2.2.1, e.2.2.2.2) ∧ PF I I' := by
  have hse := h.2.2.2.2.2.2.2.1 _ ht
  have hsp := h.2.2.2.2.2.2.2.1 _ hp
  have he' : CE I (e.1, e.2.1, e.2.2.1, e.2.2.2.1, e.2.2.2.2) := he
  unfold f_X3_payWin f_X3_payWin_0
  cases al with
  | false =>
    have hne := hpt rfl
    have e1 := (he.1 t ht).1
    have e2 : u2 I 231 (1010 + 4 * t) (e.1 t - 12 * x) 231 (1010 + 4 * p) = e.1 p := (if_neg (fun z => hne (by have := z.2; omega))).trans (he.1 p hp).1
    rw [if_pos (show b32 false = 0 from rfl), if_pos (show mK (cs I J A M) 1000 = 9 from h.1), q_seatInTurn h ht hst, Option.bind_some, gI_cs 231 hse.1, Option.bind_some, pI_cs 231 hse.1, Option.bind_some, gR_cs 288 h.1 h.2.1, Option.bind_some, h.seat hp, Option.bind_some, gI_cs 231 hsp.1, Option.bind_some, pI_cs 231 hsp.1, Option.bind_some, e1, e2]
    obtain ⟨I', e3, e4, e5⟩ := x_pay92 (J := J) (A := A) h hp ((he'.ptU (p := t) (e.1 t - 12 * x)).ptU (p := p) (e.1 p + 12 * x))
    refine ⟨I', e3, e4.cg fun q hq => ?_, (((PF.rfl' I).put (Or.inl rfl) _ _).put (Or.inl rfl) _ _).tr' e5⟩
    show _ = if q = p then _ else if false = true then _ else if q = t then _ else _
    by_cases y : q = p
    · subst y
      rw [u1_at, u1_at, if_pos rfl]
    · rw [u1_ne _ _ y, u1_ne _ _ y, if_neg y, if_neg (by decide)]
      by_cases w : q = t
      · rw [w, u1_at, if_pos rfl]
      · rw [u1_ne _ _ w, if_neg w]
  | true =>
    rw [if_neg (show ¬ b32 true = 0 by decide)]
    obtain ⟨I', e3, e4, e5⟩ := x_pay7 (J := J) (A := A) (M := M) h hp x 4 zN 0 e.1 I rfl (by decide) he'
    refine ⟨I', e3, e4.cg fun q hq => ?_, e5⟩
    show _ = if q = p then _ else if true = true then _ else _
    by_cases y : q = p
    · rw [if_pos y, if_pos y, if_pos (Nat.zero_le _)]
      grind
    · rw [if_neg y, if_neg y, if_pos (Nat.zero_le _), if_pos rfl]
/-- the class's wind -/
theorem x_windOf (h : CSH M) {D p : Nat} (hD : I 297 1000 = nI D) (hD4 : D < 4) (hp : p < 4) : f_X3_windOf 1000 (nI p) (cs I J A M) = some (nI ((p + 4 - D) % 4), cs I J A M) := by
  have key : ∀ p, p < 4 → ∀ D, D < 4 → zmd (nI p - nI D + 4) 4 = nI ((p + 4 - D) % 4) := by decide
  unfold f_X3_windOf f_X3_windOf_0
  have ne : ¬ nI D = -1 := fun z => by
    have e2 : nI D < 0 := by rw [z]; decide
    exact nI_nn (by omega) e2
  rw [gI_cs 297 h.1, Option.bind_some, hD, if_neg ne, Option.bind_some, key p hp D hD4]
theorem x_win_74 (h : CSH M) (ht : eS G 5 < 4) (hc : CR I J A G) {p : Nat} (hp : p < 4) (hN3 : eN G p ≤ 3) (hv4 : ∀ j, j < eN G p → eV G p j < 400) (hH : ∀ k, k < 25 → eH G p k < 1000) (al : Bool) (hpt : al = false → p ≠ eS G 5) {D lk : Nat} (hD : I 297 1000 = nI D) (hD4 : D < 4) (hlk : lk < 25) {e : zPt} (he : CE I e) (helk : e.2.2.2.1 = nI lk) : ∃ I' A', f_X3_win_74 1000 (nI p) (b32 al) (1010 + 4 * p) (cs I J A M) = some (.inr (nI (min (vsum al (eC G p) (opN G p) lk ((p + 4 - D) % 4) (alk (eH G p) (eV G p) (eN G p)) (wrc (eH G p) (eV G p) (eN G p) 0 0 25)) 12)), cs I' J A' M) ∧ CE I' (eWin e p (eS G 5) al (nI (min (vsum al (eC G p) (opN G p) lk ((p + 4 - D) % 4) (alk (eH G p) (eV G p) (eN G p)) (wrc (eH G p) (eV G p) (eN G p) 0 0 25)) 12))) := by
  have hsp := h.2.2.2.2.2.2.2.1 _ hp
  obtain ⟨d1, d2, d3, d4, d5, d6, d7⟩ := hc.2 _ hp
  have hva : VA M 1008 1009 := h.2.2.2.2.2.2.1
  have e1 := x_windOf (I := I) (J := J) (A := A) h hD hD4 hp
  have hwd : (p + 4 - D) % 4 < 4 := Nat.mod_lt _ (by decide)
  obtain ⟨w', e2⟩ := x_value (J := J) (A := A) hva hsp ⟨by omega, by omega⟩ d2 hN3 d1 hH d3 hv4 d7 al hlk hwd
  have hc2 := hc.own (own_ur A w' (q := 1009) (Or.inr rfl))
  obtain ⟨I2, e3, f3, f4⟩ := x_payWin (J := J) (A := ur A 1009 w') h ht hc.1.2.2.2.2.2.1 hp al hpt (nI (min (vsum al (eC G p) (opN G p) lk ((p + 4 - D) % 4) (alk (eH G p) (eV G p) (eN G p)) (wrc (eH G p) (eV G p) (eN G p) 0 0 25)) 12)) he
  have e300 : I 300 1000 = nI lk := he.2.2.1.trans helk
  have e2' : f_X2_value 1008 (1010 + 4 * p) (b32 al) (nI lk) (nI ((p + 4 - D) % 4)) (cs I J A M) = some (nI (min (vsum al (eC G p) (opN G p) lk ((p + 4 - D) % 4) (alk (eH G p) (eV G p) (eN G p)) (wrc (eH G p) (eV G p) (eN G p) 0 0 25)) 12), cs I J (ur A 1009 w') M) := e2
  generalize nI (min (vsum al (eC G p) (opN G p) lk ((p + 4 - D) % 4) (alk (eH G p) (eV G p) (eN G p)) (wrc (eH G p) (eV G p) (eN G p) 0 0 25)) 12) = z at *
  unfold f_X3_win_74
  rw [gR_cs 290 h.1 h.2.2.2.1, Option.bind_some, gI_cs 300 h.1, Option.bind_some, if_pos (show mK (cs I J A M) 1000 = 9 from h.1), e1, Option.bind_some, if_pos (show mK (cs I J A M) 1008 = 8 from hva.1), e300, e2', Option.bind_some, if_pos (show mK (cs I J _ M) 1000 = 9 from h.1), e3, Option.bind_some, gI_cs 232 hsp.1, Option.bind_some, pI_cs 232 hsp.1, Option.bind_some, pI_cs 301 h.1, Option.bind_some, pI_cs 295 h.1, Option.bind_some]
  have e232 : I2 232 (1010 + 4 * p) = e.2.1 p := (f3.1 p hp).2
  rw [e232]
  exact ⟨_, _, rfl, ((f3.wnU (p := p) (e.2.1 p + 1)).wiU (nI p)).ot 3 rfl⟩
end XWINC
