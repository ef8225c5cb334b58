/-! ===== PURE: points, wins, pot, lucky kind, winner: the class's calls on them ===== -/
/-- points, wins, pot, lucky kind, winner -/
abbrev zPt : Type := (Nat → Int32) × (Nat → Int32) × Int32 × Int32 × Int32
def CE (I : Nat → Nat → Int32) (e : zPt) : Prop := (∀ p, p < 4 → I 231 (1010 + 4 * p) = e.1 p ∧ I 232 (1010 + 4 * p) = e.2.1 p) ∧ I 299 1000 = e.2.2.1 ∧ I 300 1000 = e.2.2.2.1 ∧ I 301 1000 = e.2.2.2.2
theorem CE.eq {I I' : Nat → Nat → Int32} {e : zPt} (h : CE I e) (f : ∀ k b, ek k = true → b < 1026 → I' k b = I k b) : CE I' e := ⟨fun p hp => ⟨(f _ _ rfl (by omega)).trans (h.1 p hp).1, (f _ _ rfl (by omega)).trans (h.1 p hp).2⟩, (f _ _ rfl (by omega)).trans h.2.1, (f _ _ rfl (by omega)).trans h.2.2.1, (f _ _ rfl (by omega)).trans h.2.2.2⟩
/-- after a method that leaves them -/
theorem CE.fq {I I' : Nat → Nat → Int32} {J J' : Nat → Nat → Int64} {A A' : Nat → Nat → Int32} {M M' : zM} {α : Type} {x : Option (α × zM)} {v : α} {e : zPt} (h : CE I e) (hX : 1026 ≤ mX M) (kq : KF (FQ (cs I J A M)) x) (ex : x = some (v, cs I' J' A' M')) : CE I' e := h.eq fun k b hk hb => (kq _ ex).2 k b hk (Nat.lt_of_lt_of_le hb hX)
section CEU
variable {I : Nat → Nat → Int32} {e : zPt} {pt wn : Nat → Int32} {po lk wi : Int32}
theorem CE.ptU (h : CE I (pt, wn, po, lk, wi)) {p : Nat} (v : Int32) : CE (u2 I 231 (1010 + 4 * p) v) (u1 pt p v, wn, po, lk, wi) := ⟨fun c hc => ⟨by
  show u2 I 231 (1010 + 4 * p) v 231 (1010 + 4 * c) = u1 pt p v c
  unfold u2 u1
  by_cases y : c = p
  · rw [if_pos y, if_pos ⟨rfl, by omega⟩]
  · rw [if_neg y, if_neg (by omega)]
    exact (h.1 c hc).1, (h.1 c hc).2⟩, h.2⟩
theorem CE.wnU (h : CE I (pt, wn, po, lk, wi)) {p : Nat} (v : Int32) : CE (u2 I 232 (1010 + 4 * p) v) (pt, u1 wn p v, po, lk, wi) := ⟨fun c hc => ⟨(h.1 c hc).1, by
  show u2 I 232 (1010 + 4 * p) v 232 (1010 + 4 * c) = u1 wn p v c
  unfold u2 u1
  by_cases y : c = p
  · rw [if_pos y, if_pos ⟨rfl, by omega⟩]
  · rw [if_neg y, if_neg (by omega)]
    exact (h.1 c hc).2⟩, h.2⟩
theorem CE.poU (h : CE I (pt, wn, po, lk, wi)) (v : Int32) : CE (u2 I 299 1000 v) (pt, wn, v, lk, wi) := ⟨fun c hc => h.1 c hc, rfl, h.2.2⟩
theorem CE.lkU (h : CE I (pt, wn, po, lk, wi)) (v : Int32) : CE (u2 I 300 1000 v) (pt, wn, po, v, wi) := ⟨fun c hc => h.1 c hc, h.2.1, rfl, h.2.2.2⟩
theorem CE.wiU (h : CE I (pt, wn, po, lk, wi)) (v : Int32) : CE (u2 I 301 1000 v) (pt, wn, po, lk, v) := ⟨fun c hc => h.1 c hc, h.2.1, h.2.2.1, rfl⟩
theorem CE.ot (h : CE I e) {k a : Nat} (v : Int32) (hk : ek k = false) : CE (u2 I k a v) e := h.eq fun q b hq _ => if_neg fun z => by rw [z.1, hk] at hq; cases hq
theorem CE.cg (h : CE I (pt, wn, po, lk, wi)) {pt' : Nat → Int32} (f : ∀ p, p < 4 → pt p = pt' p) : CE I (pt', wn, po, lk, wi) := ⟨fun c hc => ⟨(h.1 c hc).1.trans (f c hc), (h.1 c hc).2⟩, h.2⟩
end CEU
/-! nobody wins -/
def rdy (G : zG) (p : Nat) : Bool := decide (gW G p ≠ 0)
def crd (G : zG) (i d : Nat) : Nat := sn (fun p => if rdy G p = true then 1 else 0) i d
def ewP (G : zG) (R i : Nat) (pt : Nat → Int32) (p : Nat) : Int32 := if i ≤ p ∧ p < 4 then pt p + 10 * (if rdy G p = true then 4 - nI R else -nI R) else pt p
theorem lg_rdy (G : zG) (p : Nat) : lg_cmp (gW G p) 0 = 0 ↔ rdy G p = false := by
  rw [lg_cmp_0]
  unfold rdy
  rw [decide_eq_false_iff_not]
  exact ⟨fun z w => w z, fun z => Classical.byContradiction z⟩
section XDRAW
variable {J : Nat → Nat → Int64} {M : zM} {G : zG}
theorem x_ewn_40 (h : CSH M) (hw : WF G) {R : Nat} {wn : Nat → Int32} {po lk wi : Int32} : ∀ (d n i : Nat) (pt : Nat → Int32) (I : Nat → Nat → Int32) (A : Nat → Nat → Int32), i + d = 4 → d < n → CR I J A G → CE I (pt, wn, po, lk, wi) → ∃ I' A', f_X3_endWithoutWinner_40 n 1000 (nI R) (nI i) (cs I J A M) = some ((), cs I' J A' M) ∧ CE I' (ewP G R i pt, wn, po, lk, -1) := by
  intro d
  induction d with
  | zero =>
    intro n i pt I A hi hn hc he
    obtain ⟨n, rfl⟩ : ∃ m, n = m + 1 := ⟨n - 1, by omega⟩
    refine ⟨u2 (u2 I 301 1000 (-1)) 295 1000 3, A, ?_, ?_⟩
    · rw [f_X3_endWithoutWinner_40, if_pos (le_t (x := 4) 4 i (by omega) (by omega)), pI_cs 301 h.1, Option.bind_some, pI_cs 295 h.1, Option.bind_some]
    · exact ((he.wiU (-1)).ot 3 rfl).cg fun p hp => (if_neg (by omega)).symm
  | succ d ih =>
    intro n i pt I A hi hn hc he
    obtain ⟨n, rfl⟩ : ∃ m, n = m + 1 := ⟨n - 1, by omega⟩
    have hp : i < 4 := by omega
    have hs := h.2.2.2.2.2.2.2.1 i hp
    obtain ⟨A1, e1, f1⟩ := q_waitsG h hc hw hp
    have hc1 := hc.own f1
    have ei : I 231 (1010 + 4 * i) = pt i := (he.1 i hp).1
    have nx : ∀ v : Int32, v = pt i + 10 * (if rdy G i = true then 4 - nI R else -nI R) → ∃ I' A', f_X3_endWithoutWinner_40 n 1000 (nI R) (nI (i + 1)) (cs (u2 I 231 (1010 + 4 * i) v) J A1 M) = some ((), cs I' J A' M) ∧ CE I' (ewP G R i pt, wn, po, lk, -1) := fun v hv => by
      obtain ⟨I', A', e2, f2⟩ := ih n (i + 1) (u1 pt i v) (u2 I 231 (1010 + 4 * i) v) A1 (by omega) (by omega) (hc1.free (fun k b => by
        by_cases y : k = 231
        · exact Or.inl (Or.inl y)
        · exact Or.inr (if_neg (fun q => y q.1)))) (he.ptU v)
      refine ⟨I', A', e2, f2.cg fun p hp4 => ?_⟩
      unfold ewP
      by_cases y : p = i
      · subst y
        rw [if_neg (by omega), if_pos ⟨Nat.le_refl _, hp4⟩, u1_at, hv]
      · rw [u1_ne _ _ y]
        by_cases z : i + 1 ≤ p ∧ p < 4
        · rw [if_pos z, if_pos (show i ≤ p ∧ p < 4 by omega)]
        · rw [if_neg z, if_neg (show ¬ (i ≤ p ∧ p < 4) by omega)]
    rw [f_X3_endWithoutWinner_40, if_neg (le_f (x := 4) 4 i (by omega) (by decide)), gR_cs 288 h.1 h.2.1, Option.bind_some, h.seat hp, Option.bind_some, if_pos (show mK (cs I J A M) 1000 = 9 from h.1), e1, Option.bind_some]
    dsimp only
    unfold f_X3_endWithoutWinner_65 f_X3_endWithoutWinner_90
    cases hr : rdy G i with
    | false =>
      rw [if_pos ((lg_rdy G i).mpr hr), gR_cs 288 h.1 h.2.1, Option.bind_some, h.seat hp, Option.bind_some, gI_cs 231 hs.1, Option.bind_some, if_pos rfl, pI_cs 231 hs.1, Option.bind_some, nI_1]
      exact nx _ (by rw [ei, hr, if_neg (by decide)])
    | true =>
      rw [if_neg (fun z => by rw [(lg_rdy G i).mp z] at hr; cases hr), gR_cs 288 h.1 h.2.1, Option.bind_some, h.seat hp, Option.bind_some, gI_cs 231 hs.1, Option.bind_some, if_neg (by decide), pI_cs 231 hs.1, Option.bind_some, nI_1]
      exact nx _ (by rw [ei, hr, if_pos rfl])
theorem x_ewn_4 (h : CSH M) (hw : WF G) {I : Nat → Nat → Int32} {pt wn : Nat → Int32} {po lk wi : Int32} (he : CE I (pt, wn, po, lk, wi)) : ∀ (d n i x : Nat) (A : Nat → Nat → Int32), i + d = 4 → d < n → CR I J A G → ∃ I' A', f_X3_endWithoutWinner_4 n 1000 (nI x) (nI i) (cs I J A M) = some ((), cs I' J A' M) ∧ CE I' (ewP G (x + crd G i d) 0 pt, wn, po, lk, -1) := by
  intro d
  induction d with
  | zero =>
    intro n i x A hi hn hc
    obtain ⟨n, rfl⟩ : ∃ m, n = m + 1 := ⟨n - 1, by omega⟩
    rw [f_X3_endWithoutWinner_4, if_pos (le_t (x := 4) 4 i (by omega) (by omega))]
    exact x_ewn_40 h hw 4 zN 0 pt I A rfl (by decide) hc he
  | succ d ih =>
    intro n i x A hi hn hc
    obtain ⟨n, rfl⟩ : ∃ m, n = m + 1 := ⟨n - 1, by omega⟩
    have hp : i < 4 := by omega
    obtain ⟨A1, e1, f1⟩ := q_waitsG h hc hw hp
    have ec : crd G i (d + 1) = (if rdy G i = true then 1 else 0) + crd G (i + 1) d := rfl
    rw [f_X3_endWithoutWinner_4, if_neg (le_f (x := 4) 4 i (by omega) (by decide)), gR_cs 288 h.1 h.2.1, Option.bind_some, h.seat hp, Option.bind_some, if_pos (show mK (cs I J A M) 1000 = 9 from h.1), e1, Option.bind_some, nI_1, ec]
    dsimp only
    cases hr : rdy G i with
    | false =>
      have e0 : nI x + 0 = nI x := nI_add x 0
      rw [if_pos ((lg_rdy G i).mpr hr), e0, if_neg (by decide), Nat.zero_add]
      exact ih n (i + 1) x A1 (by omega) (by omega) (hc.own f1)
    | true =>
      have e0 : nI x + 1 = nI (x + 1) := nI_1 x
      rw [if_neg (fun z => by rw [(lg_rdy G i).mp z] at hr; cases hr), e0, if_pos rfl, ← Nat.add_assoc]
      exact ih n (i + 1) (x + 1) A1 (by omega) (by omega) (hc.own f1)
/-- what the end without a winner does -/
def eEwn (G : zG) (e : zPt) : zPt := (ewP G (crd G 0 4) 0 e.1, e.2.1, e.2.2.1, e.2.2.2.1, -1)
theorem x_endWithoutWinner (h : CSH M) (hw : WF G) {I : Nat → Nat → Int32} {A : Nat → Nat → Int32} (hc : CR I J A G) {e : zPt} (he : CE I e) : ∃ I' A', f_X3_endWithoutWinner 1000 (cs I J A M) = some ((), cs I' J A' M) ∧ CE I' (eEwn G e) := by
  obtain ⟨I', A', e1, f1⟩ := x_ewn_4 (J := J) (M := M) h hw (pt := e.1) (wn := e.2.1) (po := e.2.2.1) (lk := e.2.2.2.1) (wi := e.2.2.2.2) he 4 zN 0 0 A rfl (by decide) hc
  rw [Nat.zero_add] at f1
  exact ⟨I', A', e1, f1⟩
def eDraw (G : zG) (e : zPt) : zPt := if gCan G = true then e else eEwn G e
/-- draw, where it goes -/
theorem x_draw (h : CSH M) (hw : WF G) {I : Nat → Nat → Int32} {A : Nat → Nat → Int32} (hX : 1026 ≤ mX M) (hc : CR I J A G) (h0 : eS G 4 = 0) {e : zPt} (he : CE I e) {v : String ⊕ Int32} {M' : zM} (ex : f_X3_draw 1000 (cs I J A M) = some (v, M')) : CE (mI M') (eDraw G e) := by
  have hs := hc.1
  have hw0 := hw
  obtain ⟨w0, w1, w2, w3, w4, w5, w6, w7, -⟩ := hw
  have e1 := q_requirePhase (I := I) (J := J) (A := A) h hs w4 0 (by decide)
  have e' : f_X3_requirePhase 1000 0 (cs I J A M) = if eS G 4 = 0 then some (.inr (), cs I J A M) else some (.inl "java/lang/IllegalStateException", cs I J A (nE M)) := e1
  unfold f_X3_draw f_X3_draw_0 at ex
  rw [if_pos (show mK (cs I J A M) 1000 = 9 from h.1), e', if_pos h0] at ex
  have ex : (if mK (cs I J A M) 1000 = 9 then _ else none) = some (v, M') := ex
  rw [if_pos (show mK (cs I J A M) 1000 = 9 from h.1), q_canDraw h hs.2.2.2.2.2.2.2.1 (by omega) hs.2.2.1 hs.2.2.2.1 w2, Option.bind_some] at ex
  dsimp only at ex
  have ex : (if b32 (gCan G) = 0 then _ else _) = some (v, M') := ex
  unfold eDraw
  cases hg : gCan G with
  | true =>
    rw [hg, if_neg (show ¬ b32 true = 0 by decide)] at ex
    rw [if_pos rfl]
    refine he.eq fun k b hk hb => ?_
    have fq : KF (FQ (cs I J A M)) (some (v, M')) := by
      rw [← ex]
      refine KF.b fun v18 => ?_
      refine KF.i ?_ KF.n
      refine KF.c (kq_X3_kindAt (FQ.rf _)) fun r h1 => ?_
      refine KF.b fun v21 => ?_
      refine KF.w (fq_pI h1 rfl) fun M2 h2 => ?_
      refine KF.w (fq_pI h2 rfl) fun M3 h3 => ?_
      refine KF.i ?_ KF.n
      refine KF.c (kq_X3_receive h3) fun r h4 => ?_
      exact KF.s h4
    exact (fq _ rfl).2 k b hk (Nat.lt_of_lt_of_le hb hX)
  | false =>
    rw [hg, if_pos (show b32 false = 0 from rfl), if_pos (show mK (cs I J A M) 1000 = 9 from h.1)] at ex
    obtain ⟨I', A', e3, f3⟩ := x_endWithoutWinner h hw0 hc he
    rw [e3, Option.bind_some] at ex
    cases ex
    rw [if_neg (by decide)]
    exact f3
end XDRAW

/-! ===== PURE: points, wins, pot, lucky kind, winner: the class's call, lay, win ===== -/
def eCal (e : zPt) (t : Nat) : zPt := (u1 e.1 t (e.1 t - 10), e.2.1, e.2.2.1 + 10, e.2.2.2.1, e.2.2.2.2)
def flw (k : Nat) : Nat := if k < 18 then (if k % 9 = 8 then k - 8 else k + 1) else if k = 21 then 18 else if k = 24 then 22 else k + 1
def eLay (e : zPt) (k : Nat) : zPt := (e.1, e.2.1, e.2.2.1, nI (flw k), e.2.2.2.2)
theorem flw_lt {k : Nat} (h : k < 25) : flw k < 25 := by
  unfold flw
  repeat' split
  all_goals omega
/-- a win: who wins, whose turn it is, whether by oneself, the value -/
def eWin (e : zPt) (p t : Nat) (al : Bool) (x : Int32) : zPt := (fun q => if q = p then e.1 p + 12 * x + e.2.2.1 else if al = true then e.1 q - 4 * x else if q = t then e.1 q - 12 * x else e.1 q, u1 e.2.1 p (e.2.1 p + 1), 0, e.2.2.2.1, nI p)
theorem x_follower {k : Nat} (hk : k < 25) (M : zM) : f_X3_follower (nI k) M = some (nI (flw k), M) := by
  unfold f_X3_follower f_X3_follower_0 flw
  have em : zmd (nI k) 9 = nI (k % 9) := pk_rem (a := k) (d := 9) (by omega) (by decide) (by decide)
  by_cases y : k < 18
  · rw [if_neg (le_f (x := 18) 18 k (by omega) (by decide)), if_pos y, em]
    by_cases z : k % 9 = 8
    · have e8 : nI k - 8 = nI (k - 8) := pk_sub (a := k) (b := 8) (by omega)
      have e9 : nI k - 9 + 1 = nI (k - 8) := by
        rw [← e8]
        grind
      rw [if_pos (show nI (k % 9) = 8 by rw [z]; rfl), if_pos z, e9]
    · rw [if_neg (eq_f (y := 8) (k % 9) 8 z (by omega) (by decide)), if_neg z, nI_1]
  · rw [if_pos (le_t (x := 18) 18 k (by omega) (by omega)), if_neg y]
    by_cases y2 : 22 ≤ k
    · rw [if_pos (le_t (x := 22) 22 k y2 (by omega)), if_neg (show ¬ k = 21 by omega)]
      by_cases z : k = 24
      · rw [if_pos (show nI k = 24 by rw [z]; rfl), if_pos z]
        rfl
      · rw [if_neg (eq_f (y := 24) k 24 z (by omega) (by decide)), if_neg z, nI_1]
    · rw [if_neg (le_f (x := 22) 22 k (by omega) (by decide)), if_neg (show ¬ k = 24 by omega)]
      by_cases z : k = 21
      · rw [if_pos (show nI k = 21 by rw [z]; rfl), if_pos z]
        rfl
      · rw [if_neg (eq_f (y := 21) k 21 z (by omega) (by decide)), if_neg z, nI_1]
section XCALLC
variable {I : Nat → Nat → Int32} {J : Nat → Nat → Int64} {A : Nat → Nat → Int32} {M : zM} {G : zG}
theorem x_call (h : CSH M) (hw : WF G) (hv : WV G) (hz : WZ G) (hX : 1026 ≤ mX M) (hc : CR I J A G) {k : Nat} (hk : k < 25) (z : eS G 4 = 1) (hC : eC G (eS G 5) = false) (x : opN G (eS G 5) = 0) (u : eH G (eS G 5) k ≠ 0) (r : wts (eN G (eS G 5)) (u1 (eH G (eS G 5)) k (eH G (eS G 5) k - 1)) ≠ 0) {e : zPt} (he : CE I e) : ∃ I' J' A', f_X3_call 1000 (nI k) (cs I J A M) = some (.inr (e.1 (eS G 5) - 10), cs I' J' A' M) ∧ CR I' J' A' (gRiv (gCal G (eS G 5)) k) ∧ CE I' (eCal e (eS G 5)) := by
  unfold f_X3_call f_X3_call_0
  have hs := hc.1
  have hw' := hw
  obtain ⟨w0, w1, w2, w3, w4, ht, w6, w7, w8, w9, w10⟩ := hw'
  obtain ⟨c1, c2, c3, c4, c5, c6, c7⟩ := hc.2 _ ht
  have hse := h.2.2.2.2.2.2.2.1 _ ht
  have v1 := (w10 _ ht).1
  have vN := (w10 _ ht).2.1
  have v1k := v1 k hk
  obtain ⟨w', e3⟩ := q_readyWithout (J := J) (A := A) h ht c1 (fun j hj => by have := v1 j hj; omega) (by have := hz _ ht; omega) c2 vN hk u
  have hc3 : CR I J (ur A 1003 w') G := hc.own (own_ur A w' (Or.inl ⟨by decide, by decide⟩))
  rw [q_requireKind_ok hk]
  show ∃ I' J' A', (if mK (cs I J A M) 1000 = 9 then _ else none) = _ ∧ _
  rw [if_pos (show mK (cs I J A M) 1000 = 9 from h.1), q_phase1 h hw hc, if_pos z]
  show ∃ I' J' A', (if mK (cs I J A M) 1000 = 9 then _ else none) = _ ∧ _
  rw [if_pos (show mK (cs I J A M) 1000 = 9 from h.1), q_seatInTurn h ht hs.2.2.2.2.2.1, Option.bind_some, gI_cs 230 hse.1, Option.bind_some, c7, hC, if_pos (show b32 false = 0 from rfl), if_pos (show mK (cs I J A M) (1010 + 4 * eS G 5) = 7 from hse.1), q_open h hv hw hc ht, Option.bind_some]
  dsimp only
  rw [x, if_neg (show ¬ (0 : Int32) < nI 0 by decide), if_pos (show mK (cs I J A M) (1010 + 4 * eS G 5) = 7 from hse.1), q_count hse hk, Option.bind_some, c1 k hk]
  dsimp only
  rw [if_neg (eq_f (y := 0) (eH G (eS G 5) k) 0 u (by omega) (by decide)), if_pos (show mK (cs I J A M) 1000 = 9 from h.1), e3, Option.bind_some]
  dsimp only
  rw [decide_eq_true r, if_neg (show ¬ b32 true = 0 by decide), gI_cs 231 hse.1, Option.bind_some, pI_cs 231 hse.1, Option.bind_some, gI_cs 299 h.1, Option.bind_some, pI_cs 299 h.1, Option.bind_some, pZ_cs 230 hse.1 (Or.inr rfl), Option.bind_some, if_pos (show mK (cs _ J _ M) 1000 = 9 from h.1)]
  have hcf : ∀ a b, CR (u2 (u2 I 231 (1010 + 4 * eS G 5) a) 299 1000 b) J (ur A 1003 w') G := fun a b => hc3.free (fun c d => by
    by_cases y1 : c = 231
    · exact Or.inl (Or.inl y1)
    · by_cases y2 : c = 299
      · exact Or.inl (Or.inr (Or.inr (by omega)))
      · exact Or.inr ((if_neg (fun q => y2 q.1)).trans (if_neg (fun q => y1 q.1))))
  have e231 := (he.1 _ ht).1
  have e299 : u2 I 231 (1010 + 4 * eS G 5) (I 231 (1010 + 4 * eS G 5) - 10) 299 1000 = e.2.2.1 := (if_neg (fun q => by have := q.1; omega)).trans he.2.1
  have he2 : CE (u2 (u2 (u2 I 231 (1010 + 4 * eS G 5) (I 231 (1010 + 4 * eS G 5) - 10)) 299 1000 (u2 I 231 (1010 + 4 * eS G 5) (I 231 (1010 + 4 * eS G 5) - 10) 299 1000 + 10)) 230 (1010 + 4 * eS G 5) 1) (eCal e (eS G 5)) := by
    rw [e299, e231]
    exact (((show CE I (e.1, e.2.1, e.2.2.1, e.2.2.2.1, e.2.2.2.2) from he).ptU _).poU _).ot 1 rfl
  obtain ⟨I', J', A', e1, e2, -, -⟩ := q_layIntoRiver (G := gCal G (eS G 5)) h hw ((hcf _ _).cal (eS G 5)) hk u
  have he3 := he2.fq hX (kq_X3_layIntoRiver (FQ.rf _)) e1
  refine ⟨I', J', A', (congrArg (fun q => Option.bind q _) e1).trans ?_, e2, he3⟩
  show (gI 7 7 (cs I' J' A' M) (1010 + 4 * eS G 5)).bind _ = _
  rw [gI_cs 231 hse.1, Option.bind_some, (he3.1 _ ht).1]
  show some (Sum.inr (u1 e.1 (eS G 5) (e.1 (eS G 5) - 10) (eS G 5)), _) = _
  rw [u1_at]
theorem x_lay_64 (h : CSH M) (hX : 1026 ≤ mX M) : ∀ (d n p : Nat) (I : Nat → Nat → Int32) (J : Nat → Nat → Int64) (A : Nat → Nat → Int32) (G : zG) (e : zPt), eS G 0 < 100 → eS G 1 < 100 → p + d = 4 → d < n → CR I J A G → CE I e → ∃ I' J' A', f_X3_lay_64 n 1000 (nI p) (cs I J A M) = some (.inr (nI (eS G 6) - 1), cs I' J' A' M) ∧ CE I' (eLay e (gK G 95)) := by
  intro d
  induction d with
  | zero =>
    intro n p I J A G e w0 w1 hi hn hc he
    obtain ⟨n, rfl⟩ : ∃ m, n = m + 1 := ⟨n - 1, by omega⟩
    have hs := hc.1
    have e2 : f_X3_kindAt 1000 95 (cs I J A M) = some (nI (gK G 95), cs I J A M) := q_kindAt h hs.1 hs.2.1 w0 w1 (t := 95) (by omega)
    have e3 := x_follower (gK_lt G 95) (cs I J A M)
    rw [f_X3_lay_64, if_pos (le_t (x := 4) 4 p (by omega) (by omega)), if_pos (show mK (cs I J A M) 1000 = 9 from h.1), e2, Option.bind_some, e3, Option.bind_some, pI_cs 300 h.1, Option.bind_some, gI_cs 297 h.1, Option.bind_some]
    dsimp only
    refine ⟨u2 I 300 1000 (nI (flw (gK G 95))), J, A, ?_, (show CE I (e.1, e.2.1, e.2.2.1, e.2.2.2.1, e.2.2.2.2) from he).lkU _⟩
    have e4 : I 297 1000 = nI (eS G 6) - 1 := by
      rw [← hs.2.2.2.2.2.2.1]
      grind
    have e5 : u2 I 300 1000 (nI (flw (gK G 95))) 297 1000 = I 297 1000 := if_neg (fun q => by have := q.1; omega)
    rw [e5, e4]
  | succ d ih =>
    intro n p I J A G e w0 w1 hi hn hc he
    obtain ⟨n, rfl⟩ : ∃ m, n = m + 1 := ⟨n - 1, by omega⟩
    obtain ⟨I1, J1, A1, e1, f1⟩ := q_dealTo h (show p < 4 by omega) w0 w1 hc
    have eS1 : eS (gDeal p 10 0 (gClr G p)) = eS G := (gDeal_S p 10 0 _).trans rfl
    have he1 := he.fq hX (kq_X3_dealTo (FQ.rf _)) e1
    have eg : gK (gDeal p 10 0 (gClr G p)) 95 = gK G 95 := by
      unfold gK
      rw [eS1]
    rw [f_X3_lay_64, if_neg (le_f (x := 4) 4 p (by omega) (by decide)), if_pos (show mK (cs I J A M) 1000 = 9 from h.1), e1, Option.bind_some, nI_1]
    obtain ⟨I2, J2, A2, e2, f2⟩ := ih n (p + 1) I1 J1 A1 _ e (by rw [eS1]; exact w0) (by rw [eS1]; exact w1) (by omega) (by omega) f1 he1
    rw [eS1] at e2
    rw [eg] at f2
    exact ⟨I2, J2, A2, e2, f2⟩
/-- lay, where it goes -/
theorem x_lay (h : CSH M) (hw : WF G) (hX : 1026 ≤ mX M) (hc : CR I J A G) {st sh : Nat} (n1 : st ≠ 0) (n2 : st < 100) (n3 : st % 2 ≠ 0) (n4 : st % 5 ≠ 0) (n5 : sh < 100) (z : eS G 4 = 3) {e : zPt} (he : CE I e) {v : String ⊕ Int32} {M' : zM} (ex : f_X3_lay 1000 (nI st) (nI sh) (cs I J A M) = some (v, M')) : CE (mI M') (eLay e (gK (gBeg G st sh) 95)) := by
  have m2 : zmd (nI st) 2 = nI (st % 2) := pk_rem (a := st) (d := 2) (by omega) (by decide) (by decide)
  have m5 : zmd (nI st) 5 = nI (st % 5) := pk_rem (a := st) (d := 5) (by omega) (by decide) (by decide)
  have w4 := hw.2.2.2.2.1
  have e1 := q_requirePhase (I := I) (J := J) (A := A) h hc.1 w4 3 (by decide)
  have e' : f_X3_requirePhase 1000 3 (cs I J A M) = if eS G 4 = 3 then some (.inr (), cs I J A M) else some (.inl "java/lang/IllegalStateException", cs I J A (nE M)) := e1
  unfold f_X3_lay f_X3_lay_0 at ex
  rw [m2, m5, if_neg (lt_f (y := 1) st 1 (by omega) (by omega)), if_neg (le_f (x := 100) 100 st (by omega) (by decide)), if_neg (eq_f (y := 0) (st % 2) 0 n3 (by omega) (by decide)), if_neg (eq_f (y := 0) (st % 5) 0 n4 (by omega) (by decide)), if_neg (nI_nn (by omega)), if_pos (lt_t (y := 100) sh 100 n5 (by decide)), if_pos (show mK (cs I J A M) 1000 = 9 from h.1), e', if_pos z] at ex
  have ex : (pI 9 3 (cs I J A M) 1000 (nI st)).bind _ = some (v, M') := ex
  rw [pI_cs 291 h.1, Option.bind_some, pI_cs 292 h.1, Option.bind_some, if_pos (show mK (cs _ J A M) 1000 = 9 from h.1)] at ex
  obtain ⟨I1, e2, f2⟩ := q_beginRound h hw hc (st := st) (sh := sh)
  have he1 : CE (u2 (u2 I 291 1000 (nI st)) 292 1000 (nI sh)) e := (he.ot _ rfl).ot _ rfl
  have he2 := he1.fq hX (kq_X3_beginRound (FQ.rf _)) e2
  obtain ⟨I2, J2, A2, e3, f3⟩ := x_lay_64 h hX 4 zN 0 I1 J A (gBeg G st sh) e (show st < 100 from n2) (show sh < 100 from n5) rfl (by decide) f2 he2
  have e3' : f_X3_lay_64 zN 1000 0 (cs I1 J A M) = some (.inr (nI (eS (gBeg G st sh) 6) - 1), cs I2 J2 A2 M) := e3
  rw [e2, Option.bind_some] at ex
  dsimp only at ex
  rw [e3'] at ex
  cases ex
  exact f3
end XCALLC
section XWINC
variable {I : Nat → Nat → Int32} {J : Nat → Nat → Int64} {A : Nat → Nat → Int32} {M : zM} {G : zG}
theorem x_pay92 (h : CSH M) {p : Nat} (hp : p < 4) {pt wn : Nat → Int32} {po lk wi : Int32} (he : CE I (pt, wn, po, lk, wi)) : ∃ I', f_X3_payWin_92 1000 (nI p) (cs I J A M) = some ((), cs I' J A M) ∧ CE I' (u1 pt p (pt p + po), wn, 0, lk, wi) ∧ PF I I' := by
  have hsp := h.2.2.2.2.2.2.2.1 _ hp
  unfold f_X3_payWin_92
  rw [gR_cs 288 h.1 h.2.1, Option.bind_some, h.seat hp, Option.bind_some, gI_cs 231 hsp.1, Option.bind_some, gI_cs 299 h.1, Option.bind_some, pI_cs 231 hsp.1, Option.bind_some, pI_cs 299 h.1, Option.bind_some, (he.1 p hp).1, show I 299 1000 = po from he.2.1]
  exact ⟨_, rfl, (he.ptU _).poU 0, ((PF.rfl' I).put (Or.inl rfl) _ _).put (Or.inr (Or.inr (by omega))) _ _⟩
theorem PF.tr' {I I1 I2 : Nat → Nat → Int32} (h : PF I I1) (g : PF I1 I2) : PF I I2 := fun k b => (g k b).elim Or.inl fun z => (h k b).imp id fun w => z.trans w
theorem x_pay7 (h : CSH M) {p : Nat} (hp : p < 4) (x : Int32) {wn : Nat → Int32} {po lk wi : Int32} : ∀ (d n i : Nat) (pt : Nat → Int32) (I : Nat → Nat → Int32), i + d = 4 → d < n → CE I (pt, wn, po, lk, wi) → ∃ I', f_X3_payWin_7 n 1000 (nI p) x (nI i) (cs I J A M) = some ((), cs I' J A M) ∧ CE I' (fun q => if q = p then (if i ≤ p then pt p - 4 * x else pt p) + 16 * x + po else if i ≤ q then pt q - 4 * x else pt q, wn, 0, lk, wi) ∧ PF I I' := by
  have hsp := h.2.2.2.2.2.2.2.1 _ hp
  intro d
  induction d with
  | zero =>
    intro n i pt I hi hn he
    obtain ⟨n, rfl⟩ : ∃ m, n = m + 1 := ⟨n - 1, by omega⟩
    have e231 := (he.1 p hp).1
    rw [f_X3_payWin_7, if_pos (le_t (x := 4) 4 i (by omega) (by omega)), gR_cs 288 h.1 h.2.1, Option.bind_some, h.seat hp, Option.bind_some, gI_cs 231 hsp.1, Option.bind_some, pI_cs 231 hsp.1, Option.bind_some, e231]
    obtain ⟨I', e1, e2, e3⟩ := x_pay92 (J := J) (A := A) h hp (he.ptU (p := p) (pt p + 16 * x))
    refine ⟨I', e1, e2.cg fun q hq => ?_, ((PF.rfl' I).put (Or.inl rfl) _ _).tr' e3⟩
    by_cases y : q = p
    · subst y
      rw [u1_at, u1_at, if_pos rfl, if_neg (by omega)]
    · rw [u1_ne _ _ y, u1_ne _ _ y, if_neg y, if_neg (by omega)]
  | succ d ih =>
    intro n i pt I hi hn he
    obtain ⟨n, rfl⟩ : ∃ m, n = m + 1 := ⟨n - 1, by omega⟩
    have hi4 : i < 4 := by omega
    have hsi := h.2.2.2.2.2.2.2.1 _ hi4
    have e231 := (he.1 i hi4).1
    rw [f_X3_payWin_7, if_neg (le_f (x := 4) 4 i (by omega) (by decide)), gR_cs 288 h.1 h.2.1, Option.bind_some, h.seat hi4, Option.bind_some, gI_cs 231 hsi.1, Option.bind_some, pI_cs 231 hsi.1, Option.bind_some, nI_1, e231]
    obtain ⟨I', e1, e2, e3⟩ := ih n (i + 1) (u1 pt i (pt i - 4 * x)) _ (by omega) (by omega) (he.ptU (p := i) (pt i - 4 * x))
    refine ⟨I', e1, e2.cg fun q hq => ?_, ((PF.rfl' I).put (Or.inl rfl) _ _).tr' e3⟩
    by_cases y : q = p
    · rw [if_pos y, if_pos y]
      by_cases w : p = i
      · rw [← w, u1_at, if_neg (by omega), if_pos (Nat.le_refl _)]
      · rw [u1_ne _ _ w]
        by_cases z : i + 1 ≤ p
        · rw [if_pos z, if_pos (by omega)]
        · rw [if_neg z, if_neg (by omega)]
    · rw [if_neg y, if_neg y]
      by_cases w : q = i
      · rw [w, u1_at, if_neg (by omega), if_pos (Nat.le_refl _)]
      · rw [u1_ne _ _ w]
        by_cases z : i + 1 ≤ q
        · rw [if_pos z, if_pos (by omega)]
        · rw [if_neg z, if_neg (by omega)]
theorem x_payWin (h : CSH M) {t p : Nat} (ht : t < 4) (hst : I 296 1000 = nI t) (hp : p < 4) (al : Bool) (hpt : al = false → p ≠ t) (x : Int32) {e : zPt} (he : CE I e) : ∃ I', f_X3_payWin 1000 (nI p) (b32 al) x (cs I J A M) = some ((), cs I' J A M) ∧ CE I' ((eWin e p t al x).1, e.2.1, 0, e.2.2.2.1, e.2.2.2.2) ∧ PF I I' := by
  have hse := h.2.2.2.2.2.2.2.1 _ ht
  have hsp := h.2.2.2.2.2.2.2.1 _ hp
  have he' : CE I (e.1, e.2.1, e.2.2.1, e.2.2.2.1, e.2.2.2.2) := he
  unfold f_X3_payWin f_X3_payWin_0
  cases al with
  | false =>
    have hne := hpt rfl
    have e1 := (he.1 t ht).1
    have e2 : u2 I 231 (1010 + 4 * t) (e.1 t - 12 * x) 231 (1010 + 4 * p) = e.1 p := (if_neg (fun z => hne (by have := z.2; omega))).trans (he.1 p hp).1
    rw [if_pos (show b32 false = 0 from rfl), if_pos (show mK (cs I J A M) 1000 = 9 from h.1), q_seatInTurn h ht hst, Option.bind_some, gI_cs 231 hse.1, Option.bind_some, pI_cs 231 hse.1, Option.bind_some, gR_cs 288 h.1 h.2.1, Option.bind_some, h.seat hp, Option.bind_some, gI_cs 231 hsp.1, Option.bind_some, pI_cs 231 hsp.1, Option.bind_some, e1, e2]
    obtain ⟨I', e3, e4, e5⟩ := x_pay92 (J := J) (A := A) h hp ((he'.ptU (p := t) (e.1 t - 12 * x)).ptU (p := p) (e.1 p + 12 * x))
    refine ⟨I', e3, e4.cg fun q hq => ?_, (((PF.rfl' I).put (Or.inl rfl) _ _).put (Or.inl rfl) _ _).tr' e5⟩
    show _ = if q = p then _ else if false = true then _ else if q = t then _ else _
    by_cases y : q = p
    · subst y
      rw [u1_at, u1_at, if_pos rfl]
    · rw [u1_ne _ _ y, u1_ne _ _ y, if_neg y, if_neg (by decide)]
      by_cases w : q = t
      · rw [w, u1_at, if_pos rfl]
      · rw [u1_ne _ _ w, if_neg w]
  | true =>
    rw [if_neg (show ¬ b32 true = 0 by decide)]
    obtain ⟨I', e3, e4, e5⟩ := x_pay7 (J := J) (A := A) (M := M) h hp x 4 zN 0 e.1 I rfl (by decide) he'
    refine ⟨I', e3, e4.cg fun q hq => ?_, e5⟩
    show _ = if q = p then _ else if true = true then _ else _
    by_cases y : q = p
    · rw [if_pos y, if_pos y, if_pos (Nat.zero_le _)]
      grind
    · rw [if_neg y, if_neg y, if_pos (Nat.zero_le _), if_pos rfl]
/-- the class's wind -/
theorem x_windOf (h : CSH M) {D p : Nat} (hD : I 297 1000 = nI D) (hD4 : D < 4) (hp : p < 4) : f_X3_windOf 1000 (nI p) (cs I J A M) = some (nI ((p + 4 - D) % 4), cs I J A M) := by
  have key : ∀ p, p < 4 → ∀ D, D < 4 → zmd (nI p - nI D + 4) 4 = nI ((p + 4 - D) % 4) := by decide
  unfold f_X3_windOf f_X3_windOf_0
  have ne : ¬ nI D = -1 := fun z => by
    have e2 : nI D < 0 := by rw [z]; decide
    exact nI_nn (by omega) e2
  rw [gI_cs 297 h.1, Option.bind_some, hD, if_neg ne, Option.bind_some, key p hp D hD4]
theorem x_win_74 (h : CSH M) (ht : eS G 5 < 4) (hc : CR I J A G) {p : Nat} (hp : p < 4) (hN3 : eN G p ≤ 3) (hv4 : ∀ j, j < eN G p → eV G p j < 400) (hH : ∀ k, k < 25 → eH G p k < 1000) (al : Bool) (hpt : al = false → p ≠ eS G 5) {D lk : Nat} (hD : I 297 1000 = nI D) (hD4 : D < 4) (hlk : lk < 25) {e : zPt} (he : CE I e) (helk : e.2.2.2.1 = nI lk) : ∃ I' A', f_X3_win_74 1000 (nI p) (b32 al) (1010 + 4 * p) (cs I J A M) = some (.inr (nI (min (vsum al (eC G p) (opN G p) lk ((p + 4 - D) % 4) (alk (eH G p) (eV G p) (eN G p)) (wrc (eH G p) (eV G p) (eN G p) 0 0 25)) 12)), cs I' J A' M) ∧ CE I' (eWin e p (eS G 5) al (nI (min (vsum al (eC G p) (opN G p) lk ((p + 4 - D) % 4) (alk (eH G p) (eV G p) (eN G p)) (wrc (eH G p) (eV G p) (eN G p) 0 0 25)) 12))) := by
  have hsp := h.2.2.2.2.2.2.2.1 _ hp
  obtain ⟨d1, d2, d3, d4, d5, d6, d7⟩ := hc.2 _ hp
  have hva : VA M 1008 1009 := h.2.2.2.2.2.2.1
  have e1 := x_windOf (I := I) (J := J) (A := A) h hD hD4 hp
  have hwd : (p + 4 - D) % 4 < 4 := Nat.mod_lt _ (by decide)
  obtain ⟨w', e2⟩ := x_value (J := J) (A := A) hva hsp ⟨by omega, by omega⟩ d2 hN3 d1 hH d3 hv4 d7 al hlk hwd
  have hc2 := hc.own (own_ur A w' (q := 1009) (Or.inr rfl))
  obtain ⟨I2, e3, f3, f4⟩ := x_payWin (J := J) (A := ur A 1009 w') h ht hc.1.2.2.2.2.2.1 hp al hpt (nI (min (vsum al (eC G p) (opN G p) lk ((p + 4 - D) % 4) (alk (eH G p) (eV G p) (eN G p)) (wrc (eH G p) (eV G p) (eN G p) 0 0 25)) 12)) he
  have e300 : I 300 1000 = nI lk := he.2.2.1.trans helk
  have e2' : f_X2_value 1008 (1010 + 4 * p) (b32 al) (nI lk) (nI ((p + 4 - D) % 4)) (cs I J A M) = some (nI (min (vsum al (eC G p) (opN G p) lk ((p + 4 - D) % 4) (alk (eH G p) (eV G p) (eN G p)) (wrc (eH G p) (eV G p) (eN G p) 0 0 25)) 12), cs I J (ur A 1009 w') M) := e2
  generalize nI (min (vsum al (eC G p) (opN G p) lk ((p + 4 - D) % 4) (alk (eH G p) (eV G p) (eN G p)) (wrc (eH G p) (eV G p) (eN G p) 0 0 25)) 12) = z at *
  unfold f_X3_win_74
  rw [gR_cs 290 h.1 h.2.2.2.1, Option.bind_some, gI_cs 300 h.1, Option.bind_some, if_pos (show mK (cs I J A M) 1000 = 9 from h.1), e1, Option.bind_some, if_pos (show mK (cs I J A M) 1008 = 8 from hva.1), e300, e2', Option.bind_some, if_pos (show mK (cs I J _ M) 1000 = 9 from h.1), e3, Option.bind_some, gI_cs 232 hsp.1, Option.bind_some, pI_cs 232 hsp.1, Option.bind_some, pI_cs 301 h.1, Option.bind_some, pI_cs 295 h.1, Option.bind_some]
  have e232 : I2 232 (1010 + 4 * p) = e.2.1 p := (f3.1 p hp).2
  rw [e232]
  exact ⟨_, _, rfl, ((f3.wnU (p := p) (e.2.1 p + 1)).wiU (nI p)).ot 3 rfl⟩
end XWINC

/-! ===== THE GAME: which sets lie; what is waited for; the value of a win ===== -/
/-- the sets that lie are such as can lie -/
def W9 (G : zG) : Prop := ∀ p, p < 4 → VOK (eV G p) (eN G p)
section W9S
variable {G : zG}
theorem W9.of {G' : zG} (h : W9 G) (hN : eN G' = eN G) (hV : eV G' = eV G) : W9 G' := fun p hp => by
  rw [hN, hV]
  exact h p hp
theorem W9.set (h : W9 G) {p f l : Nat} (hf : f < 4) (hl : l < 25) (h1 : f = 1 → l + 2 < 18) : W9 (gSet G p f l) := fun c hc j hj => by
  have hN : eN (gSet G p f l) c = u1 (eN G) p (eN G p + 1) c := rfl
  have hV : eV (gSet G p f l) c j = u2 (eV G) p (eN G p) (100 * f + l) c j := rfl
  rw [hN] at hj
  rw [hV]
  by_cases y : c = p ∧ j = eN G p
  · have e : u2 (eV G) p (eN G p) (100 * f + l) c j = 100 * f + l := if_pos y
    rw [e]
    exact ⟨by omega, fun z => by have := h1 (by omega); omega⟩
  · have e : u2 (eV G) p (eN G p) (100 * f + l) c j = eV G c j := if_neg y
    rw [e]
    refine h c hc j ?_
    by_cases z : c = p
    · rw [z, u1_at] at hj
      rw [z]
      by_cases w : j = eN G p
      · exact absurd ⟨z, w⟩ y
      · omega
    · rw [u1_ne _ _ z] at hj
      exact hj
theorem W9.draw (h : W9 G) : W9 (gDraw G) := by
  unfold gDraw
  split
  · exact h.of rfl rfl
  · exact h.of rfl rfl
theorem W9.df (h : W9 G) : W9 (gDF G) := h.of rfl rfl
theorem W9.clm (h : W9 G) {p w : Nat} {i : Int32} (hw2 : w ≤ 2) (hl : lst G < 25) (hm : oMay G p w i = true) : W9 (gClm G p w i) := by
  obtain ⟨l, l1, l2, l3, l4, -⟩ := may_le hm hw2 hl
  have row : w = 1 → l + 2 < 18 := fun y => by
    have hc := (oMay_w hm).2.2.2.1 y
    have e := l3 y
    subst e
    unfold crow at hc
    rw [if_neg (nI_nn (by omega)), nI_cl (by omega)] at hc
    by_cases z : rw_ l = true ∧ l ≤ lst G ∧ lst G ≤ l + 2
    · have h1 := rw_lt z.1
      have h2 := rw_9 z.1
      omega
    · rw [if_neg z] at hc
      cases hc
  have h1 : W9 (gLv G p) := h.of rfl rfl
  have h2 := h1.set (p := p) (f := w) (l := l) (by omega) l1 row
  unfold gClm
  rw [← l2]
  split
  · exact h2.df
  · exact h2
theorem W9.win (h : W9 G) (p : Nat) : W9 (gWin G p) := by
  unfold gWin
  split
  · exact h.of rfl rfl
  · exact h.of rfl rfl
theorem gAll_N0 : ∀ (d p : Nat) (G : zG) (c : Nat), (p ≤ c ∧ c < p + d ∨ eN G c = 0) → eN (gAll d p G) c = 0 := by
  intro d
  induction d with
  | zero =>
    intro p G c h
    rcases h with h | h
    · omega
    · exact h
  | succ d ih =>
    intro p G c h
    have e : gAll (d + 1) p G = gAll d (p + 1) (gDeal p 10 0 (gClr G p)) := rfl
    rw [e]
    refine ih (p + 1) _ c ?_
    have hN := (gDeal_NM p 10 0 (gClr G p)).1
    by_cases y : c = p
    · refine Or.inr ?_
      rw [hN]
      show u1 (eN G) p 0 c = 0
      rw [y, u1_at]
    · rcases h with h | h
      · exact Or.inl (by omega)
      · refine Or.inr ?_
        rw [hN]
        show u1 (eN G) p 0 c = 0
        rw [u1_ne _ _ y]
        exact h
theorem W9.lay (st sh : Nat) : W9 (gLay G st sh) := fun p hp j hj => by
  have e : eN (gLay G st sh) p = 0 := gAll_N0 4 0 (gBeg G st sh) p (Or.inl (by omega))
  rw [e] at hj
  exact absurd hj (Nat.not_lt_zero _)
/-- counts, with what lies -/
theorem alk_tt (h : WX G) (h7 : eS G 7 ≠ 0) {p k : Nat} (hp : p < 4) (hk : k < 25) : alk (eH G p) (eV G p) (eN G p) k ≤ 4 := by
  have t := h.tt h7 hk
  unfold TT at t
  have := sn_ge (pc G k) p 4 0 (Nat.zero_le _) (by omega)
  have e : pc G k p = eH G p k + (lys (eV G p) (eN G p) k + sn (fun j => if eR G p j = k then 1 else 0) 0 (eM G p)) := rfl
  unfold alk
  omega
end W9S
/-! bits of what is waited for -/
theorem bt_key : ∀ i, i < 25 → ∀ k, k < 25 → ((((1 : Int64) <<< ((nI i).toInt64 &&& 63)) >>> ((nI k).toInt64 &&& 63)) &&& 1) = if i = k then 1 else 0 := by decide +kernel
theorem bt_or (a b c : Int64) : ((a ||| b) >>> c) &&& 1 = ((a >>> c) &&& 1) ||| ((b >>> c) &&& 1) := by
  rw [Int64.shiftRight_or, ← Int64.toBitVec_inj, Int64.toBitVec_and, Int64.toBitVec_or, Int64.toBitVec_or, Int64.toBitVec_and, Int64.toBitVec_and, BitVec.and_or_distrib_right]
def btk (x : Int64) (k : Nat) : Int64 := (x >>> ((nI k).toInt64 &&& 63)) &&& 1
theorem bt_wt {k : Nat} (hk : k < 25) (g : Nat → Nat) : ∀ (d i : Nat) (acc : Int64), i + d = 25 → btk (wt d i g acc) k = btk acc k ||| (if i ≤ k ∧ cmp 25 0 (u1 g k (g k + 1)) = true then 1 else 0) := by
  intro d
  induction d with
  | zero =>
    intro i acc hi
    rw [wt, if_neg (by omega), Int64.or_zero]
  | succ d ih =>
    intro i acc hi
    rw [wt, ih (i + 1) _ (by omega)]
    by_cases c : cmp 25 0 (u1 g i (g i + 1)) = true
    · have e : btk (acc ||| ((1 : Int64) <<< ((nI i).toInt64 &&& 63))) k = btk acc k ||| (if i = k then 1 else 0) := by
        unfold btk
        rw [bt_or, bt_key i (by omega) k hk]
      rw [if_pos c, e, Int64.or_assoc]
      by_cases y : i = k
      · subst y
        rw [if_pos rfl, if_neg (by omega), if_pos ⟨Nat.le_refl _, c⟩, Int64.or_zero]
      · rw [if_neg y, Int64.zero_or]
        by_cases z : i + 1 ≤ k ∧ cmp 25 0 (u1 g k (g k + 1)) = true
        · rw [if_pos z, if_pos ⟨by omega, z.2⟩]
        · rw [if_neg z, if_neg (fun q => z ⟨by omega, q.2⟩)]
    · rw [if_neg c]
      by_cases z : i + 1 ≤ k ∧ cmp 25 0 (u1 g k (g k + 1)) = true
      · rw [if_pos z, if_pos ⟨by omega, z.2⟩]
      · rw [if_neg z, if_neg (fun q => z ⟨by
          by_cases y : i = k
          · subst y; exact absurd q.2 c
          · omega, q.2⟩)]
theorem bt_wts {k : Nat} (hk : k < 25) (N : Nat) (g : Nat → Nat) : btk (wts N g) k = if sn g 0 25 + 3 * N = 10 ∧ cmp 25 0 (u1 g k (g k + 1)) = true then 1 else 0 := by
  have b0 : btk 0 k = 0 := by
    have key : ∀ k, k < 25 → btk 0 k = 0 := by decide +kernel
    exact key k hk
  unfold wts
  by_cases y : sn g 0 25 + 3 * N = 10
  · rw [if_pos y, bt_wt hk g 25 0 0 rfl, b0, Int64.zero_or]
    by_cases z : cmp 25 0 (u1 g k (g k + 1)) = true
    · rw [if_pos ⟨Nat.zero_le _, z⟩, if_pos ⟨y, z⟩]
    · rw [if_neg (fun q => z q.2), if_neg (fun q => z q.2)]
  · rw [if_neg y, b0, if_neg (fun q => y q.1)]
/-- the game with the tile that won -/
def gWt (G : zG) (p : Nat) : zG := if eS G 4 = 1 then G else gTk G p
theorem gWt_e (G : zG) (p : Nat) : eV (gWt G p) = eV G ∧ eN (gWt G p) = eN G ∧ eC (gWt G p) = eC G ∧ eS (gWt G p) = eS G := by
  unfold gWt
  split
  · exact ⟨rfl, rfl, rfl, rfl⟩
  · exact ⟨rfl, rfl, rfl, rfl⟩
theorem alk_u1 (g v : Nat → Nat) (N t : Nat) (k : Nat) : alk (u1 g t (g t + 1)) v N k = alk g v N k + (if k = t then 1 else 0) := by
  unfold alk
  by_cases y : k = t
  · subst y
    rw [u1_at, if_pos rfl]
    omega
  · rw [u1_ne _ _ y, if_neg y]
    rfl
theorem gTk_H (G : zG) (p : Nat) : eH (gTk G p) p = u1 (eH G p) (lst G) (eH G p (lst G) + 1) := by
  funext j
  show u2 (eH G) p (lst G) (eH G p (lst G) + 1) p j = _
  unfold u2 u1
  by_cases z : j = lst G
  · rw [if_pos ⟨rfl, z⟩, if_pos z]
  · rw [if_neg (fun q => z q.2), if_neg z]
theorem win_ok {G : zG} (hx : WX G) {p : Nat} (hp : p < 4) (hw : wOk G p = true) : cmp 25 0 (eH (gWt G p) p) = true ∧ sn (eH (gWt G p) p) 0 25 + 3 * eN G p = 11 ∧ (∀ k, k < 25 → alk (eH (gWt G p) p) (eV G p) (eN G p) k ≤ 5) := by
  unfold wOk at hw
  by_cases y : eS G 4 = 1
  · have h7 : eS G 7 ≠ 0 := hx.2.2.2.2.2.2.2.2.2 (by omega)
    rw [if_pos y] at hw
    unfold oAlone at hw
    rw [Bool.and_eq_true] at hw
    obtain ⟨a, b⟩ := hw
    obtain ⟨-, -, a⟩ := of_decide_eq_true a
    unfold gWt
    rw [if_pos y]
    exact ⟨b, a, fun k hk => Nat.le_succ_of_le (alk_tt hx h7 hp hk)⟩
  · rw [if_neg y] at hw
    unfold oByDis at hw
    rw [Bool.and_eq_true] at hw
    obtain ⟨a, b⟩ := hw
    obtain ⟨a, -⟩ := of_decide_eq_true a
    have h7 : eS G 7 ≠ 0 := hx.2.2.2.2.2.2.2.2.2 (by omega)
    have hl := hx.ls a
    unfold gBit at b
    obtain ⟨b, -⟩ := of_decide_eq_true b
    have b' : btk (wts (eN G p) (eH G p)) (lst G) = 1 := b
    rw [bt_wts hl] at b'
    have c : sn (eH G p) 0 25 + 3 * eN G p = 10 ∧ cmp 25 0 (u1 (eH G p) (lst G) (eH G p (lst G) + 1)) = true := by
      by_cases z : sn (eH G p) 0 25 + 3 * eN G p = 10 ∧ cmp 25 0 (u1 (eH G p) (lst G) (eH G p (lst G) + 1)) = true
      · exact z
      · rw [if_neg z] at b'
        exact absurd b' (by decide)
    have hs := sn_u1 (eH G p) (lst G) (eH G p (lst G) + 1) 25 0 (Nat.zero_le _) (by omega)
    unfold gWt
    rw [if_neg y, gTk_H]
    refine ⟨c.2, by omega, fun k hk => ?_⟩
    have := alk_tt hx h7 hp hk
    rw [alk_u1]
    split <;> omega
/-- the value of a win -/
noncomputable def VLG (al : Bool) (G : zG) (p lk D : Nat) : Nat := min (vsum al (eC G p) (opN G p) lk ((p + 4 - D) % 4) (alk (eH G p) (eV G p) (eN G p)) (wrc (eH G p) (eV G p) (eN G p) 0 0 25)) 12
section XWIN2
variable {I : Nat → Nat → Int32} {J : Nat → Nat → Int64} {A : Nat → Nat → Int32} {M : zM} {G : zG}
theorem x_winC (h : CSH M) (hx : WX G) (hw : WF G) (hc : CR I J A G) {p : Nat} (hp : p < 4) (ho : wOk G p = true) {D lk : Nat} (hD : I 297 1000 = nI D) (hD4 : D < 4) (hlk : lk < 25) {e : zPt} (he : CE I e) (helk : e.2.2.2.1 = nI lk) : ∃ I' A', f_X3_win 1000 (nI p) (cs I J A M) = some (.inr (nI (VLG (decide (eS G 4 = 1)) (gWt G p) p lk D)), cs I' J A' M) ∧ CE I' (eWin e p (eS G 5) (decide (eS G 4 = 1)) (nI (VLG (decide (eS G 4 = 1)) (gWt G p) p lk D))) := by
  have hL := hx.2.2.2.2.2.1
  have hT := hx.t
  have hz := hx.z
  have hv := hx.v
  obtain ⟨o1, o2, o3⟩ := win_ok hx hp ho
  unfold f_X3_win f_X3_win_0
  have e0 : f_X3_requirePlayer (nI p) (cs I J A M) = some (.inr (), cs I J A M) := q_pl_ok hp _
  have hs := hc.1
  have ht := hw.2.2.2.2.2.1
  have w10 := hw.2.2.2.2.2.2.2.2.2.2
  have w4 := hw.2.2.2.2.1
  have hsp := h.2.2.2.2.2.2.2.1 _ hp
  have hse := h.2.2.2.2.2.2.2.1 _ ht
  rw [e0]
  show ∃ I' A', (gI 9 7 (cs I J A M) 1000).bind _ = _ ∧ _
  rw [gI_cs 295 h.1, Option.bind_some, hs.2.2.2.2.1]
  unfold wOk at ho
  by_cases x : eS G 4 = 1
  · rw [if_pos x] at ho
    obtain ⟨A1, e1, f1⟩ := q_winsAlone h hw hz hc hp
    have eg : gWt G p = G := if_pos x
    rw [eg] at o3
    rw [if_pos (show nI (eS G 4) = 1 by rw [x]; rfl), decide_eq_true x, eg]
    unfold f_X3_win_17
    rw [if_neg (show ¬ (1 : Int32) = 0 by decide), if_pos (show mK (cs I J A M) 1000 = 9 from h.1), e1, Option.bind_some, ho]
    dsimp only
    rw [if_neg (show ¬ b32 true = 0 by decide)]
    unfold f_X3_win_51
    rw [gR_cs 288 h.1 h.2.1, Option.bind_some, h.seat hp, Option.bind_some, if_neg (show ¬ (1 : Int32) = 0 by decide)]
    exact x_win_74 h ht f1 hp (w10 p hp).2.1 (fun j hj => hv p hp j hj) (fun k hk => by have := (w10 p hp).1 k hk; omega) true (fun z => by cases z) hD hD4 hlk he helk
  · rw [if_neg x] at ho
    obtain ⟨A1, e1, f1⟩ := q_winsByDiscard h hw hL hc hp
    have ho2 : eS G 4 = 2 ∧ p ≠ eS G 5 := by
      have ho' := ho
      unfold oByDis at ho'
      rw [Bool.and_eq_true] at ho'
      exact of_decide_eq_true ho'.1
    have eg : gWt G p = gTk G p := if_neg x
    have hm := hL ho2.1
    have v := w10 _ ht
    have hlt : lst G < 25 := v.2.2.2 _ (by omega)
    obtain ⟨c1, c2, c3, c4, c5, c6, c7⟩ := f1.2 _ ht
    obtain ⟨d1, d2, d3, d4, d5, d6, d7⟩ := f1.2 _ hp
    have eA : A1 (1013 + 4 * eS G 5) (eM G (eS G 5) - 1) = nI (lst G) := c5 _ (by omega)
    rw [if_neg (eq_f (x := nI (eS G 4)) (y := 1) (eS G 4) 1 x (by omega) (by decide)), decide_eq_false x, eg]
    unfold f_X3_win_17
    rw [if_pos rfl, if_pos (show mK (cs I J A M) 1000 = 9 from h.1), e1, Option.bind_some, ho]
    dsimp only
    rw [if_neg (show ¬ b32 true = 0 by decide)]
    unfold f_X3_win_51
    rw [gR_cs 288 h.1 h.2.1, Option.bind_some, h.seat hp, Option.bind_some, if_pos rfl, if_pos (show mK (cs I J A1 M) 1000 = 9 from h.1), q_seatInTurn h ht hs.2.2.2.2.2.1, Option.bind_some, if_pos (show mK (cs I J A1 M) (1010 + 4 * eS G 5) = 7 from hse.1), q_leave hse c4 (by have := v.2.2.1; omega), Option.bind_some, if_neg (show ¬ eM G (eS G 5) = 0 by omega), if_neg (show ¬ eM G (eS G 5) = 0 by omega), eA]
    rw [if_pos (show mK (cs _ J A1 M) (1010 + 4 * p) = 7 from hsp.1), q_change hsp hlt 1, Option.bind_some, d1 _ hlt, nI_1]
    have he2 : CE (u2 I 229 (1010 + 4 * eS G 5) (nI (eM G (eS G 5) - 1))) e := he.ot _ rfl
    have hD2 : u2 I 229 (1010 + 4 * eS G 5) (nI (eM G (eS G 5) - 1)) 297 1000 = nI D := (if_neg (fun z => by have := z.1; omega)).trans hD
    exact x_win_74 (G := gTk G p) h ht (f1.tk hp ht) hp (w10 p hp).2.1 (fun j hj => hv p hp j hj) (fun k hk => by
      rw [gTk_H]
      have := (w10 p hp).1 k hk
      have := (w10 p hp).1 _ hlt
      by_cases z : k = lst G
      · rw [z, u1_at]; omega
      · rw [u1_ne _ _ z]; omega) false (fun _ => ho2.2) hD2 hD4 hlk he2 helk
end XWIN2

