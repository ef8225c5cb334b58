/-! ===== FRAMES: the law's tries ===== -/
theorem kq_L_discard {M0 M : zM} {x y : Nat} {i1 : Int32} (hM : FQ M0 M) : KF (FQ M0) (f_L_discard x i1 y M) := by
  unfold f_L_discard f_L_discard_0
  refine KF.i (KF.xc (kq_X3_discard hM) (fun E M1 h1 => ?_) (fun v M1 h1 => ?_)) KF.n
  · repeat' first | exact KF.n | exact KF.s h1 | refine KF.i ?_ ?_
  · exact KF.w (fq_pJ h1 rfl) fun M2 h2 => KF.s h2
theorem kq_L_claim {M0 M : zM} {x y : Nat} {i1 i2 i3 : Int32} (hM : FQ M0 M) : KF (FQ M0) (f_L_claim x i1 i2 i3 y M) := by
  unfold f_L_claim f_L_claim_0
  refine KF.i (KF.xc (kq_X3_claim hM) (fun E M1 h1 => ?_) (fun v M1 h1 => ?_)) KF.n
  · repeat' first | exact KF.n | exact KF.s h1 | refine KF.i ?_ ?_
  · exact KF.w (fq_pJ h1 rfl) fun M2 h2 => KF.s h2
theorem kq_L_four {M0 M : zM} {x y : Nat} {i1 : Int32} (hM : FQ M0 M) : KF (FQ M0) (f_L_four x i1 y M) := by
  unfold f_L_four f_L_four_0
  refine KF.i (KF.xc (kq_X3_four hM) (fun E M1 h1 => ?_) (fun v M1 h1 => ?_)) KF.n
  · repeat' first | exact KF.n | exact KF.s h1 | refine KF.i ?_ ?_
  · exact KF.w (fq_pJ h1 rfl) fun M2 h2 => KF.s h2
theorem kq_L_pass {M0 M : zM} {x y : Nat} (hM : FQ M0 M) : KF (FQ M0) (f_L_pass x y M) := by
  unfold f_L_pass f_L_pass_0
  refine KF.i (KF.xc (kq_X3_pass hM) (fun E M1 h1 => ?_) (fun v M1 h1 => ?_)) KF.n
  · repeat' first | exact KF.n | exact KF.s h1 | refine KF.i ?_ ?_
  · exact KF.w (fq_pJ h1 rfl) fun M2 h2 => KF.s h2
theorem kq_L_has {M0 M : zM} {x y : Nat} {i1 i2 : Int32} (hM : FQ M0 M) : KF (FQ M0) (f_L_has x i1 i2 y M) := by
  unfold f_L_has f_L_has_0
  refine KF.i (KF.xc (kq_X3_has hM) (fun E M1 h1 => ?_) (fun v M1 h1 => ?_)) KF.n
  · repeat' first | exact KF.n | exact KF.s h1 | refine KF.i ?_ ?_
  · exact KF.w (fq_pJ h1 rfl) fun M2 h2 => KF.s h2
theorem kq_L_ofPlayer {M0 M : zM} {x y : Nat} {i1 i2 : Int32} (hM : FQ M0 M) : KF (FQ M0) (f_L_ofPlayer x i1 i2 y M) := by
  unfold f_L_ofPlayer f_L_ofPlayer_0
  refine KF.i (KF.xc (kq_X3_ofPlayer hM) (fun E M1 h1 => ?_) (fun v M1 h1 => ?_)) KF.n
  · repeat' first | exact KF.n | exact KF.s h1 | refine KF.i ?_ ?_
  · exact KF.w (fq_pJ h1 rfl) fun M2 h2 => KF.s h2
theorem kq_L_ofSet {M0 M : zM} {x y : Nat} {i1 i2 : Int32} (hM : FQ M0 M) : KF (FQ M0) (f_L_ofSet x i1 i2 y M) := by
  unfold f_L_ofSet f_L_ofSet_0
  refine KF.i (KF.xc (kq_X3_ofSet hM) (fun E M1 h1 => ?_) (fun v M1 h1 => ?_)) KF.n
  · repeat' first | exact KF.n | exact KF.s h1 | refine KF.i ?_ ?_
  · exact KF.w (fq_pJ h1 rfl) fun M2 h2 => KF.s h2
theorem kq_L_river {M0 M : zM} {x y : Nat} {i1 i2 : Int32} (hM : FQ M0 M) : KF (FQ M0) (f_L_river x i1 i2 y M) := by
  unfold f_L_river f_L_river_0
  refine KF.i (KF.xc (kq_X3_river hM) (fun E M1 h1 => ?_) (fun v M1 h1 => ?_)) KF.n
  · repeat' first | exact KF.n | exact KF.s h1 | refine KF.i ?_ ?_
  · exact KF.w (fq_pJ h1 rfl) fun M2 h2 => KF.s h2
theorem kq_L_waits {M0 M : zM} {x y : Nat} {i1 : Int32} (hM : FQ M0 M) : KF (FQ M0) (f_L_waits x i1 y M) := by
  unfold f_L_waits f_L_waits_0
  refine KF.i (KF.xc (kq_X3_waits hM) (fun E M1 h1 => ?_) (fun v M1 h1 => ?_)) KF.n
  · repeat' first | exact KF.n | exact KF.s h1 | refine KF.i ?_ ?_
  · exact KF.w (fq_pJ h1 rfl) fun M2 h2 => KF.s h2
theorem kq_L_seen {M0 M : zM} {x y : Nat} {i1 : Int32} (hM : FQ M0 M) : KF (FQ M0) (f_L_seen x i1 y M) := by
  unfold f_L_seen f_L_seen_0
  refine KF.i (KF.xc (kq_X3_seen hM) (fun E M1 h1 => ?_) (fun v M1 h1 => ?_)) KF.n
  · repeat' first | exact KF.n | exact KF.s h1 | refine KF.i ?_ ?_
  · exact KF.w (fq_pJ h1 rfl) fun M2 h2 => KF.s h2
theorem kq_L_hand {M0 M : zM} {x y : Nat} {i1 : Int32} (hM : FQ M0 M) : KF (FQ M0) (f_L_hand x i1 y M) := by
  unfold f_L_hand f_L_hand_0
  refine KF.i (KF.xc (kq_X3_hand hM) (fun E M1 h1 => ?_) (fun v M1 h1 => ?_)) KF.n
  · repeat' first | exact KF.n | exact KF.s h1 | refine KF.i ?_ ?_
  · exact KF.w (fq_pR h1 rfl) fun M2 h2 => KF.s h2
theorem kq_L_many {M0 M : zM} {x y : Nat} {i1 : Int32} (hM : FQ M0 M) : KF (FQ M0) (f_L_many x i1 y M) := by
  unfold f_L_many f_L_many_0
  refine KF.i (KF.xc (kq_X3_many hM) (fun E M1 h1 => ?_) (fun v M1 h1 => ?_)) KF.n
  · repeat' first | exact KF.n | exact KF.s h1 | refine KF.i ?_ ?_
  · exact KF.w (fq_pJ h1 rfl) fun M2 h2 => KF.s h2
theorem kq_L_lead {M0 M : zM} {x y : Nat} {i1 : Int32} (hM : FQ M0 M) : KF (FQ M0) (f_L_lead x i1 y M) := by
  unfold f_L_lead f_L_lead_0
  refine KF.i (KF.xc (kq_X3_lead hM) (fun E M1 h1 => ?_) (fun v M1 h1 => ?_)) KF.n
  · repeat' first | exact KF.n | exact KF.s h1 | refine KF.i ?_ ?_
  · exact KF.w (fq_pD h1 rfl) fun M2 h2 => KF.s h2
theorem kq_L_worth {M0 M : zM} {x y : Nat} {i1 i2 : Int32} (hM : FQ M0 M) : KF (FQ M0) (f_L_worth x i1 i2 y M) := by
  unfold f_L_worth f_L_worth_0
  refine KF.i (KF.xc (kq_X3_worth hM) (fun E M1 h1 => ?_) (fun v M1 h1 => ?_)) KF.n
  · repeat' first | exact KF.n | exact KF.s h1 | refine KF.i ?_ ?_
  · exact KF.w (fq_pJ h1 rfl) fun M2 h2 => KF.s h2
theorem kq_L_isSafe {M0 M : zM} {x y : Nat} {i1 i2 : Int32} (hM : FQ M0 M) : KF (FQ M0) (f_L_isSafe x i1 i2 y M) := by
  unfold f_L_isSafe f_L_isSafe_0
  refine KF.i (KF.xc (kq_X3_isSafe hM) (fun E M1 h1 => ?_) (fun v M1 h1 => ?_)) KF.n
  · repeat' first | exact KF.n | exact KF.s h1 | refine KF.i ?_ ?_
  · unfold f_L_isSafe_15
    refine KF.i ?_ ?_
    · exact KF.w (fq_pJ h1 rfl) fun M2 h2 => KF.s h2
    · exact KF.w (fq_pJ h1 rfl) fun M2 h2 => KF.s h2
theorem kq_L_outs {M0 M : zM} {x y : Nat} {i1 : Int32} (hM : FQ M0 M) : KF (FQ M0) (f_L_outs x i1 y M) := by
  unfold f_L_outs f_L_outs_0
  refine KF.i (KF.xc (kq_X3_outs hM) (fun E M1 h1 => ?_) (fun v M1 h1 => ?_)) KF.n
  · repeat' first | exact KF.n | exact KF.s h1 | refine KF.i ?_ ?_
  · exact KF.w (fq_pJ h1 rfl) fun M2 h2 => KF.s h2
/-! ===== PURE: points, wins, pot, lucky kind, winner: the class's calls on them ===== -/
/-- points, wins, pot, lucky kind, winner -/
abbrev zPt : Type := (Nat → Int32) × (Nat → Int32) × Int32 × Int32 × Int32
def CE (I : Nat → Nat → Int32) (e : zPt) : Prop := (∀ p, p < 4 → I 231 (1010 + 4 * p) = e.1 p ∧ I 232 (1010 + 4 * p) = e.2.1 p) ∧ I 299 1000 = e.2.2.1 ∧ I 300 1000 = e.2.2.2.1 ∧ I 301 1000 = e.2.2.2.2
def RE (I : Nat → Nat → Int32) (e : zPt) : Prop := (∀ p, p < 4 → I 384 (1028 + 4 * p) = e.1 p ∧ I 385 (1028 + 4 * p) = e.2.1 p) ∧ I 427 1026 = e.2.2.1 ∧ I 421 1026 = e.2.2.2.1 ∧ I 428 1026 = e.2.2.2.2
theorem CE.eq {I I' : Nat → Nat → Int32} {e : zPt} (h : CE I e) (f : ∀ k b, ek k = true → b < 1046 → I' k b = I k b) : CE I' e := ⟨fun p hp => ⟨(f _ _ rfl (by omega)).trans (h.1 p hp).1, (f _ _ rfl (by omega)).trans (h.1 p hp).2⟩, (f _ _ rfl (by omega)).trans h.2.1, (f _ _ rfl (by omega)).trans h.2.2.1, (f _ _ rfl (by omega)).trans h.2.2.2⟩
theorem RE.eq {I I' : Nat → Nat → Int32} {e : zPt} (h : RE I e) (f : ∀ k b, ek k = true → b < 1046 → I' k b = I k b) : RE I' e := ⟨fun p hp => ⟨(f _ _ rfl (by omega)).trans (h.1 p hp).1, (f _ _ rfl (by omega)).trans (h.1 p hp).2⟩, (f _ _ rfl (by omega)).trans h.2.1, (f _ _ rfl (by omega)).trans h.2.2.1, (f _ _ rfl (by omega)).trans h.2.2.2⟩
/-- after a method that leaves them -/
theorem CE.fq {I I' : Nat → Nat → Int32} {J J' : Nat → Nat → Int64} {A A' : Nat → Nat → Int32} {M M' : zM} {α : Type} {x : Option (α × zM)} {v : α} {e : zPt} (h : CE I e) (hX : 1046 ≤ mX M) (kq : KF (FQ (cs I J A M)) x) (ex : x = some (v, cs I' J' A' M')) : CE I' e := h.eq fun k b hk hb => (kq _ ex).2 k b hk (Nat.lt_of_lt_of_le hb hX)
theorem RE.fq {I I' : Nat → Nat → Int32} {J J' : Nat → Nat → Int64} {A A' : Nat → Nat → Int32} {M M' : zM} {α : Type} {x : Option (α × zM)} {v : α} {e : zPt} (h : RE I e) (hX : 1046 ≤ mX M) (kq : KF (FQ (cs I J A M)) x) (ex : x = some (v, cs I' J' A' M')) : RE I' e := h.eq fun k b hk hb => (kq _ ex).2 k b hk (Nat.lt_of_lt_of_le hb hX)
section CEU
variable {I : Nat → Nat → Int32} {e : zPt} {pt wn : Nat → Int32} {po lk wi : Int32}
theorem CE.ptU (h : CE I (pt, wn, po, lk, wi)) {p : Nat} (v : Int32) : CE (u2 I 231 (1010 + 4 * p) v) (u1 pt p v, wn, po, lk, wi) := ⟨fun c hc => ⟨by
  show u2 I 231 (1010 + 4 * p) v 231 (1010 + 4 * c) = u1 pt p v c
  unfold u2 u1
  by_cases y : c = p
  · rw [if_pos y, if_pos ⟨rfl, by omega⟩]
  · rw [if_neg y, if_neg (by omega)]
    exact (h.1 c hc).1, (h.1 c hc).2⟩, h.2⟩
theorem CE.wnU (h : CE I (pt, wn, po, lk, wi)) {p : Nat} (v : Int32) : CE (u2 I 232 (1010 + 4 * p) v) (pt, u1 wn p v, po, lk, wi) := ⟨fun c hc => ⟨(h.1 c hc).1, by
  show u2 I 232 (1010 + 4 * p) v 232 (1010 + 4 * c) = u1 wn p v c
  unfold u2 u1
  by_cases y : c = p
  · rw [if_pos y, if_pos ⟨rfl, by omega⟩]
  · rw [if_neg y, if_neg (by omega)]
    exact (h.1 c hc).2⟩, h.2⟩
theorem CE.poU (h : CE I (pt, wn, po, lk, wi)) (v : Int32) : CE (u2 I 299 1000 v) (pt, wn, v, lk, wi) := ⟨fun c hc => h.1 c hc, rfl, h.2.2⟩
theorem CE.lkU (h : CE I (pt, wn, po, lk, wi)) (v : Int32) : CE (u2 I 300 1000 v) (pt, wn, po, v, wi) := ⟨fun c hc => h.1 c hc, h.2.1, rfl, h.2.2.2⟩
theorem CE.wiU (h : CE I (pt, wn, po, lk, wi)) (v : Int32) : CE (u2 I 301 1000 v) (pt, wn, po, lk, v) := ⟨fun c hc => h.1 c hc, h.2.1, h.2.2.1, rfl⟩
theorem CE.ot (h : CE I e) {k a : Nat} (v : Int32) (hk : ek k = false) : CE (u2 I k a v) e := h.eq fun q b hq _ => if_neg fun z => by rw [z.1, hk] at hq; cases hq
theorem CE.cg (h : CE I (pt, wn, po, lk, wi)) {pt' : Nat → Int32} (f : ∀ p, p < 4 → pt p = pt' p) : CE I (pt', wn, po, lk, wi) := ⟨fun c hc => ⟨(h.1 c hc).1.trans (f c hc), (h.1 c hc).2⟩, h.2⟩
end CEU
/-! nobody wins -/
def rdy (G : zG) (p : Nat) : Bool := decide (gW G p ≠ 0)
def crd (G : zG) (i d : Nat) : Nat := sn (fun p => if rdy G p = true then 1 else 0) i d
def ewP (G : zG) (R i : Nat) (pt : Nat → Int32) (p : Nat) : Int32 := if i ≤ p ∧ p < 4 then pt p + 10 * (if rdy G p = true then 4 - nI R else -nI R) else pt p
theorem lg_rdy (G : zG) (p : Nat) : lg_cmp (gW G p) 0 = 0 ↔ rdy G p = false := by
  rw [lg_cmp_0]
  unfold rdy
  rw [decide_eq_false_iff_not]
  exact ⟨fun z w => w z, fun z => Classical.byContradiction z⟩
section XDRAW
variable {J : Nat → Nat → Int64} {M : zM} {G : zG}
theorem x_ewn_40 (h : CSH M) (hw : WF G) {R : Nat} {wn : Nat → Int32} {po lk wi : Int32} : ∀ (d n i : Nat) (pt : Nat → Int32) (I : Nat → Nat → Int32) (A : Nat → Nat → Int32), i + d = 4 → d < n → CR I J A G → CE I (pt, wn, po, lk, wi) → ∃ I' A', f_X3_endWithoutWinner_40 n 1000 (nI R) (nI i) (cs I J A M) = some ((), cs I' J A' M) ∧ CE I' (ewP G R i pt, wn, po, lk, -1) := by
  intro d
  induction d with
  | zero =>
    intro n i pt I A hi hn hc he
    obtain ⟨n, rfl⟩ : ∃ m, n = m + 1 := ⟨n - 1, by omega⟩
    refine ⟨u2 (u2 I 301 1000 (-1)) 295 1000 3, A, ?_, ?_⟩
    · rw [f_X3_endWithoutWinner_40, if_pos (le_t (x := 4) 4 i (by omega) (by omega)), pI_cs 301 h.1, Option.bind_some, pI_cs 295 h.1, Option.bind_some]
    · exact ((he.wiU (-1)).ot 3 rfl).cg fun p hp => (if_neg (by omega)).symm
  | succ d ih =>
    intro n i pt I A hi hn hc he
    obtain ⟨n, rfl⟩ : ∃ m, n = m + 1 := ⟨n - 1, by omega⟩
    have hp : i < 4 := by omega
    have hs := h.2.2.2.2.2.2.2.1 i hp
    obtain ⟨A1, e1, f1⟩ := q_waitsG h hc hw hp
    have hc1 := hc.own f1
    have ei : I 231 (1010 + 4 * i) = pt i := (he.1 i hp).1
    have nx : ∀ v : Int32, v = pt i + 10 * (if rdy G i = true then 4 - nI R else -nI R) → ∃ I' A', f_X3_endWithoutWinner_40 n 1000 (nI R) (nI (i + 1)) (cs (u2 I 231 (1010 + 4 * i) v) J A1 M) = some ((), cs I' J A' M) ∧ CE I' (ewP G R i pt, wn, po, lk, -1) := fun v hv => by
      obtain ⟨I', A', e2, f2⟩ := ih n (i + 1) (u1 pt i v) (u2 I 231 (1010 + 4 * i) v) A1 (by omega) (by omega) (hc1.free (fun k b => by
        by_cases y : k = 231
        · exact Or.inl (Or.inl y)
        · exact Or.inr (if_neg (fun q => y q.1)))) (he.ptU v)
      refine ⟨I', A', e2, f2.cg fun p hp4 => ?_⟩
      unfold ewP
      by_cases y : p = i
      · subst y
        rw [if_neg (by omega), if_pos ⟨Nat.le_refl _, hp4⟩, u1_at, hv]
      · rw [u1_ne _ _ y]
        by_cases z : i + 1 ≤ p ∧ p < 4
        · rw [if_pos z, if_pos (show i ≤ p ∧ p < 4 by omega)]
        · rw [if_neg z, if_neg (show ¬ (i ≤ p ∧ p < 4) by omega)]
    rw [f_X3_endWithoutWinner_40, if_neg (le_f (x := 4) 4 i (by omega) (by decide)), gR_cs 288 h.1 h.2.1, Option.bind_some, h.seat hp, Option.bind_some, if_pos (show mK (cs I J A M) 1000 = 9 from h.1), e1, Option.bind_some]
    dsimp only
    unfold f_X3_endWithoutWinner_65 f_X3_endWithoutWinner_90
    cases hr : rdy G i with
    | false =>
      rw [if_pos ((lg_rdy G i).mpr hr), gR_cs 288 h.1 h.2.1, Option.bind_some, h.seat hp, Option.bind_some, gI_cs 231 hs.1, Option.bind_some, if_pos rfl, pI_cs 231 hs.1, Option.bind_some, nI_1]
      exact nx _ (by rw [ei, hr, if_neg (by decide)])
    | true =>
      rw [if_neg (fun z => by rw [(lg_rdy G i).mp z] at hr; cases hr), gR_cs 288 h.1 h.2.1, Option.bind_some, h.seat hp, Option.bind_some, gI_cs 231 hs.1, Option.bind_some, if_neg (by decide), pI_cs 231 hs.1, Option.bind_some, nI_1]
      exact nx _ (by rw [ei, hr, if_pos rfl])
theorem x_ewn_4 (h : CSH M) (hw : WF G) {I : Nat → Nat → Int32} {pt wn : Nat → Int32} {po lk wi : Int32} (he : CE I (pt, wn, po, lk, wi)) : ∀ (d n i x : Nat) (A : Nat → Nat → Int32), i + d = 4 → d < n → CR I J A G → ∃ I' A', f_X3_endWithoutWinner_4 n 1000 (nI x) (nI i) (cs I J A M) = some ((), cs I' J A' M) ∧ CE I' (ewP G (x + crd G i d) 0 pt, wn, po, lk, -1) := by
  intro d
  induction d with
  | zero =>
    intro n i x A hi hn hc
    obtain ⟨n, rfl⟩ : ∃ m, n = m + 1 := ⟨n - 1, by omega⟩
    rw [f_X3_endWithoutWinner_4, if_pos (le_t (x := 4) 4 i (by omega) (by omega))]
    exact x_ewn_40 h hw 4 zN 0 pt I A rfl (by decide) hc he
  | succ d ih =>
    intro n i x A hi hn hc
    obtain ⟨n, rfl⟩ : ∃ m, n = m + 1 := ⟨n - 1, by omega⟩
    have hp : i < 4 := by omega
    obtain ⟨A1, e1, f1⟩ := q_waitsG h hc hw hp
    have ec : crd G i (d + 1) = (if rdy G i = true then 1 else 0) + crd G (i + 1) d := rfl
    rw [f_X3_endWithoutWinner_4, if_neg (le_f (x := 4) 4 i (by omega) (by decide)), gR_cs 288 h.1 h.2.1, Option.bind_some, h.seat hp, Option.bind_some, if_pos (show mK (cs I J A M) 1000 = 9 from h.1), e1, Option.bind_some, nI_1, ec]
    dsimp only
    cases hr : rdy G i with
    | false =>
      have e0 : nI x + 0 = nI x := nI_add x 0
      rw [if_pos ((lg_rdy G i).mpr hr), e0, if_neg (by decide), Nat.zero_add]
      exact ih n (i + 1) x A1 (by omega) (by omega) (hc.own f1)
    | true =>
      have e0 : nI x + 1 = nI (x + 1) := nI_1 x
      rw [if_neg (fun z => by rw [(lg_rdy G i).mp z] at hr; cases hr), e0, if_pos rfl, ← Nat.add_assoc]
      exact ih n (i + 1) (x + 1) A1 (by omega) (by omega) (hc.own f1)
/-- what the end without a winner does -/
def eEwn (G : zG) (e : zPt) : zPt := (ewP G (crd G 0 4) 0 e.1, e.2.1, e.2.2.1, e.2.2.2.1, -1)
theorem x_endWithoutWinner (h : CSH M) (hw : WF G) {I : Nat → Nat → Int32} {A : Nat → Nat → Int32} (hc : CR I J A G) {e : zPt} (he : CE I e) : ∃ I' A', f_X3_endWithoutWinner 1000 (cs I J A M) = some ((), cs I' J A' M) ∧ CE I' (eEwn G e) := by
  obtain ⟨I', A', e1, f1⟩ := x_ewn_4 (J := J) (M := M) h hw (pt := e.1) (wn := e.2.1) (po := e.2.2.1) (lk := e.2.2.2.1) (wi := e.2.2.2.2) he 4 zN 0 0 A rfl (by decide) hc
  rw [Nat.zero_add] at f1
  exact ⟨I', A', e1, f1⟩
def eDraw (G : zG) (e : zPt) : zPt := if gCan G = true then e else eEwn G e
/-- draw, where it goes -/
theorem x_draw (h : CSH M) (hw : WF G) {I : Nat → Nat → Int32} {A : Nat → Nat → Int32} (hX : 1046 ≤ mX M) (hc : CR I J A G) (h0 : eS G 4 = 0) {e : zPt} (he : CE I e) {v : String ⊕ Int32} {M' : zM} (ex : f_X3_draw 1000 (cs I J A M) = some (v, M')) : CE (mI M') (eDraw G e) := by
  have hs := hc.1
  have hw0 := hw
  obtain ⟨w0, w1, w2, w3, w4, w5, w6, w7, -⟩ := hw
  have e1 := q_requirePhase (I := I) (J := J) (A := A) h hs w4 0 (by decide)
  have e' : f_X3_requirePhase 1000 0 (cs I J A M) = if eS G 4 = 0 then some (.inr (), cs I J A M) else some (.inl "java/lang/IllegalStateException", cs I J A (nE M)) := e1
  unfold f_X3_draw f_X3_draw_0 at ex
  rw [if_pos (show mK (cs I J A M) 1000 = 9 from h.1), e', if_pos h0] at ex
  have ex : (if mK (cs I J A M) 1000 = 9 then _ else none) = some (v, M') := ex
  rw [if_pos (show mK (cs I J A M) 1000 = 9 from h.1), q_canDraw h hs.2.2.2.2.2.2.2.1 (by omega) hs.2.2.1 hs.2.2.2.1 w2, Option.bind_some] at ex
  dsimp only at ex
  have ex : (if b32 (gCan G) = 0 then _ else _) = some (v, M') := ex
  unfold eDraw
  cases hg : gCan G with
  | true =>
    rw [hg, if_neg (show ¬ b32 true = 0 by decide)] at ex
    rw [if_pos rfl]
    refine he.eq fun k b hk hb => ?_
    have fq : KF (FQ (cs I J A M)) (some (v, M')) := by
      rw [← ex]
      refine KF.b fun v18 => ?_
      refine KF.i ?_ KF.n
      refine KF.c (kq_X3_kindAt (FQ.rf _)) fun r h1 => ?_
      refine KF.b fun v21 => ?_
      refine KF.w (fq_pI h1 rfl) fun M2 h2 => ?_
      refine KF.w (fq_pI h2 rfl) fun M3 h3 => ?_
      refine KF.i ?_ KF.n
      refine KF.c (kq_X3_receive h3) fun r h4 => ?_
      exact KF.s h4
    exact (fq _ rfl).2 k b hk (Nat.lt_of_lt_of_le hb hX)
  | false =>
    rw [hg, if_pos (show b32 false = 0 from rfl), if_pos (show mK (cs I J A M) 1000 = 9 from h.1)] at ex
    obtain ⟨I', A', e3, f3⟩ := x_endWithoutWinner h hw0 hc he
    rw [e3, Option.bind_some] at ex
    cases ex
    rw [if_neg (by decide)]
    exact f3
end XDRAW
