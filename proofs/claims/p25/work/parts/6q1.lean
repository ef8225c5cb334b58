/-! ===== THE CLASS ALONE: its memory; what is asked ===== -/
def SCR (n : Nat) (xs : Nat → Int32) (M : zM) : Prop := mK M 0 = 200 ∧ mL M 0 = n ∧ ∀ i, i < n → mA M 0 i = xs i
def BD (c : Nat) (M : zM) : Prop := mX M ≤ 1026 + 10 * c ∧ mS M ≤ 770 + 100 * c
/-- the memory holds the game and the points; c bounds what was made -/
def QK (n : Nat) (xs : Nat → Int32) (c : Nat) (M : zM) (G : zG) (e : zPt) : Prop := CSH M ∧ CR (mI M) (mJ M) (mA M) G ∧ CE (mI M) e ∧ TB (mA M) ∧ TX M ∧ RG M ∧ SCR n xs M ∧ BD c M
/-- the game and the points after k moves at most -/
def GI (k rr : Nat) (G : zG) (e : zPt) : Prop := (WX G ∧ W9 G) ∧ (WO G ∧ WH G) ∧ (eS G 7 ≠ 0 → WT_ G ∧ WM G e.2.2.2.2 ∧ ∃ lk, lk < 25 ∧ e.2.2.2.1 = nI lk) ∧ eTot e = 1000 ∧ EB k e ∧ (eS G 7 = rr ∧ rr ≤ k) ∧ k ≤ 600
theorem xn_r {α β : Type} {v : α} {M : zM} {f : α → zM → Option β} : xn (some (.inr v, M)) f = f v M := rfl
section QKS
variable {n : Nat} {xs : Nat → Int32} {c k rr : Nat} {M : zM} {G G' : zG} {e e' : zPt}
theorem QK.X (h : QK n xs c M G e) : 1026 ≤ mX M := h.2.2.2.2.2.1.1
theorem QK.rg (h : QK n xs c M G e) : RG M := h.2.2.2.2.2.1
theorem QK.hA (h : QK n xs c M G e) (A : Nat → Nat → Int32) : AT A M := h.1.2.2.2.2.2.2.2.2
theorem QK.w (h : QK n xs c M G e) {c' : Nat} (hc : c ≤ c') : QK n xs c' M G e := by
  obtain ⟨a1, a2, a3, a4, a5, a6, a7, b1, b2⟩ := h
  exact ⟨a1, a2, a3, a4, a5, a6, a7, by omega, by omega⟩
theorem QK.sa (h : QK n xs c M G e) {M' : zM} (f : FC M M') {b : Nat} (hb : b < 1000) : SA M M' b := f.1.2 b (by have := h.X; omega) (fun z => by have := z.1; omega)
theorem QK.mk' (h : QK n xs c M G e) {c' : Nat} {M' : zM} (f : FC M M') (sh : CSH M') (rg : RG M') (hc : CR (mI M') (mJ M') (mA M') G') (he : CE (mI M') e') (bd : BD c' M') : QK n xs c' M' G' e' := by
  have s : ∀ b, b < 1000 → SA M M' b := fun b hb => h.sa f hb
  obtain ⟨a1, a2, a3, a4, a5, a6, a7, a8⟩ := h
  refine ⟨sh, hc, he, fun q hq => ?_, ⟨⟨(s 6 (by decide)).1.trans a5.1.1, (s 6 (by decide)).2.1.trans a5.1.2⟩, fun x hx => ?_⟩, rg, ?_, bd⟩
  · obtain ⟨t1, t2, t3⟩ := a4 q hq
    exact ⟨(congrFun (s 1 (by decide)).2.2.2.2.2.1 q).trans t1, (congrFun (s 2 (by decide)).2.2.2.2.2.1 q).trans t2, (congrFun (s 3 (by decide)).2.2.2.2.2.1 q).trans t3⟩
  · obtain ⟨t1, t2, t3, t4, t5⟩ := a5.2 x hx
    have sx := s x (by omega)
    have sy := s (20 + x) (by omega)
    exact ⟨sx.1.trans t1, (sx.2.2.2.2.1 32).trans t2, (sx.2.2.1 33).trans t3, sy.1.trans t4, sy.2.1.trans t5⟩
  · obtain ⟨t1, t2, t3⟩ := a7
    have s0 := s 0 (by decide)
    exact ⟨s0.1.trans t1, s0.2.1.trans t2, fun i hi => (congrFun s0.2.2.2.2.2.1 i).trans (t3 i hi)⟩
theorem QK.of (h : QK n xs c M G e) {I' : Nat → Nat → Int32} {J' : Nat → Nat → Int64} {A' : Nat → Nat → Int32} (f : FC M (cs I' J' A' M)) (hc : CR I' J' A' G') (he : CE I' e') : QK n xs c (cs I' J' A' M) G' e' :=
  h.mk' f h.1 h.rg hc he h.2.2.2.2.2.2.2
theorem QK.bad (h : QK n xs c M G e) {A' : Nat → Nat → Int32} (f : FC M (cs (mI M) (mJ M) A' (nE M))) (hc : CR (mI M) (mJ M) A' G) : QK n xs (c + 1) (cs (mI M) (mJ M) A' (nE M)) G e := by
  obtain ⟨b1, b2⟩ := h.2.2.2.2.2.2.2
  refine h.mk' f h.1 ⟨?_, h.rg.2⟩ hc h.2.2.1 ⟨?_, ?_⟩
  · show 1026 ≤ mX M + 1
    have := h.X
    omega
  · show mX M + 1 ≤ _
    omega
  · show mS M + 6 ≤ _
    omega
theorem QK.ce (h : QK n xs c M G e) {I' : Nat → Nat → Int32} {J' : Nat → Nat → Int64} {A' : Nat → Nat → Int32} (f : FQ M (cs I' J' A' M)) : CE I' e := h.2.2.1.eq fun q b hq hb => f.2 q b hq (by have := h.X; omega)
theorem GI.r (g : GI k rr G e) : eS G 7 < 2 ^ 20 := by
  obtain ⟨-, -, -, -, -, a, b⟩ := g
  omega
theorem GI.f (g : GI k rr G e) : WF G := g.1.1.f g.r
theorem GI.L (g : GI k rr G e) : WL G := g.1.1.2.2.2.2.2.1
theorem GI.D (g : GI k rr G e) : WD G := g.1.1.2.2.2.2.2.2.1
theorem GI.lk (g : GI k rr G e) : ∃ lk, eS G 7 ≠ 0 → lk < 25 ∧ e.2.2.2.1 = nI lk := by
  by_cases y : eS G 7 = 0
  · exact ⟨0, fun z => absurd y z⟩
  · obtain ⟨-, -, lk, h1, h2⟩ := g.2.2.1 y
    exact ⟨lk, fun _ => ⟨h1, h2⟩⟩
theorem GI.w (g : GI k rr G e) {k' : Nat} (h : k ≤ k') (h' : k' ≤ 600) : GI k' rr G e := by
  obtain ⟨a1, a2, a3, a4, a5, a6, a7⟩ := g
  refine ⟨a1, a2, a3, a4, ?_, by omega, h'⟩
  clear a7 a6
  induction h with
  | refl => exact a5
  | step _ ih => exact (ih (by omega)).w
section ASKP
variable {γ : Type} {P : Option γ → Prop}
theorem QK.ask {α : Type} (h : QK n xs c M G e) {x : Option ((String ⊕ α) × zM)} {v : α} {A' : Nat → Nat → Int32} (kf : KF (FC M) x) (ex : x = some (.inr v, cs (mI M) (mJ M) A' M)) (hc : CR (mI M) (mJ M) A' G) {f : α → zM → Option γ} (kk : ∀ M1, QK n xs c M1 G e → P (f v M1)) : P (if mK M 1000 = 9 then xn x f else none) := by
  have k1 := kk _ (h.of (kf _ ex) hc h.2.2.1)
  rw [if_pos h.1.1, ex]
  exact k1
theorem QK.many (h : QK n xs c M G e) (g : GI k rr G e) (j : Nat) (hj : j < 10) {i : Int32} (hi : i = nI j) {f : Int32 → zM → Option γ} (kk : ∀ M1, QK n xs c M1 G e → P (f (mny G e j) M1)) : P (if mK M 1000 = 9 then xn (f_X3_many 1000 i M) f else none) := by
  subst hi
  exact h.ask (kc_X3_many h.rg own1000 (FC.rf M)) (x_many (I := mI M) (J := mJ M) (A := mA M) h.1 g.f g.L h.2.1 h.2.2.1 hj) h.2.1 kk
theorem QK.pl (h : QK n xs c M G e) (g : GI k rr G e) {p : Nat} (hp : p < 4) (j : Nat) (hj : j < 10) {i1 i : Int32} (h1 : i1 = nI p) (hi : i = nI j) {f : Int32 → zM → Option γ} (kk : ∀ M1, QK n xs c M1 G e → P (f (opl G e p j) M1)) : P (if mK M 1000 = 9 then xn (f_X3_ofPlayer 1000 i1 i M) f else none) := by
  subst hi h1
  obtain ⟨A', ex, hc⟩ := x_ofPlayer (I := mI M) (J := mJ M) (A := mA M) (h.hA _) h.2.2.2.1 h.1 g.f g.1.1.v g.D h.2.1 h.2.2.1 hp hj
  exact h.ask (kc_X3_ofPlayer h.rg own1000 (FC.rf M)) ex hc kk
theorem x_has (h : CSH M) (hc : CR (mI M) (mJ M) (mA M) G) {p k : Nat} (hp4 : p < 4) (hk : k < 25) : f_X3_has 1000 (nI p) (nI k) M = some (.inr (nI (eH G p k)), M) := by
  have hsp := h.2.2.2.2.2.2.2.1 _ hp4
  have sq : lQ 1 M 1001 (nI p) = some (1010 + 4 * p) := CSH.seat (I := mI M) (J := mJ M) (A := mA M) h hp4
  have ec : f_X1_count (1010 + 4 * p) (nI k) M = some (mA M (1011 + 4 * p) k, M) := q_count (I := mI M) (J := mJ M) (A := mA M) hsp hk
  unfold f_X3_has f_X3_has_0
  rw [q_pl_ok hp4]
  show xb (f_X3_requireKind (nI k) M) _ = _
  rw [q_requireKind_ok hk]
  show (gR 9 0 M 1000).bind _ = _
  rw [e_gR 288 h.1 h.2.1, Option.bind_some, sq, Option.bind_some, if_pos hsp.1, ec, Option.bind_some, (hc.2 p hp4).1 k hk]
theorem QK.has (h : QK n xs c M G e) {p q : Nat} (hp : p < 4) (hq : q < 25) {i1 i : Int32} (h1 : i1 = nI p) (hi : i = nI q) {f : Int32 → zM → Option γ} (kk : ∀ M1, QK n xs c M1 G e → P (f (nI (eH G p q)) M1)) : P (if mK M 1000 = 9 then xn (f_X3_has 1000 i1 i M) f else none) := by
  subst hi h1
  exact h.ask (kc_X3_has h.rg own1000 (FC.rf M)) (x_has h.1 h.2.1 hp hq) h.2.1 kk
theorem x_river (h : CSH M) (hw : WF G) (hc : CR (mI M) (mJ M) (mA M) G) {p j : Nat} (hp4 : p < 4) (hj : j < eM G p) : f_X3_river 1000 (nI p) (nI j) M = some (.inr (nI (eR G p j)), M) := by
  have hsp := h.2.2.2.2.2.2.2.1 _ hp4
  obtain ⟨d1, d2, d3, d4, d5, -⟩ := hc.2 p hp4
  have v3 := (hw.2.2.2.2.2.2.2.2.2.2 p hp4).2.2.1
  have sq : lQ 1 M 1001 (nI p) = some (1010 + 4 * p) := CSH.seat (I := mI M) (J := mJ M) (A := mA M) h hp4
  unfold f_X3_river f_X3_river_0
  rw [q_pl_ok hp4]
  show (gR 9 0 M 1000).bind _ = _
  rw [e_gR 288 h.1 h.2.1, Option.bind_some, sq, Option.bind_some, if_neg (nI_nn (by omega)), e_gI 229 hsp.1, Option.bind_some, d4, if_neg (le_f (eM G p) j hj (by omega)), if_pos (lt_t (y := 64) j 64 (by omega) (by decide)), e_gR 226 hsp.1 hsp.2.2.2.1, Option.bind_some, e_lA hsp.2.2.2.2.2.2.1 (by rw [hsp.2.2.2.2.2.2.2]; omega) (by rw [hsp.2.2.2.2.2.2.2]; decide), Option.bind_some, d5 j hj]
theorem QK.river (h : QK n xs c M G e) (g : GI k rr G e) {p j : Nat} (hp : p < 4) (hj : j < eM G p) {i1 i : Int32} (h1 : i1 = nI p) (hi : i = nI j) {f : Int32 → zM → Option γ} (kk : ∀ M1, QK n xs c M1 G e → P (f (nI (eR G p j)) M1)) : P (if mK M 1000 = 9 then xn (f_X3_river 1000 i1 i M) f else none) := by
  subst hi h1
  exact h.ask (kc_X3_river h.rg own1000 (FC.rf M)) (x_river h.1 g.f h.2.1 hp hj) h.2.1 kk
theorem x_ofSet (h : CSH M) (hw : WF G) (hc : CR (mI M) (mJ M) (mA M) G) {p j : Nat} (hp4 : p < 4) (hj : j < eN G p) : f_X3_ofSet 1000 (nI p) (nI j) M = some (.inr (nI (eV G p j)), M) := by
  have hsp := h.2.2.2.2.2.2.2.1 _ hp4
  obtain ⟨d1, d2, d3, d4, d5, -⟩ := hc.2 p hp4
  have v3 := (hw.2.2.2.2.2.2.2.2.2.2 p hp4).2.1
  have sq : lQ 1 M 1001 (nI p) = some (1010 + 4 * p) := CSH.seat (I := mI M) (J := mJ M) (A := mA M) h hp4
  unfold f_X3_ofSet f_X3_ofSet_0
  rw [q_pl_ok hp4]
  show (gR 9 0 M 1000).bind _ = _
  rw [e_gR 288 h.1 h.2.1, Option.bind_some, sq, Option.bind_some, if_neg (nI_nn (by omega)), e_gI 228 hsp.1, Option.bind_some, d2, if_neg (le_f (eN G p) j hj (by omega)), if_pos (lt_t (y := 3) j 3 (by omega) (by decide)), e_gR 225 hsp.1 hsp.2.2.1, Option.bind_some, e_lA hsp.2.2.2.2.2.1.1 (by rw [hsp.2.2.2.2.2.1.2]; omega) (by rw [hsp.2.2.2.2.2.1.2]; decide), Option.bind_some, d3 j hj]
theorem QK.ofSet (h : QK n xs c M G e) (g : GI k rr G e) {p j : Nat} (hp : p < 4) (hj : j < eN G p) {i1 i : Int32} (h1 : i1 = nI p) (hi : i = nI j) {f : Int32 → zM → Option γ} (kk : ∀ M1, QK n xs c M1 G e → P (f (nI (eV G p j)) M1)) : P (if mK M 1000 = 9 then xn (f_X3_ofSet 1000 i1 i M) f else none) := by
  subst hi h1
  exact h.ask (kc_X3_ofSet h.rg own1000 (FC.rf M)) (x_ofSet h.1 g.f h.2.1 hp hj) h.2.1 kk
theorem QK.waits (h : QK n xs c M G e) (g : GI k rr G e) {p : Nat} (hp : p < 4) {i1 : Int32} (h1 : i1 = nI p) {f : Int64 → zM → Option γ} (kk : ∀ M1, QK n xs c M1 G e → P (f (gW G p) M1)) : P (if mK M 1000 = 9 then xn (f_X3_waits 1000 i1 M) f else none) := by
  subst h1
  have sq : lQ 1 M 1001 (nI p) = some (1010 + 4 * p) := CSH.seat (I := mI M) (J := mJ M) (A := mA M) h.1 hp
  obtain ⟨A1, e1, f1⟩ := q_waitsG (I := mI M) (J := mJ M) (A := mA M) h.1 h.2.1 g.f hp
  have e1' : f_X3_waitsOf 1000 (1010 + 4 * p) M = some (gW G p, cs (mI M) (mJ M) A1 M) := e1
  have ex : f_X3_waits 1000 (nI p) M = some (.inr (gW G p), cs (mI M) (mJ M) A1 M) := by
    unfold f_X3_waits f_X3_waits_0
    rw [q_pl_ok hp]
    show (gR 9 0 M 1000).bind _ = _
    rw [e_gR 288 h.1.1 h.1.2.1, Option.bind_some, sq, Option.bind_some, if_pos h.1.1, e1', Option.bind_some]
  exact h.ask (kc_X3_waits h.rg own1000 (FC.rf M)) ex (h.2.1.own f1) kk
theorem QK.seen (h : QK n xs c M G e) (g : GI k rr G e) {q : Nat} (hq : q < 25) {i : Int32} (hi : i = nI q) {f : Int32 → zM → Option γ} (kk : ∀ M1, QK n xs c M1 G e → P (f (nI (snA G q 4 0)) M1)) : P (if mK M 1000 = 9 then xn (f_X3_seen 1000 i M) f else none) := by
  subst hi
  have ex : f_X3_seen 1000 (nI q) M = some (.inr (nI (snA G q 4 0)), M) := by
    unfold f_X3_seen f_X3_seen_0
    rw [q_requireKind_ok hq]
    have z := q_seen8x h.1 g.f g.1.1.v h.2.1 hq 4 zN 0 0 rfl (by decide)
    rw [Nat.zero_add] at z
    exact z
  exact h.ask (kc_X3_seen h.rg own1000 (FC.rf M)) ex h.2.1 kk
theorem QK.lead (h : QK n xs c M G e) {p : Nat} (hp : p < 4) {i1 : Int32} (h1 : i1 = nI p) {f : UInt64 → zM → Option γ} (kk : ∀ M1, QK n xs c M1 G e → P (f (FP.ddiv (FP.i2d (4 * e.1 p - pS4 e)) (4616189618054758400 : UInt64)) M1)) : P (if mK M 1000 = 9 then xn (f_X3_lead 1000 i1 M) f else none) := by
  subst h1
  exact h.ask (kc_X3_lead h.rg own1000 (FC.rf M)) (x_lead (I := mI M) (J := mJ M) (A := mA M) h.1 h.2.2.1 hp) h.2.1 kk
theorem QK.worth (h : QK n xs c M G e) (g : GI k rr G e) {p q lk : Nat} (hp : p < 4) (hq : q < 25) (hlk : eS G 7 ≠ 0 → lk < 25 ∧ e.2.2.2.1 = nI lk) {i1 i : Int32} (h1 : i1 = nI p) (hi : i = nI q) {f : Int32 → zM → Option γ} (kk : ∀ M1, QK n xs c M1 G e → P (f (wth G p q lk) M1)) : P (if mK M 1000 = 9 then xn (f_X3_worth 1000 i1 i M) f else none) := by
  subst hi h1
  obtain ⟨A', ex, hc⟩ := x_worth (I := mI M) (J := mJ M) (A := mA M) h.1 g.1.1 g.f h.2.1 h.2.2.1 hp hq hlk
  exact h.ask (kc_X3_worth h.rg own1000 (FC.rf M)) ex hc kk
theorem QK.outs (h : QK n xs c M G e) (g : GI k rr G e) {p : Nat} (hp : p < 4) {i1 : Int32} (h1 : i1 = nI p) {f : Int32 → zM → Option γ} (kk : ∀ M1, QK n xs c M1 G e → P (f (otv G p) M1)) : P (if mK M 1000 = 9 then xn (f_X3_outs 1000 i1 M) f else none) := by
  subst h1
  obtain ⟨A', ex, hc⟩ := x_outs (I := mI M) (J := mJ M) (A := mA M) h.hA h.2.2.2.1 h.1 g.f g.1.1.v g.1.1.z h.2.1 hp
  exact h.ask (kc_X3_outs h.rg own1000 (FC.rf M)) ex hc kk
theorem QK.digest (h : QK n xs c M G e) (g : GI k rr G e) {f : Int64 → zM → Option γ} (kk : ∀ M1, QK n xs c M1 G e → P (f (dgV G e) M1)) : P (if mK M 1000 = 9 then xn (f_X3_digest 1000 M) f else none) := by
  obtain ⟨A', ex, hc⟩ := x_digest (I := mI M) (J := mJ M) (A := mA M) h.hA h.rg h.1 g.f g.1.1.v g.D g.L h.2.2.1 h.2.1 h.2.2.2.1
  exact h.ask (kc_X3_digest h.rg own1000 (FC.rf M)) ex hc kk
theorem QK.best (h : QK n xs c M G e) (g : GI k rr G e) {f : Int32 × zM → Option γ} (kk : ∀ M1, QK n xs c M1 G e → P (f (bsv G, M1))) : P (if mK M 1000 = 9 then (f_X3_best 1000 M).bind f else none) := by
  obtain ⟨A', ex, hc⟩ := x_best (I := mI M) (J := mJ M) (A := mA M) h.hA h.2.2.2.1 h.1 g.f h.2.1
  have ex' : f_X3_best 1000 M = some (bsv G, cs (mI M) (mJ M) A' M) := ex
  have k1 := kk _ (h.of (kc_X3_best h.rg own1000 (FC.rf M) _ ex') hc h.2.2.1)
  rw [if_pos h.1.1, ex', Option.bind_some]
  exact k1
theorem QK.hand (h : QK n xs c M G e) (g : GI k rr G e) {p : Nat} (hp : p < 4) {i1 : Int32} (h1 : i1 = nI p) {f : Nat → zM → Option γ} (kk : ∀ M1 v q, QK n xs (c + 1) M1 G e → mK M1 v = 1 → f_J0_length_8abf5 v M1 = some (nI q, M1) → sn (eH G p) 0 25 ≤ q → q < 16 → P (f v M1)) : P (if mK M 1000 = 9 then xn (f_X3_hand 1000 i1 M) f else none) := by
  subst h1
  have hX := h.X
  obtain ⟨v, M1, q, ex, km, m1, m2, m3, m4⟩ := x_hand h.1 g.f g.1.1.z h.2.1 h.2.2.2.2.1 hX hp
  have lo := LO.km km hX
  obtain ⟨a1, a2, a3, a4, a5, a6, a7, b1, b2⟩ := h
  have k1 : QK n xs (c + 1) M1 G e := by
    refine ⟨a1.lo lo, a2.lo a1 g.f lo, a3.lo (fun q b hb => (lo.2 b hb).2.2.1 q), fun q hq => ?_, a5.lo lo, ⟨by have := lo.1; omega, fun q a v ha e => ?_, fun a i v ha e => ?_⟩, ⟨(lo.2 0 (by decide)).1.trans a7.1, (lo.2 0 (by decide)).2.1.trans a7.2.1, fun i hi => ((lo.2 0 (by decide)).2.2.2.2.2.1 i (by rw [a7.2.1]; exact hi)).trans (a7.2.2 i hi)⟩, by have := km.1.2.1; omega, by have := km.1.2.2; omega⟩
    · obtain ⟨t1, t2, t3⟩ := a4 q hq
      have hl : ∀ b, 1 ≤ b → b ≤ 3 → mL M b = 5 := fun b x y => (a1.2.2.2.2.2.2.2.2 b x y).2
      exact ⟨((lo.2 1 (by decide)).2.2.2.2.2.1 q (by rw [hl 1 (by decide) (by decide)]; exact hq)).trans t1, ((lo.2 2 (by decide)).2.2.2.2.2.1 q (by rw [hl 2 (by decide) (by decide)]; exact hq)).trans t2, ((lo.2 3 (by decide)).2.2.2.2.2.1 q (by rw [hl 3 (by decide) (by decide)]; exact hq)).trans t3⟩
    · exact a6.2.1 q a v ha (((lo.2 a ha.2).2.2.2.2.1 q).symm.trans e)
    · exact a6.2.2 a i v ha ((congrFun (lo.2 a ha.2).2.2.2.2.2.2 i).symm.trans e)
  have k2 := kk _ v q k1 m1 m2 m3 m4
  rw [if_pos a1.1, ex]
  exact k2
end ASKP
end QKS
