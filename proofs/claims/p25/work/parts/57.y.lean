/-! ===== THE GAME: a thousand points ===== -/
def eTot (e : zPt) : Int32 := e.1 0 + e.1 1 + e.1 2 + e.1 3 + e.2.2.1
theorem eTot_cal (e : zPt) {t : Nat} (ht : t < 4) : eTot (eCal e t) = eTot e := by
  show u1 e.1 t (e.1 t - 10) 0 + u1 e.1 t (e.1 t - 10) 1 + u1 e.1 t (e.1 t - 10) 2 + u1 e.1 t (e.1 t - 10) 3 + (e.2.2.1 + 10) = e.1 0 + e.1 1 + e.1 2 + e.1 3 + e.2.2.1
  rcases (show t = 0 ∨ t = 1 ∨ t = 2 ∨ t = 3 by omega) with rfl | rfl | rfl | rfl
  · rw [u1_at, u1_ne _ _ (by decide), u1_ne _ _ (by decide), u1_ne _ _ (by decide)]
    grind
  · rw [u1_at, u1_ne _ _ (by decide), u1_ne _ _ (by decide), u1_ne _ _ (by decide)]
    grind
  · rw [u1_at, u1_ne _ _ (by decide), u1_ne _ _ (by decide), u1_ne _ _ (by decide)]
    grind
  · rw [u1_at, u1_ne _ _ (by decide), u1_ne _ _ (by decide), u1_ne _ _ (by decide)]
    grind
theorem eTot_lay (e : zPt) (k : Nat) : eTot (eLay e k) = eTot e := rfl
theorem eTot_win (e : zPt) {p t : Nat} (hp : p < 4) (ht : t < 4) (al : Bool) (hpt : al = false → p ≠ t) (x : Int32) : eTot (eWin e p t al x) = eTot e := by
  unfold eTot eWin
  cases al with
  | true =>
    rcases (show p = 0 ∨ p = 1 ∨ p = 2 ∨ p = 3 by omega) with rfl | rfl | rfl | rfl
    · simp
      grind
    · simp
      grind
    · simp
      grind
    · simp
      grind
  | false =>
    have hne := hpt rfl
    rcases (show p = 0 ∨ p = 1 ∨ p = 2 ∨ p = 3 by omega) with rfl | rfl | rfl | rfl <;> rcases (show t = 0 ∨ t = 1 ∨ t = 2 ∨ t = 3 by omega) with rfl | rfl | rfl | rfl <;> first | exact absurd rfl hne | (simp; grind)
theorem eTot_draw (G : zG) (e : zPt) : eTot (eDraw G e) = eTot e := by
  unfold eDraw
  split
  · rfl
  · have hR : crd G 0 4 = (if rdy G 0 = true then 1 else 0) + ((if rdy G 1 = true then 1 else 0) + ((if rdy G 2 = true then 1 else 0) + ((if rdy G 3 = true then 1 else 0) + 0))) := rfl
    show ewP G (crd G 0 4) 0 e.1 0 + ewP G (crd G 0 4) 0 e.1 1 + ewP G (crd G 0 4) 0 e.1 2 + ewP G (crd G 0 4) 0 e.1 3 + e.2.2.1 = e.1 0 + e.1 1 + e.1 2 + e.1 3 + e.2.2.1
    rw [hR]
    unfold ewP
    rw [if_pos (show 0 ≤ 0 ∧ 0 < 4 by decide), if_pos (show 0 ≤ 1 ∧ 1 < 4 by decide), if_pos (show 0 ≤ 2 ∧ 2 < 4 by decide), if_pos (show 0 ≤ 3 ∧ 3 < 4 by decide)]
    clear hR
    generalize rdy G 0 = a
    generalize rdy G 1 = b
    generalize rdy G 2 = c
    generalize rdy G 3 = d
    generalize e.1 0 = x0
    generalize e.1 1 = x1
    generalize e.1 2 = x2
    generalize e.1 3 = x3
    generalize e.2.2.1 = x4
    have n0 : nI 0 = 0 := rfl
    have n1 : nI 1 = 1 := rfl
    have n2 : nI 2 = 2 := rfl
    have n3 : nI 3 = 3 := rfl
    have n4 : nI 4 = 4 := rfl
    cases a <;> cases b <;> cases c <;> cases d <;> simp [n0, n1, n2, n3, n4] <;> grind

/-! ===== THE GAME: a hundred tiles ===== -/
/-- what players hold is what left the wall -/
def WT_ (G : zG) : Prop := ∀ k, k < 25 → TT G k = DC (eS G) k
section WTS
variable {G : zG}
theorem WT_.df (h : WT_ G) (ht : eS G 5 < 4) (h3 : eS G 3 < 100) : WT_ (gDF G) := fun k hk => by
  have e1 : TT (gDF G) k = TT G k + (if k = gK G (99 - eS G 3) then 1 else 0) := TT_add (G := G) ht k
  have e2 : DC (eS (gDF G)) k = DC (eS G) k + (if k = gs (eS G) (99 - eS G 3) then 1 else 0) := DC_four (s := eS G) (s' := eS (gDF G)) rfl rfl rfl rfl h3 k
  rw [e1, e2, h k hk]
  rfl
theorem WT_.draw (hx : WX G) (h : WT_ G) : WT_ (gDraw G) := by
  obtain ⟨⟨a0, a1, a2, a3, a4, a5, -⟩, -⟩ := hx
  unfold gDraw
  split
  · intro k hk
    have e1 : TT (gRec (wS (wS G 2 (eS G 2 + 1)) 4 1) (gK G (40 + eS G 2))) k = TT G k + (if k = gK G (40 + eS G 2) then 1 else 0) := TT_add (G := G) a5 k
    have e2 : DC (eS (gRec (wS (wS G 2 (eS G 2 + 1)) 4 1) (gK G (40 + eS G 2)))) k = DC (eS G) k + (if k = gs (eS G) (40 + eS G 2) then 1 else 0) := DC_draw (s := eS G) (s' := eS (gRec (wS (wS G 2 (eS G 2 + 1)) 4 1) (gK G (40 + eS G 2)))) rfl rfl rfl rfl k
    rw [e1, e2, h k hk]
    rfl
  · exact fun k hk => h k hk
theorem WT_.riv (hx : WX G) (h : WT_ G) {c : Nat} (h0 : eH G (eS G 5) c ≠ 0) : WT_ (gRiv G c) := fun k hk => by
  rw [TT_riv hx.1.2.2.2.2.2.1 h0]
  exact h k hk
theorem WT_.cr (hx : WX G) (h : WT_ G) {c : Nat} (h0 : eH G (eS G 5) c ≠ 0) (p : Nat) : WT_ (gRiv (gCal G p) c) := fun k hk => by
  rw [TT_riv (G := gCal G p) hx.1.2.2.2.2.2.1 h0]
  exact h k hk
theorem WT_.pass (h : WT_ G) (a b : Nat) : WT_ (wS (wS G 5 a) 4 b) := fun k hk => h k hk
theorem WT_.four (hx : WX G) (h : WT_ G) {c : Nat} (hc : c < 25) (hf : fOk G c) : WT_ (gDF (gSet G (eS G 5) 3 c)) := by
  obtain ⟨f1, f2, f3, f4⟩ := hf
  obtain ⟨⟨a0, a1, a2, a3, a4, a5, -⟩, -⟩ := hx
  have hle : ∀ k, k < 25 → tlN 3 c k ≤ eH G (eS G 5) k := fun k _ => by
    unfold tlN
    rw [if_neg (by decide)]
    by_cases y : k = c
    · rw [if_pos y, if_neg (by decide), y]
      exact f3
    · rw [if_neg y]
      exact Nat.zero_le _
  exact WT_.df (G := gSet G (eS G 5) 3 c) (fun k hk => by rw [TT_set (by decide) hc hle hk]; exact h k hk) a5 (by show eS G 3 < 100; omega)
theorem WT_.clm (hx : WX G) (h : WT_ G) {p w : Nat} {i : Int32} (hp : p < 4) (hw2 : w ≤ 2) (hm : oMay G p w i = true) : WT_ (gClm G p w i) := by
  obtain ⟨⟨m1, m2, m3⟩, -⟩ := hx.may hp hm
  obtain ⟨l, hl, hcl, -, -, hle⟩ := may_le hm hw2 (hx.ls m1)
  obtain ⟨⟨a0, a1, a2, a3, a4, a5, -⟩, -, -, -, -, hL, -⟩ := hx
  have e : ∀ k, k < 25 → TT (gSet (gLv G p) p w l) k = DC (eS G) k := fun k hk => by
    rw [TT_set (by omega) hl hle hk, TT_lv a5 hp m2 (hL m1)]
    exact h k hk
  have d : ∀ k, k < 25 → TT (gSet (gLv G p) p w l) k = DC (eS (gSet (gLv G p) p w l)) k := fun k hk => (e k hk).trans (DC_same (s := eS G) (s' := eS (gSet (gLv G p) p w l)) rfl rfl rfl rfl k).symm
  unfold gClm
  rw [← hcl]
  by_cases y : w = 2
  · rw [if_pos y]
    exact WT_.df (G := gSet (gLv G p) p w l) d hp (by show eS G 3 < 100; omega)
  · rw [if_neg y]
    exact d
theorem WT_.win (hx : WX G) (h : WT_ G) {p : Nat} (hp : p < 4) (hw : wOk G p = true) : WT_ (gWin G p) := by
  unfold gWin
  unfold wOk at hw
  by_cases y : eS G 4 = 1
  · rw [if_pos y]
    exact fun k hk => h k hk
  · rw [if_neg y] at hw ⊢
    unfold oByDis at hw
    rw [Bool.and_eq_true] at hw
    have m := of_decide_eq_true hw.1
    obtain ⟨⟨a0, a1, a2, a3, a4, a5, -⟩, -, -, -, -, hL, -⟩ := hx
    intro k hk
    have e1 : TT (wS (gTk G p) 4 3) k = TT (gLv G p) k := rfl
    rw [e1, TT_lv a5 hp m.2 (hL m.1)]
    exact h k hk
theorem WT_.lay (st sh : Nat) : WT_ (gLay G st sh) := fun k hk => by
  have hS : eS (gLay G st sh) = eS (gBeg G st sh) := gAll_S 4 0 _
  have e : TT (gLay G st sh) k = sn (fun q => ct (eS (gBeg G st sh)) k (10 * q) 10) 0 4 := sn_eq 4 0 fun q _ hq => (gAll_pc hk 4 0 (gBeg G st sh) q).trans (if_pos (by omega))
  have e2 : sn (fun q => ct (eS (gBeg G st sh)) k (10 * q) 10) 0 4 = ct (eS (gBeg G st sh)) k 0 40 := by
    unfold ct
    rw [show (40 : Nat) = 10 + (10 + (10 + 10)) from rfl, sn_add _ (10 + (10 + 10)) 10 0, sn_add _ (10 + 10) 10, sn_add _ 10 10]
    rfl
  have s2 : eS (gBeg G st sh) 2 = 0 := rfl
  have s3 : eS (gBeg G st sh) 3 = 0 := rfl
  have key : ∀ s : Nat → Nat, s 2 = 0 → s 3 = 0 → DC s k = ct s k 0 40 := fun s h2 h3 => by
    have z : ct s k 100 0 = 0 := by
      unfold ct
      rw [sn]
    unfold DC
    rw [h2, h3]
    show ct s k 0 40 + ct s k 100 0 = _
    rw [z]
    exact Nat.add_zero _
  have e3 : DC (eS (gBeg G st sh)) k = ct (eS (gBeg G st sh)) k 0 40 := key _ s2 s3
  rw [e, e2, hS, e3]
end WTS
/-! sums over kinds -/
theorem sn_sw {f : Nat → Nat → Nat} : ∀ (d i a b : Nat), sn (fun k => sn (fun p => f k p) a b) i d = sn (fun p => sn (fun k => f k p) i d) a b := by
  intro d
  induction d with
  | zero => exact fun i a b => (sn_0 _ b a fun _ _ _ => rfl).symm
  | succ d ih =>
    intro i a b
    rw [sn, ih (i + 1) a b, ← sn_pl]
    rfl
theorem sn_ind {x : Nat} (hx : x < 25) : sn (fun k => if x = k then 1 else 0) 0 25 = 1 := by
  have key : ∀ x, x < 25 → sn (fun k => if x = k then 1 else 0) 0 25 = 1 := by decide
  exact key x hx
theorem gs_lt (s : Nat → Nat) (t : Nat) : gs s t < 25 := by
  unfold gs
  omega
theorem ct_sn (s : Nat → Nat) (i d : Nat) : sn (fun k => ct s k i d) 0 25 = d := by
  have e : sn (fun k => ct s k i d) 0 25 = sn (fun t => sn (fun k => if gs s t = k then 1 else 0) 0 25) i d := sn_sw 25 0 i d
  rw [e, sn_eq (g := fun _ => 1) d i (fun t _ _ => sn_ind (gs_lt s t))]
  clear e
  induction d generalizing i with
  | zero => rfl
  | succ d ih =>
    rw [sn, ih (i + 1)]
    omega
theorem DC_sn (s : Nat → Nat) : sn (DC s) 0 25 = 40 + s 2 + s 3 := by
  have e : DC s = fun k => ct s k 0 (40 + s 2) + ct s k (100 - s 3) (s 3) := rfl
  rw [e, sn_pl, ct_sn, ct_sn]
/-- the tiles of a player -/
def ptl (G : zG) (p : Nat) : Nat := sn (eH G p) 0 25 + (sn (fun j => if eV G p j / 100 ≤ 1 then 3 else 4) 0 (eN G p) + eM G p)
theorem pc_sn {G : zG} (hx : WX G) (h9 : W9 G) {p : Nat} (hp : p < 4) : sn (fun k => pc G k p) 0 25 = ptl G p := by
  have e : (fun k => pc G k p) = fun k => eH G p k + (sn (fun j => tlN (eV G p j / 100) (eV G p j % 100) k) 0 (eN G p) + sn (fun j => if eR G p j = k then 1 else 0) 0 (eM G p)) := rfl
  obtain ⟨b1, b2⟩ := hx.2.1 p hp
  rw [e, sn_pl, sn_pl, sn_sw 25 0 0 (eN G p), sn_sw 25 0 0 (eM G p)]
  have s1 : sn (fun j => sn (fun k => tlN (eV G p j / 100) (eV G p j % 100) k) 0 25) 0 (eN G p) = sn (fun j => if eV G p j / 100 ≤ 1 then 3 else 4) 0 (eN G p) := sn_eq _ 0 fun j _ hj => by
    obtain ⟨v1, v2⟩ := h9 p hp j (by omega)
    have b := b1 j (by omega)
    exact sn_tl _ (by omega) _ v1 (fun z => by have := v2 z; omega)
  have s2 : sn (fun j => sn (fun k => if eR G p j = k then 1 else 0) 0 25) 0 (eM G p) = eM G p := by
    rw [sn_eq (g := fun _ => 1) (eM G p) 0 (fun j _ hj => sn_ind (b2 j (by omega)))]
    generalize eM G p = m
    have : ∀ d i, sn (fun _ => 1) i d = d := fun d => by
      induction d with
      | zero => exact fun _ => rfl
      | succ d ih =>
        intro i
        rw [sn, ih (i + 1)]
        omega
    exact this m 0
  rw [s1, s2]
  rfl
/-- all that the players have left the wall -/
theorem all_sn {G : zG} (hx : WX G) (h9 : W9 G) (ht : WT_ G) : ptl G 0 + ptl G 1 + ptl G 2 + ptl G 3 = 40 + eS G 2 + eS G 3 := by
  have e1 : sn (TT G) 0 25 = sn (fun p => sn (fun k => pc G k p) 0 25) 0 4 := sn_sw 25 0 0 4
  have e2 : sn (TT G) 0 25 = sn (DC (eS G)) 0 25 := sn_eq 25 0 fun k _ hk => ht k (by omega)
  rw [e2, DC_sn] at e1
  have e3 : sn (fun p => sn (fun k => pc G k p) 0 25) 0 4 = sn (ptl G) 0 4 := sn_eq 4 0 fun p _ hp => pc_sn hx h9 (by omega)
  rw [e3] at e1
  have e4 : sn (ptl G) 0 4 = ptl G 0 + (ptl G 1 + (ptl G 2 + (ptl G 3 + 0))) := rfl
  omega

/-! ===== THE GAME: who called has no open set; who won has eleven; sums of quarters ===== -/
theorem fq_add {a b : UInt64} {i j : Int} (ha : DQ i a) (hb : DQ j b) (hi : (i + j).natAbs ≤ 2 ^ 53) : DQ (i + j) (FP.dadd a b) := by
  obtain ⟨s, c, q, e, w⟩ := ha
  obtain ⟨t, d, r, e', w'⟩ := hb
  have ws := FP.Core.whole_sum w w'
  have m : min (q + 2) (r + 2) = min q r + 2 := by omega
  have es : FP.Core.exactSum (.fin s c (q + 2)) (.fin t d (r + 2)) = .fin (FP.Core.sumSign s t (FP.Core.sumUnits s c q t d r (min q r))) (FP.Core.sumUnits s c q t d r (min q r)).natAbs (min q r + 2) := by
    show FP.Core.Datum.fin (FP.Core.sumSign s t (FP.Core.sumUnits s c (q + 2) t d (r + 2) (min (q + 2) (r + 2)))) (FP.Core.sumUnits s c (q + 2) t d (r + 2) (min (q + 2) (r + 2))).natAbs (min (q + 2) (r + 2)) = _
    have eu : FP.Core.sumUnits s c (q + 2) t d (r + 2) (min (q + 2) (r + 2)) = FP.Core.sumUnits s c q t d r (min q r) := by
      unfold FP.Core.sumUnits FP.Core.inUnits
      rw [m, show q + 2 - (min q r + 2) = q - min q r by omega, show r + 2 - (min q r + 2) = r - min q r by omega]
    rw [eu, m]
  rw [es] at ws
  obtain ⟨c', q', e1, w1⟩ := fq_round hi ws
  refine ⟨_, c', q', ?_, w1⟩
  have e2 : FP.Core.val64 (FP.dadd a b) = FP.Core.round FP.Core.b64 (FP.Core.exactSum (FP.Core.val64 a) (FP.Core.val64 b)) := FP.Core.val64_dadd _ _
  rw [e2, e, e']
  exact e1
theorem fq_0 : DQ 0 FP.dconst0 := by
  refine ⟨false, 0, FP.Core.b64.qmin, FP.Core.val64_dconst0, ?_⟩
  show FP.Core.signed false (0 * _) = 0 * _
  rw [Nat.zero_mul, FP.Core.signed_zero, Int.zero_mul]
/-- who called has no open set -/
def WO (G : zG) : Prop := ∀ p, p < 4 → eC G p = true → opN G p = 0
section WOS
variable {G : zG}
theorem WO.of {G' : zG} (h : WO G) (hN : eN G' = eN G) (hV : eV G' = eV G) (hC : eC G' = eC G) : WO G' := fun p hp hc => by
  unfold opN
  rw [hN, hV]
  rw [hC] at hc
  exact h p hp hc
theorem WO.set (h : WO G) {p f l : Nat} (hc : eC G p = false) : WO (gSet G p f l) := fun q hq z => by
  have z' : eC G q = true := z
  have y : q ≠ p := fun y => by rw [y, hc] at z'; cases z'
  have e := h q hq z'
  have e2 : opN (gSet G p f l) q = sn (fun j => if u2 (eV G) p (eN G p) (100 * f + l) q j / 100 = 3 then 0 else 1) 0 (u1 (eN G) p (eN G p + 1) q) := rfl
  rw [e2, u1_ne _ _ y, u2_off _ _ _ y]
  exact e
theorem WO.draw (h : WO G) : WO (gDraw G) := by
  unfold gDraw
  split
  · exact h.of rfl rfl rfl
  · exact h.of rfl rfl rfl
theorem WO.cal (h : WO G) {t : Nat} (h0 : opN G t = 0) : WO (gCal G t) := fun q hq z => by
  by_cases y : q = t
  · rw [y]; exact h0
  · have z' : u1 (eC G) t true q = true := z
    rw [u1_ne _ _ y] at z'
    exact h q hq z'
theorem WO.clm (h : WO G) {p w : Nat} {i : Int32} (hc : eC G p = false) : WO (gClm G p w i) := by
  have h1 : WO (gLv G p) := h.of rfl rfl rfl
  have h2 := h1.set (p := p) (f := w) (l := cLow G w i) hc
  unfold gClm
  split
  · exact h2.of rfl rfl rfl
  · exact h2
theorem WO.win (h : WO G) (p : Nat) : WO (gWin G p) := by
  unfold gWin
  split
  · exact h.of rfl rfl rfl
  · exact h.of rfl rfl rfl
theorem WO.lay (st sh : Nat) : WO (gLay G st sh) := fun p hp _ => by
  have e : eN (gLay G st sh) p = 0 := gAll_N0 4 0 (gBeg G st sh) p (Or.inl (by omega))
  unfold opN
  rw [e]
  rfl
/-- who won has eleven -/
def WM (G : zG) (wi : Int32) : Prop := eS G 4 = 3 → ∀ p, p < 4 → sz G p = 10 ∨ (sz G p = 11 ∧ wi = nI p)
theorem WM.no {wi : Int32} (h : eS G 4 ≠ 3) : WM G wi := fun z => absurd z h
theorem WM.end_ (hx : WX G) (h0 : eS G 4 = 0) (wi : Int32) : WM (wS G 4 3) wi := fun _ p hp => by
  have c := (hx.2.2.1 p hp).1 (by omega)
  rw [if_neg (fun z => by have := z.1; omega)] at c
  exact Or.inl c
theorem WM.win (hx : WX G) {p : Nat} (hp : p < 4) (hw : wOk G p = true) : WM (gWin G p) (nI p) := fun _ q hq => by
  unfold gWin
  unfold wOk at hw
  by_cases y : eS G 4 = 1
  · rw [if_pos y] at hw ⊢
    unfold oAlone at hw
    rw [Bool.and_eq_true] at hw
    obtain ⟨-, a2, a3⟩ := of_decide_eq_true hw.1
    have c := (hx.2.2.1 q hq).1 (by omega)
    have e : sz (wS G 4 3) q = sz G q := rfl
    rw [e, c]
    by_cases z : q = p
    · have cp := (hx.2.2.1 p hp).1 (by omega)
      unfold sz at cp
      rw [z]
      by_cases u : eS G 4 = 1 ∧ p = eS G 5
      · rw [if_pos u]; exact Or.inr ⟨rfl, rfl⟩
      · rw [if_neg u] at cp; omega
    · by_cases u : eS G 4 = 1 ∧ q = eS G 5
      · have cp := (hx.2.2.1 p hp).1 (by omega)
        unfold sz at cp
        rw [if_neg (fun v => z (u.2.trans v.2.symm))] at cp
        omega
      · rw [if_neg u]; exact Or.inl rfl
  · rw [if_neg y] at hw ⊢
    unfold oByDis at hw
    rw [Bool.and_eq_true] at hw
    have m := of_decide_eq_true hw.1
    have c := (hx.lv hp m.1 m.2).2.2.1 q hq
    have e : sz (wS (gTk G p) 4 3) q = sz (gLv G p) q := rfl
    rw [e, c]
    by_cases z : q = p
    · rw [if_pos z, z]; exact Or.inr ⟨rfl, rfl⟩
    · rw [if_neg z]; exact Or.inl rfl
end WOS

