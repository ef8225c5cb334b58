/-! ===== PURE: points, wins, pot, lucky kind, winner: the reference's calls on them ===== -/
section REU
variable {I : Nat → Nat → Int32} {e : zPt} {pt wn : Nat → Int32} {po lk wi : Int32}
theorem RE.ptU (h : RE I (pt, wn, po, lk, wi)) {p : Nat} (v : Int32) : RE (u2 I 384 (1028 + 4 * p) v) (u1 pt p v, wn, po, lk, wi) := ⟨fun c hc => ⟨by
  show u2 I 384 (1028 + 4 * p) v 384 (1028 + 4 * c) = u1 pt p v c
  unfold u2 u1
  by_cases y : c = p
  · rw [if_pos y, if_pos ⟨rfl, by omega⟩]
  · rw [if_neg y, if_neg (by omega)]
    exact (h.1 c hc).1, (h.1 c hc).2⟩, h.2⟩
theorem RE.wnU (h : RE I (pt, wn, po, lk, wi)) {p : Nat} (v : Int32) : RE (u2 I 385 (1028 + 4 * p) v) (pt, u1 wn p v, po, lk, wi) := ⟨fun c hc => ⟨(h.1 c hc).1, by
  show u2 I 385 (1028 + 4 * p) v 385 (1028 + 4 * c) = u1 wn p v c
  unfold u2 u1
  by_cases y : c = p
  · rw [if_pos y, if_pos ⟨rfl, by omega⟩]
  · rw [if_neg y, if_neg (by omega)]
    exact (h.1 c hc).2⟩, h.2⟩
theorem RE.poU (h : RE I (pt, wn, po, lk, wi)) (v : Int32) : RE (u2 I 427 1026 v) (pt, wn, v, lk, wi) := ⟨fun c hc => h.1 c hc, rfl, h.2.2⟩
theorem RE.lkU (h : RE I (pt, wn, po, lk, wi)) (v : Int32) : RE (u2 I 421 1026 v) (pt, wn, po, v, wi) := ⟨fun c hc => h.1 c hc, h.2.1, rfl, h.2.2.2⟩
theorem RE.wiU (h : RE I (pt, wn, po, lk, wi)) (v : Int32) : RE (u2 I 428 1026 v) (pt, wn, po, lk, v) := ⟨fun c hc => h.1 c hc, h.2.1, h.2.2.1, rfl⟩
theorem RE.ot (h : RE I e) {k a : Nat} (v : Int32) (hk : ek k = false) : RE (u2 I k a v) e := h.eq fun q b hq _ => if_neg fun z => by rw [z.1, hk] at hq; cases hq
theorem RE.cg (h : RE I (pt, wn, po, lk, wi)) {pt' : Nat → Int32} (f : ∀ p, p < 4 → pt p = pt' p) : RE I (pt', wn, po, lk, wi) := ⟨fun c hc => ⟨(h.1 c hc).1.trans (f c hc), (h.1 c hc).2⟩, h.2⟩
theorem RE.eta (h : RE I e) : RE I (e.1, e.2.1, e.2.2.1, e.2.2.2.1, e.2.2.2.2) := h
theorem RE.th (h : RE I e) (v : Int32) : RE (th v I) e := h.ot v rfl
end REU
section XDRAWR
variable {I : Nat → Nat → Int32} {J : Nat → Nat → Int64} {A : Nat → Nat → Int32} {M : zM} {G : zG} {hp dl : Nat → Nat}
/-- the row of who is ready -/
def RDY (A : Nat → Nat → Int32) (G : zG) (a1 m : Nat) : Prop := ∀ p, p < m → A a1 p = b32 (rdy G p)
/-- what one of the unready ones has paid -/
def stR (G : zG) (i j : Nat) (pt : Nat → Int32) (p : Nat) : Int32 := if rdy G i = true then pt p else if p = i then pt p - 10 * nI (crd G 0 j) else if p < j ∧ rdy G p = true then pt p + 10 else pt p
theorem crd_s (G : zG) (j : Nat) : crd G 0 (j + 1) = crd G 0 j + (if rdy G j = true then 1 else 0) := by
  unfold crd
  rw [sn_last, Nat.zero_add]
theorem x_settle_38 (h : RS M hp dl) {a1 : Nat} (ha : mK M a1 = 102 ∧ mL M a1 = 4) (hA : RDY A G a1 4) {i : Nat} (hi : i < 4) {wn : Nat → Int32} {po lk wi : Int32} {K : Nat → Nat → Int32 → zM → Option (Unit × zM)} {pt : Nat → Int32} {F : zPt} (hK : ∀ I, RE I (stR G i 4 pt, wn, po, lk, wi) → ∃ I', K 1026 a1 (nI (i + 1)) (cs I J A M) = some ((), cs I' J A M) ∧ RE I' F) : ∀ (d n j : Nat) (I : Nat → Nat → Int32), j + d = 4 → d < n → RE I (stR G i j pt, wn, po, lk, wi) → ∃ I', f_X7_settle_38 K n 1026 a1 (nI i) (nI j) (cs I J A M) = some ((), cs I' J A M) ∧ RE I' F := by
  have lz : ∀ (I : Nat → Nat → Int32) (j : Nat), j < 4 → lA 2 (cs I J A M) a1 (nI j) = some (b32 (rdy G j)) := fun I j hj => by
    have e : lA 2 (cs I J A M) a1 (nI j) = some (A a1 (nI j).toNatClampNeg) := if_pos ⟨Or.inl ha.1, nI_oob (by show j < mL M a1; rw [ha.2]; exact hj) (by show mL M a1 < _; rw [ha.2]; decide)⟩
    rw [e, nI_cl (by omega), hA j hj]
  intro d
  induction d with
  | zero =>
    intro n j I hj hn he
    obtain ⟨n, rfl⟩ : ∃ m, n = m + 1 := ⟨n - 1, by omega⟩
    obtain rfl : j = 4 := by omega
    rw [f_X7_settle_38, if_pos (le_t (x := 4) 4 4 (by omega) (by omega)), nI_1]
    exact hK I he
  | succ d ih =>
    intro n j I hj hn he
    obtain ⟨n, rfl⟩ : ∃ m, n = m + 1 := ⟨n - 1, by omega⟩
    have hj4 : j < 4 := by omega
    have hs1 := h.2.1 i hi
    have hs2 := h.2.1 j hj4
    have same : (rdy G i = true ∨ rdy G j = false) → ∀ p, p < 4 → stR G i j pt p = stR G i (j + 1) pt p := fun c p hp4 => by
      unfold stR
      by_cases y : rdy G i = true
      · rw [if_pos y, if_pos y]
      · have c' := c.resolve_left y
        rw [if_neg y, if_neg y, crd_s, c', if_neg (show ¬ false = true by decide), Nat.add_zero]
        by_cases z : p = i
        · rw [if_pos z, if_pos z]
        · rw [if_neg z, if_neg z]
          by_cases w : p < j ∧ rdy G p = true
          · rw [if_pos w, if_pos ⟨by omega, w.2⟩]
          · rw [if_neg w, if_neg (fun q => w ⟨by
              by_cases u : p = j
              · rw [u, c'] at q; exact absurd q.2 (by decide)
              · omega, q.2⟩)]
    rw [f_X7_settle_38, if_neg (le_f (x := 4) 4 j (by omega) (by decide)), lz I i hi, Option.bind_some]
    cases hri : rdy G i with
    | true =>
      rw [if_neg (show ¬ b32 true = 0 by decide), nI_1]
      exact ih n (j + 1) I (by omega) (by omega) (he.cg (same (Or.inl hri)))
    | false =>
      rw [if_pos (show b32 false = 0 from rfl), lz I j hj4, Option.bind_some]
      cases hrj : rdy G j with
      | false =>
        rw [if_pos (show b32 false = 0 from rfl), nI_1]
        exact ih n (j + 1) I (by omega) (by omega) (he.cg (same (Or.inr hrj)))
      | true =>
        have hij : j ≠ i := fun z => by rw [z, hri] at hrj; cases hrj
        have e1 := (he.1 i hi).1
        have e2 : u2 I 384 (1028 + 4 * i) (I 384 (1028 + 4 * i) - 10) 384 (1028 + 4 * j) = stR G i j pt j := (if_neg (fun z => hij (by have := z.2; omega))).trans (he.1 j hj4).1
        rw [if_neg (show ¬ b32 true = 0 by decide), gR_cs 417 h.1.1 h.1.2.1, Option.bind_some, h.pl hi, Option.bind_some, gI_cs 384 hs1.1, Option.bind_some, pI_cs 384 hs1.1, Option.bind_some, gR_cs 417 h.1.1 h.1.2.1, Option.bind_some, h.pl hj4, Option.bind_some, gI_cs 384 hs2.1, Option.bind_some, pI_cs 384 hs2.1, Option.bind_some, nI_1, e2, e1]
        refine ih n (j + 1) _ (by omega) (by omega) (((he.ptU (p := i) _).ptU (p := j) _).cg fun p hp4 => ?_)
        have hni : ¬ rdy G i = true := by rw [hri]; decide
        by_cases z : p = j
        · subst z
          rw [u1_at]
          unfold stR
          rw [if_neg hni, if_neg hni, if_neg hij, if_neg hij, if_neg (fun q => Nat.lt_irrefl _ q.1), if_pos ⟨Nat.lt_succ_self _, hrj⟩]
        · rw [u1_ne _ _ z]
          by_cases w : p = i
          · subst w
            rw [u1_at]
            unfold stR
            dsimp only
            rw [if_neg hni, if_neg hni, if_pos rfl, if_pos rfl, crd_s, hrj, if_pos rfl, ← nI_1]
            grind
          · rw [u1_ne _ _ w]
            unfold stR
            rw [if_neg hni, if_neg hni, if_neg w, if_neg w]
            by_cases u : p < j ∧ rdy G p = true
            · rw [if_pos u, if_pos ⟨by omega, u.2⟩]
            · rw [if_neg u, if_neg (fun q => u ⟨by omega, q.2⟩)]
/-- what the unready ones ahead of i have paid -/
def stP (G : zG) (i : Nat) (pt : Nat → Int32) (p : Nat) : Int32 := if rdy G p = true then pt p + 10 * nI (i - crd G 0 i) else if p < i then pt p - 10 * nI (crd G 0 4) else pt p
theorem crd_le (G : zG) (i : Nat) : crd G 0 i ≤ i := sn_le1 _ (fun j => by split <;> omega) i 0
theorem stP_s (G : zG) {i : Nat} (pt : Nat → Int32) : ∀ p, p < 4 → stR G i 4 (stP G i pt) p = stP G (i + 1) pt p := fun p hp4 => by
  have l := crd_le G i
  unfold stR
  by_cases y : rdy G i = true
  · rw [if_pos y]
    unfold stP
    rw [crd_s G i, if_pos y]
    by_cases z : rdy G p = true
    · rw [if_pos z, if_pos z, show i + 1 - (crd G 0 i + 1) = i - crd G 0 i by omega]
    · rw [if_neg z, if_neg z]
      by_cases w : p < i
      · rw [if_pos w, if_pos (by omega)]
      · rw [if_neg w, if_neg (fun q => by
          have : p = i := by omega
          rw [this] at z
          exact z y)]
  · rw [if_neg y]
    unfold stP
    rw [crd_s G i, if_neg y, Nat.add_zero]
    by_cases z : p = i
    · rw [if_pos z, z, if_neg y, if_neg y, if_neg (Nat.lt_irrefl _), if_pos (Nat.lt_succ_self _)]
    · rw [if_neg z]
      by_cases w : rdy G p = true
      · rw [if_pos ⟨hp4, w⟩, if_pos w, if_pos w, show i + 1 - (crd G 0 i + 0) = i - crd G 0 i + 1 by omega, ← nI_1]
        grind
      · rw [if_neg (fun q => w q.2), if_neg w, if_neg w]
        by_cases u : p < i
        · rw [if_pos u, if_pos (by omega)]
        · rw [if_neg u, if_neg (by omega)]
theorem x_settle_31 (h : RS M hp dl) {a1 : Nat} (ha : mK M a1 = 102 ∧ mL M a1 = 4) (hA : RDY A G a1 4) {wn : Nat → Int32} {po lk wi : Int32} {pt : Nat → Int32} : ∀ (d n i : Nat) (I : Nat → Nat → Int32), i + d = 4 → d < n → RE I (stP G i pt, wn, po, lk, wi) → ∃ I', f_X7_settle_31 n 1026 a1 (nI i) (cs I J A M) = some ((), cs I' J A M) ∧ RE I' (stP G 4 pt, wn, po, lk, wi) := by
  intro d
  induction d with
  | zero =>
    intro n i I hi hn he
    obtain ⟨n, rfl⟩ : ∃ m, n = m + 1 := ⟨n - 1, by omega⟩
    obtain rfl : i = 4 := by omega
    exact ⟨I, by rw [f_X7_settle_31, if_pos (le_t (x := 4) 4 4 (by omega) (by omega))], he⟩
  | succ d ih =>
    intro n i I hi hn he
    obtain ⟨n, rfl⟩ : ∃ m, n = m + 1 := ⟨n - 1, by omega⟩
    rw [f_X7_settle_31, if_neg (le_f (x := 4) 4 i (by omega) (by decide))]
    refine x_settle_38 h ha hA (by omega) (pt := stP G i pt) (fun I hI => ih n (i + 1) I (by omega) (by omega) (hI.cg (stP_s G pt))) 4 zN 0 I rfl (by decide) (he.cg fun p hp4 => ?_)
    have c0 : crd G 0 0 = 0 := rfl
    have m0 : (10 : Int32) * nI 0 = 0 := by decide
    unfold stR
    by_cases y : rdy G i = true
    · rw [if_pos y]
    · rw [if_neg y, c0, m0]
      by_cases z : p = i
      · rw [if_pos z, Int32.sub_zero]
      · rw [if_neg z, if_neg (fun q => Nat.not_lt_zero _ q.1)]
theorem stP_0 (G : zG) (pt : Nat → Int32) (p : Nat) : pt p = stP G 0 pt p := by
  have m0 : (10 : Int32) * nI (0 - crd G 0 0) = 0 := by rw [Nat.zero_sub]; decide
  unfold stP
  rw [m0, if_neg (Nat.not_lt_zero _), Int32.add_zero]
  split <;> rfl
theorem stP_4 (G : zG) (pt : Nat → Int32) : ∀ p, p < 4 → stP G 4 pt p = ewP G (crd G 0 4) 0 pt p := fun p hp4 => by
  have l := crd_le G 4
  unfold stP ewP
  rw [if_pos (show 0 ≤ p ∧ p < 4 from ⟨Nat.zero_le _, hp4⟩)]
  by_cases y : rdy G p = true
  · have e4 : (4 : Int32) - nI (crd G 0 4) = nI (4 - crd G 0 4) := pk_sub (a := 4) (b := crd G 0 4) l
    rw [if_pos y, if_pos y, e4]
  · rw [if_neg y, if_neg y, if_pos hp4]
    grind
theorem x_settle_6 (h : RS M hp dl) (hn : RN I J A M G hp dl) (hw : WF G) {a1 : Nat} (ha : mK M a1 = 102 ∧ mL M a1 = 4) {e : zPt} (he : RE I e) : ∀ (d n i : Nat) (A' : Nat → Nat → Int32), i + d = 4 → d < n → RW M a1 A A' → RDY A' G a1 i → ∃ I' A'', f_X7_settle_6 n 1026 a1 (nI i) (cs I J A' M) = some ((), cs I' J A'' M) ∧ RE I' (stP G 4 e.1, e.2.1, e.2.2.1, e.2.2.2.1, e.2.2.2.2) := by
  intro d
  induction d with
  | zero =>
    intro n i A' hi hn hA hR
    obtain ⟨n, rfl⟩ : ∃ m, n = m + 1 := ⟨n - 1, by omega⟩
    obtain rfl : i = 4 := by omega
    rw [f_X7_settle_6, if_pos (le_t (x := 4) 4 4 (by omega) (by omega))]
    obtain ⟨I', e1, f1⟩ := x_settle_31 (J := J) (A := A') h ha hR 4 zN 0 I rfl (by decide) (he.eta.cg fun p _ => stP_0 G e.1 p)
    exact ⟨I', A', e1, f1⟩
  | succ d ih =>
    intro n i A' hi hn' hA hR
    obtain ⟨n, rfl⟩ : ∃ m, n = m + 1 := ⟨n - 1, by omega⟩
    have hi4 : i < 4 := by omega
    have hs1 := h.2.1 i hi4
    have hh := h.2.2.1 i hi4
    obtain ⟨n1, n2, -⟩ := hn.2.1 i hi4
    obtain ⟨w1, w2, -⟩ := hw.2.2.2.2.2.2.2.2.2.2 i hi4
    have hne : hp i ≠ a1 := fun e => by have := ha.1; rw [← e, hh.1] at this; omega
    have hAh : ∀ k, k < 25 → A' (hp i) k = nI (eH G i k) := fun k hk => (hA _ hne k (by rw [hh.2.1]; exact hk)).trans (n1 k hk)
    obtain ⟨w', e1, f⟩ := r_isReady (I := I) (J := J) (A := A') (h.ps hi4) n2.1 w2 (g := eH G i) (fun k hk => by have := w1 k hk; omega) (by have := sn_le (eH G i) 4 25 0 (fun k _ q => w1 k (by omega)); omega) hAh
    rw [f_X7_settle_6, if_neg (le_f (x := 4) 4 i (by omega) (by decide)), gR_cs 417 h.1.1 h.1.2.1, Option.bind_some, h.pl hi4, Option.bind_some, if_pos (show mK (cs I J A' M) (1028 + 4 * i) = 12 from hs1.1), e1, Option.bind_some]
    have ez : ∀ (A2 : Nat → Nat → Int32) (v : Int32), tZ (cs I J A2 M) a1 (nI i) v = some (cs I J (u2 A2 a1 i (vp_nar .boolean v)) M) := fun A2 v => by
      have e : tZ (cs I J A2 M) a1 (nI i) v = some (cs I J (u2 A2 a1 (nI i).toNatClampNeg (vp_nar .boolean v)) M) := if_pos ⟨ha.1, nI_oob (by show i < mL M a1; rw [ha.2]; exact hi4) (by show mL M a1 < _; rw [ha.2]; decide)⟩
      rw [e, nI_cl (by omega)]
    have nar : ∀ b : Bool, vp_nar .boolean (b32 b) = b32 b := fun b => by cases b <;> rfl
    show ∃ I' A'', (tZ (cs I J (ur A' (hp i) w') M) a1 (nI i) (b32 (rdy G i))).bind _ = _ ∧ _
    rw [ez, Option.bind_some, nI_1, nar]
    refine ih n (i + 1) _ (by omega) (by omega) (fun b hb j hj => ?_) (fun p hp9 => ?_)
    · refine (if_neg (fun z => hb z.1)).trans ?_
      by_cases y : b = hp i
      · subst y
        rw [ur_at, f j (by rw [hh.2.1] at hj; exact hj)]
        exact hA _ hb j hj
      · rw [ur_ne _ _ _ y]
        exact hA _ hb j hj
    · by_cases y : p = i
      · subst y
        exact if_pos ⟨rfl, rfl⟩
      · exact (if_neg (fun z => y z.2)).trans ((ur_ne _ _ _ (Ne.symm hne)).trans (hR p (by omega)))
theorem x_settle (h : RS M hp dl) (hn : RN I J A M G hp dl) (hw : WF G) {e : zPt} (he : RE I e) : ∃ I' A', f_X7_settle 1026 (cs I J A M) = some ((), cs I' J A' (nA M 2 4)) ∧ RE I' (stP G 4 e.1, e.2.1, e.2.2.1, e.2.2.2.1, e.2.2.2.2) := by
  have hX := h.2.2.2.2.2.2.2
  have hS := h.st (ST.nA M 2 4)
  have hN : RN I J (ur A (mX M) fun _ => 0) (nA M 2 4) G hp dl := hn.st h (ST.nA M 2 4) (fun _ _ _ => rfl) (fun _ _ _ => rfl) (fun b hb i _ => ur_ne _ _ _ (Nat.ne_of_lt hb))
  obtain ⟨I', A', e1, f1⟩ := x_settle_6 hS hN hw (a1 := mX M) ⟨u1_at _ _ _, u1_at _ _ _⟩ he 4 zN 0 _ rfl (by decide) (fun _ _ _ _ => rfl) (fun p hp9 => absurd hp9 (Nat.not_lt_zero _))
  refine ⟨I', A', ?_, f1⟩
  unfold f_X7_settle f_X7_settle_0
  have e4 : aA 2 (cs I J A M) 4 = some (mX M, cs I J (ur A (mX M) fun _ => 0) (nA M 2 4)) := aA_cs (c := 4) (by decide) 2
  rw [e4, Option.bind_some]
  exact e1
/-- draw, where it goes -/
theorem x_drawR (h : RS M hp dl) (hn : RN I J A M G hp dl) (hw : WF G) (hd : WD G) (h0 : eS G 4 = 0) {e : zPt} (he : RE I e) {v : Int32} {M' : zM} (ex : f_X7_draw 1026 (cs I J A M) = some (v, M')) : RE (mI M') (eDraw G e) := by
  have hX := h.2.2.2.2.2.2.2
  have hn1 := hn.th 0
  have k := h.1.1
  have s1 := hn.1.1
  have e1 := r_start (I := I) (J := J) (A := A) h false 1 (by decide) (by decide)
  have e' : f_X7_start 1026 0 1 (cs I J A M) = some (0, cs (th 0 I) J A M) := e1
  unfold f_X7_draw f_X7_draw_0 at ex
  rw [gI_cs 422 k, Option.bind_some, s1, h0, if_pos (show nI 0 = 0 from rfl)] at ex
  unfold f_X7_draw_13 at ex
  rw [if_pos (show mK (cs I J A M) 1026 = 13 from k), e', Option.bind_some] at ex
  dsimp only at ex
  rw [if_pos rfl, if_pos (show mK (cs (th 0 I) J A M) 1026 = 13 from k), r_canDraw h hn1 hw hd, Option.bind_some] at ex
  dsimp only at ex
  unfold eDraw
  cases hg : gCan G with
  | true =>
    rw [hg, if_neg (show ¬ b32 true = 0 by decide)] at ex
    rw [if_pos rfl]
    have fq : KF (FQ (cs (th 0 I) J A M)) (some (v, M')) := by
      rw [← ex]
      refine KF.b fun v9 => ?_
      refine KF.b fun v10 => ?_
      refine KF.w (fq_pI (FQ.rf _) rfl) fun M2 h2 => ?_
      refine KF.b fun v12 => ?_
      refine KF.i ?_ KF.n
      refine KF.c (kq_X7_take h2) fun r h4 => ?_
      exact KF.s h4
    exact (he.th 0).eq fun k b hk hb => (fq _ rfl).2 k b hk (Nat.lt_of_lt_of_le hb hX)
  | false =>
    rw [hg, if_pos (show b32 false = 0 from rfl), if_pos (show mK (cs (th 0 I) J A M) 1026 = 13 from k)] at ex
    rw [if_neg (by decide)]
    obtain ⟨I', A', e2, f2⟩ := x_settle h hn1 hw (he.th 0)
    have hS := h.st (ST.nA M 2 4)
    have k2 := hS.1.1
    rw [e2, Option.bind_some] at ex
    dsimp only at ex
    rw [pI_cs 428 k2, Option.bind_some, pI_cs 422 k2, Option.bind_some] at ex
    cases ex
    exact ((f2.wiU (-1)).ot 3 rfl).cg (stP_4 G e.1)
theorem x_callR (h : RS M hp dl) (hn : RN I J A M G hp dl) (hw : WF G) (hv : WV G) {c : Nat} (hc : c < 25) (y : cOk G c = true) {e : zPt} (he : RE I e) {v : Int32} {M' : zM} (ex : f_X7_call 1026 (nI c) (cs I J A M) = some (v, M')) : RE (mI M') (eCal e (eS G 5)) ∧ v = e.1 (eS G 5) - 10 := by
  have k := h.1.1
  have hX := h.2.2.2.2.2.2.2
  have ht : eS G 5 < 4 := hw.2.2.2.2.2.1
  have hn1 := hn.th 0
  have e1 := r_start (I := I) (J := J) (A := A) h false 1 (by decide) (by decide)
  have e' : f_X7_start 1026 0 1 (cs I J A M) = some (0, cs (th 0 I) J A M) := e1
  obtain ⟨M1, e2, k1⟩ := r_mayCall h hn1 hw hv hc
  have hS := RS.st (M := cs (th 0 I) J A M) h (ST.km k1)
  have hN : RN (mI M1) (mJ M1) (mA M1) M1 G hp dl := RN.km (M := cs (th 0 I) J A M) hn1 h k1
  have hX1 : 1046 ≤ mX M1 := hS.2.2.2.2.2.2.2
  have h416 : mI M1 416 1026 = 0 := (k1.2 1026 (by show 1026 < mX M; omega)).2.2.1 416
  have he1 : RE (mI M1) e := (he.th 0).eq fun k b _ hb => (k1.2 b (by show b < mX M; omega)).2.2.1 k
  have heta : cs (th 0 (mI M1)) (mJ M1) (mA M1) M1 = M1 := by
    have : th 0 (mI M1) = mI M1 := by
      funext q b
      show (if q = 416 ∧ b = 1026 then 0 else mI M1 q b) = _
      by_cases z : q = 416 ∧ b = 1026
      · rw [if_pos z, z.1, z.2, h416]
      · rw [if_neg z]
    rw [this]
    rfl
  have er := r_refuse (I := mI M1) (J := mJ M1) (A := mA M1) hS false 2 (by decide) (by decide)
  rw [heta] at er
  have er' : f_X7_refuse 1026 0 2 M1 = some (0, cs (th 0 (mI M1)) (mJ M1) (mA M1) M1) := er
  rw [heta] at er'
  have hs1 := hS.2.1 _ ht
  unfold f_X7_call f_X7_call_0 at ex
  rw [r_kind_ok hc, Option.bind_some] at ex
  dsimp only at ex
  rw [if_neg (show ¬ (1 : Int32) = 0 by decide)] at ex
  unfold f_X7_call_13 at ex
  rw [if_pos (show mK (cs I J A M) 1026 = 13 from k), e', Option.bind_some] at ex
  dsimp only at ex
  rw [if_pos rfl, if_pos (show mK (cs (th 0 I) J A M) 1026 = 13 from k), e2, Option.bind_some] at ex
  dsimp only at ex
  rw [y, if_neg (show ¬ b32 true = 0 by decide)] at ex
  unfold f_X7_call_34 at ex
  have eits : f_X7_its 1026 M1 = some (1028 + 4 * eS G 5, M1) := r_its (I := mI M1) (J := mJ M1) (A := mA M1) hS ht hN.1.2.1
  rw [if_pos hS.1.1, er', Option.bind_some] at ex
  dsimp only at ex
  rw [if_pos rfl, if_pos hS.1.1, eits, Option.bind_some] at ex
  dsimp only at ex
  have k13 : ∀ I2, mK (cs I2 (mJ M1) (mA M1) M1) 1026 = 13 := fun _ => hS.1.1
  have a1 : pZ 12 6 M1 (1028 + 4 * eS G 5) 1 = some (cs (u2 (mI M1) 390 (1028 + 4 * eS G 5) 1) (mJ M1) (mA M1) M1) := pZ_cs (I := mI M1) (J := mJ M1) (A := mA M1) 390 hs1.1 (Or.inr rfl)
  rw [a1, Option.bind_some, gI_cs 384 hs1.1, Option.bind_some, pI_cs 384 hs1.1, Option.bind_some, gI_cs 427 hS.1.1, Option.bind_some, pI_cs 427 hS.1.1, Option.bind_some, if_pos (k13 _)] at ex
  have b1 : u2 (mI M1) 390 (1028 + 4 * eS G 5) 1 384 (1028 + 4 * eS G 5) = e.1 (eS G 5) := (if_neg (fun z => by have := z.1; omega)).trans (he1.1 _ ht).1
  have b2 : u2 (u2 (mI M1) 390 (1028 + 4 * eS G 5) 1) 384 (1028 + 4 * eS G 5) (e.1 (eS G 5) - 10) 427 1026 = e.2.2.1 := ((if_neg (fun z => by have := z.1; omega)).trans (if_neg (fun z => by have := z.1; omega))).trans he1.2.1
  rw [b1, b2] at ex
  have he2 : RE (u2 (u2 (u2 (mI M1) 390 (1028 + 4 * eS G 5) 1) 384 (1028 + 4 * eS G 5) (e.1 (eS G 5) - 10)) 427 1026 (e.2.2.1 + 10)) (eCal e (eS G 5)) := ((he1.ot 1 rfl).eta.ptU _).poU _
  cases ea : f_X7_away 1026 (nI c) (cs (u2 (u2 (u2 (mI M1) 390 (1028 + 4 * eS G 5) 1) 384 (1028 + 4 * eS G 5) (e.1 (eS G 5) - 10)) 427 1026 (e.2.2.1 + 10)) (mJ M1) (mA M1) M1) with
  | none =>
    rw [ea] at ex
    cases ex
  | some r =>
    have fq := kq_X7_away (FQ.rf _) _ ea
    have he3 : RE (mI r.2) (eCal e (eS G 5)) := he2.eq fun k b hk hb => fq.2 k b hk (Nat.lt_of_lt_of_le hb hX1)
    rw [ea, Option.bind_some] at ex
    obtain ⟨w, ew, ex⟩ := ob ex
    cases ex
    obtain ⟨-, ew⟩ := ox ew
    refine ⟨he3, ?_⟩
    have e4 := (he3.1 _ ht).1
    have e5 : (eCal e (eS G 5)).1 (eS G 5) = e.1 (eS G 5) - 10 := u1_at _ _ _
    rw [← e5, ← e4]
    exact (Option.some.inj ew).symm
end XDRAWR
