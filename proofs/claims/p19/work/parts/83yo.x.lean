/-! ===== PURE: points, wins, pot, lucky kind, winner: the reference's win ===== -/
/-- what one pays -/
def pyW (p t : Nat) (al : Bool) (x : Int32) (q : Nat) : Int32 := if q = p then 0 else if al = true then 4 * x else if q = t then 12 * x else 0
def pyC (p t : Nat) (al : Bool) (x : Int32) : Nat → Int32
  | 0 => 0
  | i + 1 => pyC p t al x i + pyW p t al x i
def pyS (p t : Nat) (al : Bool) (x : Int32) (pt : Nat → Int32) (i q : Nat) : Int32 := if q = p then pt p + pyC p t al x i else if q < i then pt q - pyW p t al x q else pt q
theorem pyC_4 {p t : Nat} (hp : p < 4) (ht : t < 4) (al : Bool) (hpt : al = false → p ≠ t) (x : Int32) : pyC p t al x 4 = 12 * x := by
  show 0 + pyW p t al x 0 + pyW p t al x 1 + pyW p t al x 2 + pyW p t al x 3 = 12 * x
  unfold pyW
  cases al with
  | true =>
    rcases (show p = 0 ∨ p = 1 ∨ p = 2 ∨ p = 3 by omega) with rfl | rfl | rfl | rfl
    · simp
      grind
    · simp
      grind
    · simp
      grind
    · simp
      grind
  | false =>
    have hne := hpt rfl
    rcases (show p = 0 ∨ p = 1 ∨ p = 2 ∨ p = 3 by omega) with rfl | rfl | rfl | rfl <;> rcases (show t = 0 ∨ t = 1 ∨ t = 2 ∨ t = 3 by omega) with rfl | rfl | rfl | rfl <;> first | exact absurd rfl hne | simp
theorem pyS_s {p t : Nat} (al : Bool) (x : Int32) (pt : Nat → Int32) {i : Nat} (hip : ∀ q, q < 4 → True) : ∀ q, u1 (u1 (pyS p t al x pt i) i (pyS p t al x pt i i - pyW p t al x i)) p (u1 (pyS p t al x pt i) i (pyS p t al x pt i i - pyW p t al x i) p + pyW p t al x i) q = pyS p t al x pt (i + 1) q := fun q => by
  by_cases y : q = p
  · subst y
    rw [u1_at]
    by_cases z : q = i
    · subst z
      rw [u1_at]
      have w0 : pyW q t al x q = 0 := if_pos rfl
      unfold pyS
      rw [if_pos rfl, if_pos rfl, pyC, w0]
      grind
    · rw [u1_ne _ _ z]
      unfold pyS
      rw [if_pos rfl, if_pos rfl, pyC]
      grind
  · rw [u1_ne _ _ y]
    by_cases z : q = i
    · subst z
      rw [u1_at]
      unfold pyS
      rw [if_neg y, if_neg y, if_neg (Nat.lt_irrefl _), if_pos (Nat.lt_succ_self _)]
    · rw [u1_ne _ _ z]
      unfold pyS
      rw [if_neg y, if_neg y]
      by_cases w : q < i
      · rw [if_pos w, if_pos (by omega)]
      · rw [if_neg w, if_neg (by omega)]
section XWINR
variable {I : Nat → Nat → Int32} {J : Nat → Nat → Int64} {A : Nat → Nat → Int32} {M : zM} {G : zG} {hp dl : Nat → Nat}
theorem x_win_88 (h : RS M hp dl) {p t : Nat} (hp4 : p < 4) (ht : t < 4) (al : Bool) (x : Int32) {pt wn : Nat → Int32} {po lk wi : Int32} : ∀ (d n i : Nat) (I : Nat → Nat → Int32), i + d = 4 → d < n → I 423 1026 = nI t → RE I (pyS p t al x pt i, wn, po, lk, wi) → ∃ I', f_X7_win_88 n 1026 (nI p) (1028 + 4 * p) (b32 al) x (nI i) (cs I J A M) = some (x, cs I' J A M) ∧ RE I' (u1 (pyS p t al x pt 4) p (pyS p t al x pt 4 p + po), u1 wn p (wn p + 1), 0, lk, nI p) := by
  have k := h.1.1
  have hs := h.2.1 p hp4
  intro d
  induction d with
  | zero =>
    intro n i I hi hn h423 he
    obtain ⟨n, rfl⟩ : ∃ m, n = m + 1 := ⟨n - 1, by omega⟩
    obtain rfl : i = 4 := by omega
    have e1 : I 384 (1028 + 4 * p) = pyS p t al x pt 4 p := (he.1 p hp4).1
    have e2 : I 427 1026 = po := he.2.1
    have e3 : I 385 (1028 + 4 * p) = wn p := (he.1 p hp4).2
    rw [f_X7_win_88, if_pos (le_t (x := 4) 4 4 (by omega) (by omega)), gI_cs 384 hs.1, Option.bind_some, gI_cs 427 k, Option.bind_some, pI_cs 384 hs.1, Option.bind_some, pI_cs 427 k, Option.bind_some, gI_cs 385 hs.1, Option.bind_some, pI_cs 385 hs.1, Option.bind_some, pI_cs 428 k, Option.bind_some, pI_cs 422 k, Option.bind_some, e1, e2]
    have e4 : u2 (u2 I 384 (1028 + 4 * p) (pyS p t al x pt 4 p + po)) 427 1026 0 385 (1028 + 4 * p) = wn p := ((if_neg (fun z => by have := z.1; omega)).trans (if_neg (fun z => by have := z.1; omega))).trans e3
    rw [e4]
    exact ⟨_, rfl, ((((he.ptU (p := p) _).poU 0).wnU (p := p) _).wiU _).ot 3 rfl⟩
  | succ d ih =>
    intro n i I hi hn h423 he
    obtain ⟨n, rfl⟩ : ∃ m, n = m + 1 := ⟨n - 1, by omega⟩
    have hi4 : i < 4 := by omega
    have hs2 := h.2.1 i hi4
    have e133 : ∀ z : Int32, z = pyW p t al x i → ∃ I', f_X7_win_133 (f_X7_win_88 n) 1026 (nI p) (1028 + 4 * p) (b32 al) x (nI i) z (cs I J A M) = some (x, cs I' J A M) ∧ RE I' (u1 (pyS p t al x pt 4) p (pyS p t al x pt 4 p + po), u1 wn p (wn p + 1), 0, lk, nI p) := fun z hz => by
      subst hz
      have e1 := (he.1 i hi4).1
      have r1 := he.ptU (p := i) (pyS p t al x pt i i - pyW p t al x i)
      have e2 := (r1.1 p hp4).1
      unfold f_X7_win_133
      rw [gR_cs 417 k h.1.2.1, Option.bind_some, h.pl hi4, Option.bind_some, gI_cs 384 hs2.1, Option.bind_some, pI_cs 384 hs2.1, Option.bind_some, e1]
      dsimp only at e2 ⊢
      rw [gI_cs 384 hs.1, Option.bind_some, pI_cs 384 hs.1, Option.bind_some, e2, nI_1]
      exact ih n (i + 1) _ (by omega) (by omega) (((if_neg (fun z => by have := z.1; omega)).trans (if_neg (fun z => by have := z.1; omega))).trans h423) ((r1.ptU (p := p) _).cg fun q _ => pyS_s al x pt (fun _ _ => trivial) q)
    rw [f_X7_win_88, if_neg (le_f (x := 4) 4 i (by omega) (by decide))]
    by_cases y : i = p
    · rw [if_pos (congrArg nI y)]
      exact e133 0 (if_pos y).symm
    · rw [if_neg (eq_f i p y (by omega) (by omega))]
      cases al with
      | true =>
        rw [if_neg (show ¬ b32 true = 0 by decide)]
        exact e133 _ ((if_neg y).trans (if_pos rfl)).symm
      | false =>
        rw [if_pos (show b32 false = 0 from rfl), gI_cs 423 k, Option.bind_some, h423]
        by_cases z : i = t
        · rw [if_pos (congrArg nI z)]
          exact e133 _ (((if_neg y).trans (if_neg (by decide))).trans (if_pos z)).symm
        · rw [if_neg (eq_f i t z (by omega) (by omega))]
          exact e133 _ (((if_neg y).trans (if_neg (by decide))).trans (if_neg z)).symm
/-- paid, and won -/
theorem pyS_4 {p t : Nat} (hp : p < 4) (ht : t < 4) (al : Bool) (hpt : al = false → p ≠ t) (x : Int32) (e : zPt) : ∀ q, q < 4 → u1 (pyS p t al x e.1 4) p (pyS p t al x e.1 4 p + e.2.2.1) q = (eWin e p t al x).1 q := fun q hq => by
  show _ = if q = p then _ else if al = true then _ else if q = t then _ else _
  by_cases y : q = p
  · subst y
    rw [u1_at, if_pos rfl]
    unfold pyS
    rw [if_pos rfl, pyC_4 hp ht al hpt x]
  · rw [u1_ne _ _ y, if_neg y]
    unfold pyS pyW
    rw [if_neg y, if_pos hq, if_neg y]
    by_cases z : al = true
    · rw [if_pos z, if_pos z]
    · rw [if_neg z, if_neg z]
      by_cases w : q = t
      · rw [if_pos w, if_pos w]
      · rw [if_neg w, if_neg w, Int32.sub_zero]
theorem pyS_0 (p t : Nat) (al : Bool) (x : Int32) (pt : Nat → Int32) (q : Nat) : pt q = pyS p t al x pt 0 q := by
  unfold pyS
  by_cases y : q = p
  · subst y
    rw [if_pos rfl]
    exact (Int32.add_zero _).symm
  · rw [if_neg y, if_neg (Nat.not_lt_zero _)]
theorem x_win_77 (h : RS M hp dl) (hn : RNQ I J A M G hp dl) {p t lk D : Nat} (hp4 : p < 4) (ht : t < 4) (hN : eN G p ≤ 3) (hv : ∀ j, j < eN G p → eV G p j < 400) (hvo : VOK (eV G p) (eN G p)) (hc : cmp 25 0 (eH G p) = true) (h11 : sn (eH G p) 0 25 + 3 * eN G p = 11) (h5 : ∀ k, k < 25 → alk (eH G p) (eV G p) (eN G p) k ≤ 5) (hlk : I 421 1026 = nI lk) (hlk25 : lk < 25) (hD : I 424 1026 = nI D) (hD4 : D < 4) (h423 : I 423 1026 = nI t) (al : Bool) (hpt : al = false → p ≠ t) {e : zPt} (he : RE I e) : ∃ M', f_X7_win_77 1026 (nI p) (1028 + 4 * p) (b32 al) (cs I J A M) = some (nI (VLG al G p lk D), M') ∧ RE (mI M') (eWin e p t al (nI (VLG al G p lk D))) := by
  have hX := h.2.2.2.2.2.2.2
  obtain ⟨Y, y1, y2, y3⟩ := val_eq (wd := (p + 4 - D) % 4) (Nat.mod_lt _ (by decide)) hvo hc h5 al (eC G p) (sn (fun j => if eV G p j / 100 = 3 then 0 else 1) 0 (eN G p)) lk
  have hg5 : ∀ k, k < 25 → eH G p k ≤ 5 := fun k hk => by
    have := h5 k hk
    unfold alk at this
    omega
  obtain ⟨M1, e1, k1⟩ := x_valueR (M := cs I J A M) (h.vb hn hp4 hN hv hlk hlk25) h.1.2.1 (h.pl hp4) hD hD4 hp4 hN (hn.1 p hp4).2.2.2.2 al hg5 h11 (hn.1 p hp4).1 y1 y2
  have ev : min 12 (Y + vtl al (eC G p) (sn (fun j => if eV G p j / 100 = 3 then 0 else 1) 0 (eN G p)) lk (alk (eH G p) (eV G p) (eN G p))) = VLG al G p lk D := y3
  rw [ev] at e1
  have hS := RS.st (M := cs I J A M) h (ST.km k1)
  have ki : ∀ k b, b < 1046 → mI M1 k b = I k b := fun k b hb => (k1.2 b (by show b < mX M; omega)).2.2.1 k
  have he1 : RE (mI M1) e := he.eq fun k b _ hb => ki k b hb
  obtain ⟨I', e2, f2⟩ := x_win_88 (J := mJ M1) (A := mA M1) hS hp4 ht al (nI (VLG al G p lk D)) (pt := e.1) 4 zN 0 (mI M1) rfl (by decide) ((ki 423 1026 (by decide)).trans h423) (he1.eta.cg fun q _ => pyS_0 p t al _ e.1 q)
  refine ⟨cs I' (mJ M1) (mA M1) M1, ?_, f2.cg (pyS_4 hp4 ht al hpt _ e)⟩
  unfold f_X7_win_77
  rw [if_pos (show mK (cs I J A M) 1026 = 13 from h.1.1), e1, Option.bind_some]
  exact e2
theorem x_winR (h : RS M hp dl) (hx : WX G) (h9 : W9 G) (hw : WF G) (hn : RN I J A M G hp dl) {p : Nat} (hp4 : p < 4) (y : wOk G p = true) {D lk : Nat} (hD : I 424 1026 = nI D) (hD4 : D < 4) (hlk25 : lk < 25) {e : zPt} (he : RE I e) (helk : e.2.2.2.1 = nI lk) : ∃ M', f_X7_win 1026 (nI p) (cs I J A M) = some (nI (VLG (decide (eS G 4 = 1)) (gWt G p) p lk D), M') ∧ RE (mI M') (eWin e p (eS G 5) (decide (eS G 4 = 1)) (nI (VLG (decide (eS G 4 = 1)) (gWt G p) p lk D))) := by
  have k := h.1.1
  have hw4 : eS G 4 < 4 := hw.2.2.2.2.1
  have ht : eS G 5 < 4 := hw.2.2.2.2.2.1
  have hs := h.2.1 p hp4
  have hh := h.2.2.1 p hp4
  have hn1 := hn.th 0
  have hz := hx.z
  have hv := hx.v
  have hL := hx.2.2.2.2.2.1
  have hlk : th 0 I 421 1026 = nI lk := (he.th 0).2.2.1.trans helk
  obtain ⟨o1, o2, o3⟩ := win_ok hx hp4 y
  have e0 := r_start (I := I) (J := J) (A := A) h false 1 (by decide) (by decide)
  have e' : f_X7_start 1026 0 1 (cs I J A M) = some (0, cs (th 0 I) J A M) := e0
  obtain ⟨A1, e1, f1⟩ := r_mayWin h hn1 hw hx.z1 hx.2.2.2.2.2.2.2.2.1 hp4
  obtain ⟨w1, w2, w3, w4⟩ := hw.2.2.2.2.2.2.2.2.2.2 p hp4
  have er := r_refuse (I := I) (J := J) (A := A1) h false 2 (by decide) (by decide)
  have er' : f_X7_refuse 1026 0 2 (cs (th 0 I) J A1 M) = some (0, cs (th 0 I) J A1 M) := er
  have he0 : RE (th 0 I) e := he.th 0
  have h423 : th 0 I 423 1026 = nI (eS G 5) := f1.1.2.1
  unfold f_X7_win f_X7_win_0
  rw [r_noPl_ok hp4, Option.bind_some]
  dsimp only
  rw [if_pos (show mK (cs I J A M) 1026 = 13 from k), e', Option.bind_some]
  dsimp only
  rw [if_pos rfl, if_pos (show mK (cs (th 0 I) J A M) 1026 = 13 from k), e1, Option.bind_some]
  dsimp only
  rw [y, if_neg (show ¬ b32 true = 0 by decide)]
  unfold f_X7_win_26
  rw [if_pos (show mK (cs (th 0 I) J A1 M) 1026 = 13 from k), er', Option.bind_some]
  dsimp only
  rw [if_pos rfl, gR_cs 417 k h.1.2.1, Option.bind_some, h.pl hp4, Option.bind_some, gI_cs 422 k, Option.bind_some, f1.1.1]
  unfold wOk at y
  by_cases y1 : eS G 4 = 1
  · have eg : gWt G p = G := if_pos y1
    rw [eg] at o1 o2 o3
    rw [if_pos (show nI (eS G 4) = 1 by rw [y1]; rfl), decide_eq_true y1, eg]
    unfold f_X7_win_55
    rw [if_neg (show ¬ (1 : Int32) = 0 by decide)]
    exact x_win_77 h f1.2 hp4 ht w2 (fun j hj => hv p hp4 j hj) (h9 p hp4) o1 o2 o3 hlk hlk25 hD hD4 h423 true (fun z => by cases z) he0
  · rw [if_neg y1] at y
    have eg : gWt G p = gTk G p := if_neg y1
    rw [eg] at o1 o2 o3
    have y2 : eS G 4 = 2 ∧ p ≠ eS G 5 := by
      unfold oByDis at y
      exact of_decide_eq_true ((Bool.and_eq_true _ _).mp y).1
    have hL1 := hL y2.1
    have hm60 : eM G (eS G 5) ≤ 60 := (hw.2.2.2.2.2.2.2.2.2.2 _ ht).2.2.1
    have hl25 : lst G < 25 := (hw.2.2.2.2.2.2.2.2.2.2 _ ht).2.2.2 _ (by omega)
    have hoff : th 0 I 430 1026 = nI (lst G) := f1.1.2.2.2.2.2.2.2 y2.1
    rw [if_neg (eq_f (y := 1) (eS G 4) 1 y1 (by omega) (by decide)), decide_eq_false y1, eg]
    obtain ⟨v, q1, q2, q3⟩ := r_leave h f1.2 f1.1.2.1 ht (by omega) hm60
    generalize hM1 : sQ M (dl (1031 + 4 * eS G 5)) (eM G (eS G 5) - 1) none = M1 at *
    generalize hI1 : u2 (u2 (th 0 I) 160 (1031 + 4 * eS G 5) v) 162 (1031 + 4 * eS G 5) (nI (eM G (eS G 5) - 1)) = I1 at *
    have i1 : ∀ k, I1 k 1026 = th 0 I k 1026 := fun k => by
      rw [← hI1]
      exact (if_neg (fun z => by have := z.2; omega)).trans (if_neg (fun z => by have := z.2; omega))
    have he1 : RE I1 e := by
      rw [← hI1]
      exact (he0.ot _ rfl).ot _ rfl
    have hs2 := q2.2.1 _ hp4
    have hh2 := q2.2.2.1 _ hp4
    have hk2 := q2.1.1
    have hrow := (q3.1 _ hp4).1 _ hl25
    have q4 : RNQ I1 J (u2 A1 (hp p) (lst G) (nI (eH G p (lst G) + 1))) M1 (gTk G p) hp dl := q3.c1 q2 hp4 hl25
    have ex : lA 0 (cs I1 J A1 M1) (hp p) (nI (lst G)) = some (A1 (hp p) (lst G)) := lA_cs hh2.1 (by rw [hh2.2.1]; exact hl25) (by rw [hh2.2.1]; decide)
    unfold f_X7_win_55
    rw [if_pos rfl, if_pos (show mK (cs (th 0 I) J A1 M) 1026 = 13 from k), q1, Option.bind_some]
    dsimp only
    rw [gR_cs 386 hs2.1 hs2.2.1, Option.bind_some, gI_cs 430 hk2, Option.bind_some, (i1 430).trans hoff, ex, Option.bind_some, hrow, show nI (eH (gM1 G) p (lst G)) + 1 = nI (eH G p (lst G) + 1) from nI_1 _, tA_cs hh2.1 (by rw [hh2.2.1]; exact hl25) (by rw [hh2.2.1]; decide), Option.bind_some]
    exact x_win_77 (G := gTk G p) q2 q4 hp4 ht w2 (fun j hj => hv p hp4 j hj) (h9 p hp4) o1 o2 o3 ((i1 421).trans hlk) hlk25 ((i1 424).trans hD) hD4 ((i1 423).trans h423) false (fun _ => y2.2) he1
end XWINR
