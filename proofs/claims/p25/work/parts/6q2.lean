/-! ===== THE CLASS ALONE: what is played ===== -/
section PLAYP
variable {n : Nat} {xs : Nat → Int32} {c k rr : Nat} {M : zM} {G : zG} {e : zPt} {γ : Type} {P : Option γ → Prop}
theorem QK.go {α : Type} (h : QK n xs c M G e) {x : Option ((String ⊕ α) × zM)} {v : α} {I' : Nat → Nat → Int32} {J' : Nat → Nat → Int64} {A' : Nat → Nat → Int32} {G' : zG} {e' : zPt} (kf : KF (FC M) x) (ex : x = some (.inr v, cs I' J' A' M)) (hc : CR I' J' A' G') (he : CE I' e') : ∃ M1, x = some (.inr v, M1) ∧ QK n xs c M1 G' e' := ⟨_, ex, h.of (kf _ ex) hc he⟩
theorem QK.no {α : Type} (h : QK n xs c M G e) {x : Option ((String ⊕ α) × zM)} {E : String} {A' : Nat → Nat → Int32} (kf : KF (FC M) x) (ex : x = some (.inl E, cs (mI M) (mJ M) A' (nE M))) (hc : CR (mI M) (mJ M) A' G) : ∃ M1, x = some (.inl E, M1) ∧ QK n xs (c + 1) M1 G e := ⟨_, ex, h.bad (kf _ ex) hc⟩
theorem P_n {α : Type} {x : Option ((String ⊕ α) × zM)} {v : α} {M1 : zM} {f : α → zM → Option γ} (h0 : mK M 1000 = 9) (ex : x = some (.inr v, M1)) (kk : P (f v M1)) : P (if mK M 1000 = 9 then xn x f else none) := by
  rw [if_pos h0, ex]
  exact kk
theorem P_c {α : Type} {x : Option ((String ⊕ α) × zM)} {v : α} {M1 : zM} {fe : String → zM → Option γ} {f : α → zM → Option γ} (h0 : mK M 1000 = 9) (ex : x = some (.inr v, M1)) (kk : P (f v M1)) : P (if mK M 1000 = 9 then xc x fe f else none) := by
  rw [if_pos h0, ex]
  exact kk
theorem P_e {α : Type} {x : Option ((String ⊕ α) × zM)} {E : String} {M1 : zM} {fe : String → zM → Option γ} {f : α → zM → Option γ} (h0 : mK M 1000 = 9) (ex : x = some (.inl E, M1)) (kk : P (fe E M1)) : P (if mK M 1000 = 9 then xc x fe f else none) := by
  rw [if_pos h0, ex]
  exact kk
theorem QK.draw (h : QK n xs c M G e) (g : GI k rr G e) (h0 : eS G 4 = 0) {f : Int32 → zM → Option γ} (kk : ∀ M1, QK n xs c M1 (gDraw G) (eDraw G e) → P (f (if gCan G = true then nI (gK G (40 + eS G 2)) else -1) M1)) : P (if mK M 1000 = 9 then xn (f_X3_draw 1000 M) f else none) := by
  rcases q_draw (I := mI M) (J := mJ M) (A := mA M) h.1 g.f h.2.1 with ⟨y, -⟩ | ⟨-, I', A', ex, hc⟩
  · exact absurd h0 y
  · have ce : CE I' (eDraw G e) := x_draw (I := mI M) (J := mJ M) (A := mA M) h.1 g.f h.X h.2.1 h0 h.2.2.1 ex
    obtain ⟨M1, e1, k1⟩ := h.go (kc_X3_draw h.rg own1000 (FC.rf M)) ex hc ce
    exact P_n h.1.1 e1 (kk M1 k1)
theorem QK.lay (h : QK n xs c M G e) (g : GI k rr G e) (h3 : eS G 4 = 3) {st sh : Nat} (n1 : st ≠ 0) (n2 : st < 100) (n3 : st % 2 ≠ 0) (n4 : st % 5 ≠ 0) (n5 : sh < 100) {i1 i2 : Int32} (h1 : i1 = nI st) (h2 : i2 = nI sh) {f : Int32 → zM → Option γ} (kk : ∀ M1, QK n xs c M1 (gLay G st sh) (eLay e (gK (gBeg G st sh) 95)) → P (f (nI (eS G 6 % 4)) M1)) : P (if mK M 1000 = 9 then xn (f_X3_lay 1000 i1 i2 M) f else none) := by
  subst h1 h2
  have q := q_lay (I := mI M) (J := mJ M) (A := mA M) h.1 g.f h.2.1 (nI st) (nI sh)
  have y : ¬ (nI st < 0 ∨ (nI st).toNatClampNeg = 0 ∨ 100 ≤ (nI st).toNatClampNeg ∨ (nI st).toNatClampNeg % 2 = 0 ∨ (nI st).toNatClampNeg % 5 = 0 ∨ nI sh < 0 ∨ 100 ≤ (nI sh).toNatClampNeg) := by
    rw [nI_cl (by omega), nI_cl (by omega)]
    have z1 := nI_nn (n := st) (by omega)
    have z2 := nI_nn (n := sh) (by omega)
    rintro (z | z | z | z | z | z | z)
    · exact z1 z
    · exact n1 z
    · omega
    · exact n3 z
    · exact n4 z
    · exact z2 z
    · omega
  have eo : oLay G (nI st) (nI sh) = none := (if_neg y).trans (if_pos h3)
  rw [eo] at q
  obtain ⟨I', J', A', ex, hc⟩ := q
  rw [nI_cl (by omega), nI_cl (by omega)] at hc
  have ce : CE I' (eLay e (gK (gBeg G st sh) 95)) := x_lay (I := mI M) (J := mJ M) (A := mA M) h.1 g.f h.X h.2.1 n1 n2 n3 n4 n5 h3 h.2.2.1 ex
  obtain ⟨M1, e1, k1⟩ := h.go (kc_X3_lay h.rg own1000 (FC.rf M)) ex hc ce
  exact P_n h.1.1 e1 (kk M1 k1)
theorem QK.disc (h : QK n xs c M G e) (g : GI k rr G e) {q : Nat} (hq : q < 25) {i : Int32} (hi : i = nI q) {fe : String → zM → Option γ} {f : Int32 → zM → Option γ} (ko : dOk G q → ∀ M1, QK n xs c M1 (gRiv G q) e → P (f (nI (eM G (eS G 5) + 1)) M1)) (kn : ¬ dOk G q → ∀ M1, QK n xs (c + 1) M1 G e → P (fe "java/lang/IllegalStateException" M1)) : P (if mK M 1000 = 9 then xc (f_X3_discard 1000 i M) fe f else none) := by
  subst hi
  have z := q_discard (I := mI M) (J := mJ M) (A := mA M) h.1 g.f h.2.1 (nI q)
  have ecl : (nI q).toNatClampNeg = q := nI_cl (by omega)
  have y : ¬ (nI q < 0 ∨ 25 ≤ (nI q).toNatClampNeg) := by
    rw [ecl]
    rintro (z | z)
    · exact nI_nn (by omega) z
    · omega
  by_cases d : dOk G q
  · have eo : oDisc G (nI q) = none := by
      unfold oDisc
      rw [if_neg y, ecl]
      exact if_pos d
    rw [eo] at z
    obtain ⟨I', J', A', ex, hc⟩ := z
    rw [ecl] at hc
    obtain ⟨M1, e1, k1⟩ := h.go (kc_X3_discard h.rg own1000 (FC.rf M)) ex hc (h.ce (kq_X3_discard (FQ.rf M) _ ex))
    exact P_c h.1.1 e1 (ko d M1 k1)
  · have eo : oDisc G (nI q) = some "java/lang/IllegalStateException" := by
      unfold oDisc
      rw [if_neg y, ecl]
      exact if_neg d
    rw [eo] at z
    obtain ⟨M1, e1, k1⟩ := h.no (kc_X3_discard h.rg own1000 (FC.rf M)) z h.2.1
    exact P_e h.1.1 e1 (kn d M1 k1)
theorem QK.four (h : QK n xs c M G e) (g : GI k rr G e) {q : Nat} (hq : q < 25) {i : Int32} (hi : i = nI q) {fe : String → zM → Option γ} {f : Int32 → zM → Option γ} (ko : fOk G q → ∀ M1, QK n xs c M1 (gDF (gSet G (eS G 5) 3 q)) e → P (f (nI (gK G (99 - eS G 3))) M1)) (kn : ¬ fOk G q → ∀ M1, QK n xs (c + 1) M1 G e → P (fe "java/lang/IllegalStateException" M1)) : P (if mK M 1000 = 9 then xc (f_X3_four 1000 i M) fe f else none) := by
  subst hi
  have z := q_four (I := mI M) (J := mJ M) (A := mA M) h.1 g.f g.1.1.z h.2.1 (nI q)
  have ecl : (nI q).toNatClampNeg = q := nI_cl (by omega)
  have y : ¬ oBad (nI q) := by
    unfold oBad
    rw [ecl]
    rintro (z | z)
    · exact nI_nn (by omega) z
    · omega
  by_cases d : fOk G q
  · have eo : oFour G (nI q) = none := by
      unfold oFour
      rw [if_neg y, ecl]
      exact if_pos d
    rw [eo] at z
    obtain ⟨I', J', A', ex, hc⟩ := z
    rw [ecl] at hc
    obtain ⟨M1, e1, k1⟩ := h.go (kc_X3_four h.rg own1000 (FC.rf M)) ex hc (h.ce (kq_X3_four (FQ.rf M) _ ex))
    exact P_c h.1.1 e1 (ko d M1 k1)
  · have eo : oFour G (nI q) = some "java/lang/IllegalStateException" := by
      unfold oFour
      rw [if_neg y, ecl]
      exact if_neg d
    rw [eo] at z
    obtain ⟨M1, e1, k1⟩ := h.no (kc_X3_four h.rg own1000 (FC.rf M)) z h.2.1
    exact P_e h.1.1 e1 (kn d M1 k1)
theorem QK.call (h : QK n xs c M G e) (g : GI k rr G e) {q : Nat} (hq : q < 25) {i : Int32} (hi : i = nI q) {fe : String → zM → Option γ} {f : Int32 → zM → Option γ} (ko : cOk G q = true → ∀ M1, QK n xs c M1 (gRiv (gCal G (eS G 5)) q) (eCal e (eS G 5)) → P (f (e.1 (eS G 5) - 10) M1)) (kn : cOk G q = false → ∀ M1, QK n xs (c + 1) M1 G e → P (fe "java/lang/IllegalStateException" M1)) : P (if mK M 1000 = 9 then xc (f_X3_call 1000 i M) fe f else none) := by
  subst hi
  have z := q_call (I := mI M) (J := mJ M) (A := mA M) h.1 g.f g.1.1.v g.1.1.z h.2.1 (nI q)
  have ecl : (nI q).toNatClampNeg = q := nI_cl (by omega)
  have y : ¬ oBad (nI q) := by
    unfold oBad
    rw [ecl]
    rintro (z | z)
    · exact nI_nn (by omega) z
    · omega
  by_cases d : cOk G q = true
  · have d' := of_decide_eq_true d
    obtain ⟨I', J', A', ex, hc, ce⟩ := x_call (I := mI M) (J := mJ M) (A := mA M) h.1 g.f g.1.1.v g.1.1.z h.X h.2.1 hq d'.1 d'.2.2.1 d'.2.1 d'.2.2.2.1 d'.2.2.2.2 h.2.2.1
    obtain ⟨M1, e1, k1⟩ := h.go (kc_X3_call h.rg own1000 (FC.rf M)) ex hc ce
    exact P_c h.1.1 e1 (ko d M1 k1)
  · have eo : oCall G (nI q) = some "java/lang/IllegalStateException" := by
      unfold oCall
      rw [if_neg y, ecl]
      exact if_neg (fun u => d (decide_eq_true ⟨u.1, u.2.2.1, u.2.1, u.2.2.2.1, u.2.2.2.2⟩))
    rw [eo] at z
    obtain ⟨A', ex, hc⟩ := z
    obtain ⟨M1, e1, k1⟩ := h.no (kc_X3_call h.rg own1000 (FC.rf M)) ex hc
    exact P_e h.1.1 e1 (kn (by cases hx : cOk G q; rfl; exact absurd hx d) M1 k1)
theorem QK.claim (h : QK n xs c M G e) (g : GI k rr G e) {p w : Nat} (hp : p < 4) (hw : w ≤ 2) {i1 i2 i3 : Int32} (h1 : i1 = nI p) (h2 : i2 = nI w) {fe : String → zM → Option γ} {f : Int32 → zM → Option γ} (ko : oMay G p w i3 = true → ∀ M1, QK n xs c M1 (gClm G p w i3) e → P (f (nI (eN G p + 1)) M1)) (kn : oMay G p w i3 = false → ∀ M1, QK n xs (c + 1) M1 G e → P (fe "java/lang/IllegalStateException" M1)) : P (if mK M 1000 = 9 then xc (f_X3_claim 1000 i1 i2 i3 M) fe f else none) := by
  subst h1 h2
  have z := q_claim (I := mI M) (J := mJ M) (A := mA M) h.1 g.f g.L g.1.1.t h.2.1 (nI p) (nI w) i3 (fun p w hp _ hm => (g.1.1.may hp hm).2)
  have e1 : (nI p).toNatClampNeg = p := nI_cl (by omega)
  have e2 : (nI w).toNatClampNeg = w := nI_cl (by omega)
  have y1 : ¬ (nI p < 0 ∨ 4 ≤ (nI p).toNatClampNeg) := by
    rw [e1]
    rintro (z | z)
    · exact nI_nn (by omega) z
    · omega
  have y2 : ¬ (nI w < 0 ∨ 3 ≤ (nI w).toNatClampNeg) := by
    rw [e2]
    rintro (z | z)
    · exact nI_nn (by omega) z
    · omega
  by_cases d : oMay G p w i3 = true
  · have eo : oClaim G (nI p) (nI w) i3 = none := by
      unfold oClaim
      rw [if_neg y1, if_neg y2, e1, e2]
      exact if_pos d
    rw [eo] at z
    obtain ⟨I', A', ex, hc⟩ := z
    rw [e1] at ex
    rw [e1, e2] at hc
    obtain ⟨M1, e3, k1⟩ := h.go (kc_X3_claim h.rg own1000 (FC.rf M)) ex hc (h.ce (kq_X3_claim (FQ.rf M) _ ex))
    exact P_c h.1.1 e3 (ko d M1 k1)
  · have eo : oClaim G (nI p) (nI w) i3 = some "java/lang/IllegalStateException" := by
      unfold oClaim
      rw [if_neg y1, if_neg y2, e1, e2]
      exact if_neg d
    rw [eo] at z
    obtain ⟨M1, e3, k1⟩ := h.no (kc_X3_claim h.rg own1000 (FC.rf M)) z h.2.1
    exact P_e h.1.1 e3 (kn (by cases hx : oMay G p w i3; rfl; exact absurd hx d) M1 k1)
theorem QK.pass (h : QK n xs c M G e) (g : GI k rr G e) (h2 : eS G 4 = 2) {f : Int32 → zM → Option γ} (kk : ∀ M1, QK n xs c M1 (wS (wS G 5 ((eS G 5 + 1) % 4)) 4 0) e → P (f (nI ((eS G 5 + 1) % 4)) M1)) : P (if mK M 1000 = 9 then xn (f_X3_pass 1000 M) f else none) := by
  rcases q_pass (I := mI M) (J := mJ M) (A := mA M) h.1 h.2.1 g.f with ⟨y, -⟩ | ⟨-, I', ex, hc⟩
  · exact absurd h2 y
  · obtain ⟨M1, e1, k1⟩ := h.go (kc_X3_pass h.rg own1000 (FC.rf M)) ex hc (h.ce (kq_X3_pass (FQ.rf M) _ ex))
    exact P_n h.1.1 e1 (kk M1 k1)
theorem dealer1 (h : CR (mI M) (mJ M) (mA M) G) (hd : WD G) (h7 : eS G 7 ≠ 0) : mI M 297 1000 = nI (eS G 6 - 1) ∧ eS G 6 - 1 < 4 := by
  rcases hd with ⟨z, -⟩ | ⟨-, z⟩
  · exact absurd z h7
  · have e1 : mI M 297 1000 + 1 = nI (eS G 6 - 1 + 1) := by
      rw [show eS G 6 - 1 + 1 = eS G 6 by omega]
      exact h.1.2.2.2.2.2.2.1
    refine ⟨?_, by omega⟩
    have e2 : nI (eS G 6 - 1 + 1) = nI (eS G 6 - 1) + 1 := (nI_1 _).symm
    rw [e2] at e1
    grind
/-- the value of a win -/
noncomputable def wVL (G : zG) (p lk : Nat) : Nat := VLG (decide (eS G 4 = 1)) (gWt G p) p lk (eS G 6 - 1)
theorem wVL_b (G : zG) (p lk : Nat) : 1 ≤ wVL G p lk ∧ wVL G p lk ≤ 12 := by
  unfold wVL VLG
  refine ⟨?_, Nat.min_le_right _ _⟩
  have : 1 ≤ vsum (decide (eS G 4 = 1)) (eC (gWt G p) p) (opN (gWt G p) p) lk ((p + 4 - (eS G 6 - 1)) % 4) (alk (eH (gWt G p) p) (eV (gWt G p) p) (eN (gWt G p) p)) (wrc (eH (gWt G p) p) (eV (gWt G p) p) (eN (gWt G p) p) 0 0 25) := by
    unfold vsum
    omega
  omega
theorem QK.win (h : QK n xs c M G e) (g : GI k rr G e) {p : Nat} (hp : p < 4) {i : Int32} (hi : i = nI p) {fe : String → zM → Option γ} {f : Int32 → zM → Option γ} (ko : wOk G p = true → ∀ M1 V, 1 ≤ V → V ≤ 12 → QK n xs c M1 (gWin G p) (eWin e p (eS G 5) (decide (eS G 4 = 1)) (nI V)) → P (f (nI V) M1)) (kn : wOk G p = false → ∀ M1, QK n xs (c + 1) M1 G e → P (fe "java/lang/IllegalStateException" M1)) : P (if mK M 1000 = 9 then xc (f_X3_win 1000 i M) fe f else none) := by
  subst hi
  have q := q_win (I := mI M) (J := mJ M) (A := mA M) h.1 g.f g.L g.1.1.t g.1.1.z h.2.1 (nI p)
  have ep : (nI p).toNatClampNeg = p := nI_cl (by omega)
  have y : ¬ (nI p < 0 ∨ 4 ≤ (nI p).toNatClampNeg) := by
    rw [ep]
    rintro (z | z)
    · exact nI_nn (by omega) z
    · omega
  by_cases z : wOk G p = true
  · have eo : oWin G (nI p) = none := by
      unfold oWin
      rw [if_neg y, ep]
      exact if_pos z
    rw [eo] at q
    obtain ⟨I', A', v, ex, hc⟩ := q
    rw [ep] at hc
    have h7 := wOk_7 g.1.1 z
    have hD := dealer1 h.2.1 g.D h7
    obtain ⟨-, -, lk, lk1, lk2⟩ := g.2.2.1 h7
    obtain ⟨I1, A1, e1, ce1⟩ := x_winC (I := mI M) (J := mJ M) (A := mA M) h.1 g.1.1 g.f h.2.1 hp z hD.1 hD.2 lk1 h.2.2.1 lk2
    have e1' := ex.symm.trans e1
    have ev : v = nI (wVL G p lk) := Sum.inr.inj (congrArg Prod.fst (Option.some.inj e1'))
    have eI : I' = I1 := congrArg (fun t => mI (Prod.snd t)) (Option.some.inj e1')
    rw [← eI] at ce1
    subst ev
    obtain ⟨M1, e2, k1⟩ := h.go (kc_X3_win h.rg own1000 (FC.rf M)) ex hc ce1
    exact P_c h.1.1 e2 (ko z M1 (wVL G p lk) (wVL_b G p lk).1 (wVL_b G p lk).2 k1)
  · have eo : oWin G (nI p) = some "java/lang/IllegalStateException" := by
      unfold oWin
      rw [if_neg y, ep]
      exact if_neg z
    rw [eo] at q
    obtain ⟨A', ex, hc⟩ := q
    obtain ⟨M1, e2, k1⟩ := h.no (kc_X3_win h.rg own1000 (FC.rf M)) ex hc
    exact P_e h.1.1 e2 (kn (by cases hx : wOk G p; rfl; exact absurd hx z) M1 k1)
end PLAYP
/-! the game and the points behind a move -/
section GIS
variable {k rr : Nat} {G : zG} {e : zPt}
theorem GI.mk' (g : GI k rr G e) {G' : zG} {e' : zPt} (hk : k + 1 ≤ 600) (hx : WX G') (h9 : W9 G') (ho : WO G' ∧ WH G') (h7 : eS G' 7 = eS G 7) (hr : eS G 7 ≠ 0 → WT_ G' ∧ WM G' e'.2.2.2.2) (hl : e'.2.2.2.1 = e.2.2.2.1) (ht : eTot e' = eTot e) (hb : EB (k + 1) e') : GI (k + 1) rr G' e' := by
  obtain ⟨-, -, a3, a4, -, a6, -⟩ := g
  refine ⟨⟨hx, h9⟩, ho, fun z => ?_, ht.trans a4, hb, by omega, hk⟩
  rw [h7] at z
  obtain ⟨r1, r2⟩ := hr z
  obtain ⟨-, -, lk, l1, l2⟩ := a3 z
  exact ⟨r1, r2, lk, l1, hl.trans l2⟩
theorem GI.draw (g : GI k rr G e) (hk : k + 1 ≤ 600) (h0 : eS G 4 = 0) : GI (k + 1) rr (gDraw G) (eDraw G e) := by
  have e7 : eS (gDraw G) 7 = eS G 7 := by
    unfold gDraw
    split <;> rfl
  refine g.mk' hk (g.1.1.draw h0) g.1.2.draw ⟨g.2.1.1.draw, WH.draw G⟩ e7 (fun z => ⟨(g.2.2.1 z).1.draw g.1.1, ?_⟩) ?_ (eTot_draw G e) (g.2.2.2.2.1.draw G)
  · unfold gDraw
    split
    · exact WM.no (show ¬ (1 : Nat) = 3 by decide)
    · exact WM.end_ g.1.1 h0 _
  · unfold eDraw
    split <;> rfl
theorem GI.riv (g : GI k rr G e) (hk : k + 1 ≤ 600) {q : Nat} (hq : q < 25) (d : dOk G q) : GI (k + 1) rr (gRiv G q) e :=
  g.mk' hk (g.1.1.riv d.1 hq d.2.1) (g.1.2.of rfl rfl) ⟨g.2.1.1.of rfl rfl rfl, WH.no (show ¬ (2 : Nat) = 1 by decide)⟩ rfl (fun z => ⟨(g.2.2.1 z).1.riv g.1.1 d.2.1, WM.no (show ¬ (2 : Nat) = 3 by decide)⟩) rfl rfl g.2.2.2.2.1.w
theorem GI.cr (g : GI k rr G e) (hk : k + 1 ≤ 600) {q : Nat} (hq : q < 25) (d : cOk G q = true) : GI (k + 1) rr (gRiv (gCal G (eS G 5)) q) (eCal e (eS G 5)) := by
  have d' := of_decide_eq_true d
  exact g.mk' hk (g.1.1.cr d'.1 hq d'.2.2.2.1 (eS G 5)) (g.1.2.of rfl rfl) ⟨(g.2.1.1.cal d'.2.1).of rfl rfl rfl, WH.no (show ¬ (2 : Nat) = 1 by decide)⟩ rfl (fun z => ⟨(g.2.2.1 z).1.cr g.1.1 d'.2.2.2.1 _, WM.no (show ¬ (2 : Nat) = 3 by decide)⟩) rfl (eTot_cal e g.1.1.1.2.2.2.2.2.1) (g.2.2.2.2.1.cal _)
theorem GI.four (g : GI k rr G e) (hk : k + 1 ≤ 600) {q : Nat} (hq : q < 25) (d : fOk G q) : GI (k + 1) rr (gDF (gSet G (eS G 5) 3 q)) e :=
  g.mk' hk (g.1.1.four hq d) ((g.1.2.set (by decide) hq (fun z => absurd z (by decide))).of rfl rfl) ⟨(g.2.1.1.set d.2.1).of rfl rfl rfl, WH.rec_ _ _⟩ rfl (fun z => ⟨(g.2.2.1 z).1.four g.1.1 hq d, WM.no (show ¬ eS G 4 = 3 by rw [d.1]; decide)⟩) rfl rfl g.2.2.2.2.1.w
theorem GI.clm (g : GI k rr G e) (hk : k + 1 ≤ 600) {p w : Nat} {i : Int32} (hp : p < 4) (hw : w ≤ 2) (d : oMay G p w i = true) : GI (k + 1) rr (gClm G p w i) e := by
  have m := g.1.1.may hp d
  have e7 : eS (gClm G p w i) 7 = eS G 7 := by
    unfold gClm
    split <;> rfl
  have e4 : eS (gClm G p w i) 4 = 1 := by
    unfold gClm
    split <;> rfl
  exact g.mk' hk (g.1.1.clm hp hw d) (g.1.2.clm hw (g.1.1.ls m.1.1) d) ⟨g.2.1.1.clm m.1.2.2, WH.clm G p w i⟩ e7 (fun z => ⟨(g.2.2.1 z).1.clm g.1.1 hp hw d, WM.no (by rw [e4]; decide)⟩) rfl rfl g.2.2.2.2.1.w
theorem GI.win (g : GI k rr G e) (hk : k + 1 ≤ 600) {p V : Nat} (hp : p < 4) (hV : V ≤ 12) (d : wOk G p = true) : GI (k + 1) rr (gWin G p) (eWin e p (eS G 5) (decide (eS G 4 = 1)) (nI V)) := by
  have e7 : eS (gWin G p) 7 = eS G 7 := by
    unfold gWin
    split <;> rfl
  refine g.mk' hk (g.1.1.win hp d) (g.1.2.win p) ⟨g.2.1.1.win p, WH.win G p⟩ e7 (fun z => ⟨(g.2.2.1 z).1.win g.1.1 hp d, WM.win g.1.1 hp d⟩) rfl (eTot_win e hp g.1.1.1.2.2.2.2.2.1 _ (fun z => ?_) _) (g.2.2.2.2.1.win hp _ _ hV)
  unfold wOk at d
  rw [if_neg (of_decide_eq_false z)] at d
  unfold oByDis at d
  rw [Bool.and_eq_true] at d
  exact (of_decide_eq_true d.1).2
theorem GI.pass (g : GI k rr G e) (hk : k + 1 ≤ 600) (h2 : eS G 4 = 2) : GI (k + 1) rr (wS (wS G 5 ((eS G 5 + 1) % 4)) 4 0) e :=
  g.mk' hk (g.1.1.pass h2) (g.1.2.of rfl rfl) ⟨g.2.1.1.of rfl rfl rfl, WH.no (show ¬ (0 : Nat) = 1 by decide)⟩ rfl (fun z => ⟨(g.2.2.1 z).1.pass _ _, WM.no (show ¬ (0 : Nat) = 3 by decide)⟩) rfl rfl g.2.2.2.2.1.w
theorem GI.lay (g : GI k rr G e) (hk : k + 1 ≤ 600) {st sh : Nat} (n2 : st < 100) (n3 : st % 2 ≠ 0) (n4 : st % 5 ≠ 0) (n5 : sh < 100) : GI (k + 1) (rr + 1) (gLay G st sh) (eLay e (gK (gBeg G st sh) 95)) := by
  have e7 : eS (gLay G st sh) 7 = eS G 7 + 1 := congrFun (gAll_S 4 0 (gBeg G st sh)) 7
  have e4 : eS (gLay G st sh) 4 = 0 := congrFun (gAll_S 4 0 (gBeg G st sh)) 4
  obtain ⟨a1, a2, a3, a4, a5, a6, a7⟩ := g
  exact ⟨⟨a1.1.lay n2 n3 n4 n5, W9.lay st sh⟩, ⟨WO.lay st sh, WH.no (by rw [e4]; decide)⟩, fun _ => ⟨WT_.lay st sh, WM.no (by rw [e4]; decide), _, flw_lt (gK_lt _ _), rfl⟩, a4, a5.lay _, by omega, hk⟩
end GIS
