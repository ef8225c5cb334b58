/-! ===== BOTH: many, with code and answer ===== -/
section ASKT
variable {n : Nat} {xs : Nat → Int32} {M M' : zM} {G G' Gc Gr : zG} {hp dl hp' dl' : Nat → Nat}
/-- asked, and answered as the reference answers -/
theorem SET.ask (h : CK n xs M G G hp dl) (hx : WX G) (h9 : W9 G) {cc : Nat} (ke : EK cc M) (hw : WF G) {x : Option ((String ⊕ Int32) × zM)} (kf : KF (FC M) x) {A' : Nat → Nat → Int32} {v : Int32} (e : x = some (.inr v, cs (mI M) (mJ M) A' M)) (hc : CR (mI M) (mJ M) A' G) {c : String → zM → Option (Int32 × zM)} {y : zM → Option (Int32 × zM)} (kn : ∀ M1, CK n xs M1 G G hp dl → KF (FN M1) (y M1)) (kq : ∀ M1, KF (FQ M1) (y M1)) (hy : ∀ M1, CK n xs M1 G G hp dl → TB (mA M1) → (∀ e, RE (mI M) e → RE (mI M1) e) → ∃ M2, y M1 = some (v, M2) ∧ RB 400 1600 M1 M2 G hp dl ∧ mI M2 416 1026 = 0) : SET n xs cc M G (xc x c fun w Mw => (pJ 10 0 Mw 1045 w.toInt64).bind fun M4 => some ((0 : Int32), M4)) y := by
  have hX0 := h.x46
  obtain ⟨tb, e0, ce0, re0, eb0⟩ := ke
  have fc : FC M (cs (mI M) (mJ M) A' M) := kf _ e
  have ck : CK n xs (cs (mI M) (mJ M) A' M) G G hp dl := h.c0 rfl rfl rfl rfl fc h.1.1 hc
  have ck1 := ck.sJ v.toInt64
  have ew : pJ 10 0 (cs (mI M) (mJ M) A' M) 1045 v.toInt64 = some (sJ (cs (mI M) (mJ M) A' M) 320 1045 v.toInt64) := e_pJ 320 ck.2.2.2.2
  have eJ : mJ (sJ (cs (mI M) (mJ M) A' M) 320 1045 v.toInt64) 320 1045 = v.toInt64 := u2_at (mJ M) 320 1045 _
  have eX : mX (sJ (cs (mI M) (mJ M) A' M) 320 1045 v.toInt64) = mX M := rfl
  have eS' : mS (sJ (cs (mI M) (mJ M) A' M) 320 1045 v.toInt64) = mS M := rfl
  have eI : mI (sJ (cs (mI M) (mJ M) A' M) 320 1045 v.toInt64) = mI M := rfl
  have ft1 : FTB M (cs (mI M) (mJ M) A' M) := FC.ft h fc
  have ft2 : FTB M (sJ (cs (mI M) (mJ M) A' M) 320 1045 v.toInt64) := ft1
  rw [e]
  generalize sJ (cs (mI M) (mJ M) A' M) 320 1045 v.toInt64 = M1 at *
  have hX := ck1.x46
  have tb1 := tb.ft ft2
  obtain ⟨M2, r1, r2, r3⟩ := hy M1 ck1 tb1 (fun e re => by rw [eI]; exact re)
  have fn := kn M1 ck1 _ r1
  have fq := kq M1 _ r1
  have ek1 : EK cc M1 := ⟨tb1, e0, by rw [eI]; exact ce0, by rw [eI]; exact re0, eb0⟩
  have r5 := r2.2.2
  refine ⟨0, M1, v, M2, G, hp, dl, ?_, ck1.row, r1, ck1.ref hw fn r2.1 r2.2.1, ⟨r3, fun _ => (fn.2.2 (by omega)).trans eJ⟩, ⟨hx, h9, (ek1.fr hX fq (FN.ft ck1 fn)).w⟩, Nat.le_succ _, by omega⟩
  show (pJ 10 0 (cs (mI M) (mJ M) A' M) 1045 _).bind _ = _
  rw [ew]
  rfl
end ASKT
def lft (G : zG) : Nat := if eS G 7 = 0 then 0 else 60 - eS G 2 - eS G 3
/-- the ten numbers of the table -/
def mny (G : zG) (e : zPt) : Nat → Int32
  | 0 => nI (eS G 4)
  | 1 => if eS G 4 = 3 then -1 else nI (eS G 5)
  | 2 => nI (lft G)
  | 3 => e.2.2.2.1
  | 4 => if eS G 4 = 2 then nI (lst G) else -1
  | 5 => nI (eS G 3)
  | 6 => e.2.2.1
  | 7 => nI (eS G 7)
  | 8 => nI (eS G 6) - 1
  | _ => e.2.2.2.2
theorem dl_m1 {x : Int32} {y : Int32} (h : x + 1 = y) : x = y - 1 := by grind
theorem mb_ne {i : Int32} (y : i < 0 ∨ 10 ≤ i.toNatClampNeg) {j : Nat} (hj : j < 10) : ¬ i = nI j := fun z => by
  subst z
  rcases y with y | y
  · exact nI_nn (by omega) y
  · rw [nI_cl (by omega)] at y
    omega
section XMANY
variable {I : Nat → Nat → Int32} {J : Nat → Nat → Int64} {A : Nat → Nat → Int32} {M : zM} {G : zG} {hp dl : Nat → Nat}
theorem q_many_bad {i : Int32} (y : i < 0 ∨ 10 ≤ i.toNatClampNeg) (M : zM) : f_X3_many 1000 i M = some (.inl "java/lang/IllegalArgumentException", nE M) := by
  unfold f_X3_many f_X3_many_0
  rw [if_neg (show ¬ i = 0 from mb_ne y (j := 0) (by decide)), if_neg (show ¬ i = 1 from mb_ne y (j := 1) (by decide)), if_neg (show ¬ i = 2 from mb_ne y (j := 2) (by decide)), if_neg (show ¬ i = 3 from mb_ne y (j := 3) (by decide)), if_neg (show ¬ i = 4 from mb_ne y (j := 4) (by decide)), if_neg (show ¬ i = 5 from mb_ne y (j := 5) (by decide)), if_neg (show ¬ i = 6 from mb_ne y (j := 6) (by decide)), if_neg (show ¬ i = 7 from mb_ne y (j := 7) (by decide)), if_neg (show ¬ i = 8 from mb_ne y (j := 8) (by decide)), if_neg (show ¬ i = 9 from mb_ne y (j := 9) (by decide))]
theorem x_many (h : CSH M) (hw : WF G) (hL : WL G) (hc : CR I J A G) {e : zPt} (he : CE I e) {j : Nat} (hj : j < 10) : f_X3_many 1000 (nI j) (cs I J A M) = some (.inr (mny G e j), cs I J A M) := by
  have hs := hc.1
  obtain ⟨w0, w1, w2, w3, w4, ht, w6, w7, w8, w9, w10⟩ := hw
  have hse := h.2.2.2.2.2.2.2.1 _ ht
  obtain ⟨c1, c2, c3, c4, c5, c6, c7⟩ := hc.2 _ ht
  have hm := (w10 _ ht).2.2.1
  unfold f_X3_many f_X3_many_0
  rcases (show j = 0 ∨ j = 1 ∨ j = 2 ∨ j = 3 ∨ j = 4 ∨ j = 5 ∨ j = 6 ∨ j = 7 ∨ j = 8 ∨ j = 9 by omega) with rfl | rfl | rfl | rfl | rfl | rfl | rfl | rfl | rfl | rfl
  · rw [if_pos (show nI 0 = 0 from rfl), gI_cs 295 h.1, Option.bind_some, hs.2.2.2.2.1]
    rfl
  · rw [if_neg (show ¬ nI 1 = 0 by decide), if_pos (show nI 1 = 1 from rfl), gI_cs 295 h.1, Option.bind_some, hs.2.2.2.2.1]
    show _ = some (Sum.inr (if eS G 4 = 3 then -1 else nI (eS G 5)), _)
    by_cases y : eS G 4 = 3
    · rw [if_pos (show nI (eS G 4) = 3 by rw [y]; rfl), if_pos y]
    · rw [if_neg (eq_f (y := 3) (eS G 4) 3 y (by omega) (by decide)), if_neg y, gI_cs 296 h.1, Option.bind_some, hs.2.2.2.2.2.1]
  · rw [if_neg (show ¬ nI 2 = 0 by decide), if_neg (show ¬ nI 2 = 1 by decide), if_pos (show nI 2 = 2 from rfl), if_pos (show mK (cs I J A M) 1000 = 9 from h.1), q_tilesLeft h hs.2.2.2.2.2.2.2.1 (by omega) hs.2.2.1 hs.2.2.2.1 w2]
    rfl
  · rw [if_neg (show ¬ nI 3 = 0 by decide), if_neg (show ¬ nI 3 = 1 by decide), if_neg (show ¬ nI 3 = 2 by decide), if_pos (show nI 3 = 3 from rfl), gI_cs 300 h.1, Option.bind_some, he.2.2.1]
    rfl
  · rw [if_neg (show ¬ nI 4 = 0 by decide), if_neg (show ¬ nI 4 = 1 by decide), if_neg (show ¬ nI 4 = 2 by decide), if_neg (show ¬ nI 4 = 3 by decide), if_pos (show nI 4 = 4 from rfl), gI_cs 295 h.1, Option.bind_some, hs.2.2.2.2.1]
    show _ = some (Sum.inr (if eS G 4 = 2 then nI (lst G) else -1), _)
    by_cases y : eS G 4 = 2
    · have hm0 := hL y
      rw [if_pos (show nI (eS G 4) = 2 by rw [y]; rfl), if_pos y, if_pos (show mK (cs I J A M) 1000 = 9 from h.1), q_seatInTurn h ht hs.2.2.2.2.2.1, Option.bind_some, if_pos (show mK (cs I J A M) (1010 + 4 * eS G 5) = 7 from hse.1), q_latest hse c4 (by omega), if_neg (show ¬ eM G (eS G 5) = 0 by omega), c5 _ (by omega)]
      rfl
    · rw [if_neg (eq_f (y := 2) (eS G 4) 2 y (by omega) (by decide)), if_neg y]
  · rw [if_neg (show ¬ nI 5 = 0 by decide), if_neg (show ¬ nI 5 = 1 by decide), if_neg (show ¬ nI 5 = 2 by decide), if_neg (show ¬ nI 5 = 3 by decide), if_neg (show ¬ nI 5 = 4 by decide), if_pos (show nI 5 = 5 from rfl), gI_cs 294 h.1, Option.bind_some, hs.2.2.2.1]
    rfl
  · rw [if_neg (show ¬ nI 6 = 0 by decide), if_neg (show ¬ nI 6 = 1 by decide), if_neg (show ¬ nI 6 = 2 by decide), if_neg (show ¬ nI 6 = 3 by decide), if_neg (show ¬ nI 6 = 4 by decide), if_neg (show ¬ nI 6 = 5 by decide), if_pos (show nI 6 = 6 from rfl), gI_cs 299 h.1, Option.bind_some, he.2.1]
    rfl
  · rw [if_neg (show ¬ nI 7 = 0 by decide), if_neg (show ¬ nI 7 = 1 by decide), if_neg (show ¬ nI 7 = 2 by decide), if_neg (show ¬ nI 7 = 3 by decide), if_neg (show ¬ nI 7 = 4 by decide), if_neg (show ¬ nI 7 = 5 by decide), if_neg (show ¬ nI 7 = 6 by decide), if_pos (show nI 7 = 7 from rfl), gI_cs 298 h.1, Option.bind_some, hs.2.2.2.2.2.2.2.1]
    rfl
  · rw [if_neg (show ¬ nI 8 = 0 by decide), if_neg (show ¬ nI 8 = 1 by decide), if_neg (show ¬ nI 8 = 2 by decide), if_neg (show ¬ nI 8 = 3 by decide), if_neg (show ¬ nI 8 = 4 by decide), if_neg (show ¬ nI 8 = 5 by decide), if_neg (show ¬ nI 8 = 6 by decide), if_neg (show ¬ nI 8 = 7 by decide), if_pos (show nI 8 = 8 from rfl), gI_cs 297 h.1, Option.bind_some, dl_m1 hs.2.2.2.2.2.2.1]
    rfl
  · rw [if_neg (show ¬ nI 9 = 0 by decide), if_neg (show ¬ nI 9 = 1 by decide), if_neg (show ¬ nI 9 = 2 by decide), if_neg (show ¬ nI 9 = 3 by decide), if_neg (show ¬ nI 9 = 4 by decide), if_neg (show ¬ nI 9 = 5 by decide), if_neg (show ¬ nI 9 = 6 by decide), if_neg (show ¬ nI 9 = 7 by decide), if_neg (show ¬ nI 9 = 8 by decide), if_pos (show nI 9 = 9 from rfl), gI_cs 301 h.1, Option.bind_some, he.2.2.2]
    rfl
end XMANY
section XMANYR
variable {M : zM} {G : zG} {hp dl : Nat → Nat}
theorem r_many_bad (h : RS M hp dl) {x : Int32} (y : x < 0 ∨ 10 ≤ x.toNatClampNeg) : f_X7_many 1026 x M = some (0, cs (th 1 (mI M)) (mJ M) (mA M) M) := by
  have bad : f_X7_many_16 1026 x 1 1026 M = some (0, cs (th 1 (mI M)) (mJ M) (mA M) M) := by
    unfold f_X7_many_16
    rw [if_pos h.1.1, m11 h, Option.bind_some]
    dsimp only
    rw [if_neg (show ¬ (1 : Int32) = 0 by decide)]
  unfold f_X7_many f_X7_many_0
  rw [r_isIn]
  rcases nI_all x with z | ⟨j, z1, rfl⟩
  · rw [if_pos z, Option.bind_some]
    exact bad
  · rw [nI_cl z1] at y
    have y' := y.resolve_left (nI_nn z1)
    rw [if_neg (nI_nn z1), if_pos (lt_t (x := 9) 9 j (by omega) z1), Option.bind_some]
    exact bad
/-- a row is being filled, m numbers are in -/
def AMV (M M' : zM) (V : Nat → Int32) (m : Nat) : Prop := AM M M' ∧ ∀ i, i < m → mA M' (mX M) i = V i
theorem AMV.t {M M' : zM} {V : Nat → Int32} {m : Nat} (h : AMV M M' V m) (hm : m < 10) {v : Int32} (hv : v = V m) : tA M' (mX M) (nI m) v = some (sA M' (mX M) m v) ∧ AMV M (sA M' (mX M) m v) V (m + 1) := by
  obtain ⟨e, f⟩ := h.1.t hm v
  refine ⟨e, f, fun i hi => ?_⟩
  show u2 (mA M') (mX M) m v (mX M) i = V i
  by_cases y : i = m
  · rw [y, u2_rs, hv]
  · rw [u2_ro _ _ y]
    exact h.2 i (by omega)
/-- what the table's numbers are, to the reference -/
def RNV (M' : zM) (G : zG) (e : zPt) : Prop := mI M' 422 1026 = nI (eS G 4) ∧ mI M' 423 1026 = nI (eS G 5) ∧ mI M' 424 1026 = nI (eS G 6) - 1 ∧ mI M' 425 1026 = nI (eS G 7) ∧ mI M' 426 1026 = nI (eS G 3) ∧ (eS G 4 = 2 → mI M' 430 1026 = nI (lst G)) ∧ mI M' 421 1026 = e.2.2.2.1 ∧ mI M' 427 1026 = e.2.2.1 ∧ mI M' 428 1026 = e.2.2.2.2 ∧ f_X7_left 1026 M' = some (nI (lft G), M')
theorem rnv (h : RS M hp dl) (hn : RN (mI M) (mJ M) (mA M) M G hp dl) (hq : WQ G) {e : zPt} (re : RE (mI M) e) {M' : zM} (k : AM M M') : RNV M' G e := by
  have hX := h.2.2.2.2.2.2.2
  have b := RB.km h hn k.1
  obtain ⟨s1, s2, s3, s4, s5, s6, s7, s8⟩ := b.2.1.1
  have re2 : RE (mI M') e := re.eq fun q a _ ha => (k.1.2 a (by omega)).2.2.1 q
  exact ⟨s1, s2, dl_m1 s3, s4, s5, s8, re2.2.2.1, re2.2.1, re2.2.2.2, r_left (I := mI M') (J := mJ M') (A := mA M') b.1 b.2.1 hq.1 hq.2.2.1⟩
theorem x_many_62 {e : zPt} (H : ∀ M', AM M M' → RNV M' G e) {M' : zM} (h : AMV M M' (mny G e) 4) {j : Nat} (hj : j < 10) {v : Int32} (hv : v = mny G e 4) : ∃ M'', f_X7_manyNow_62 1026 (nI j) v 4 (mX M) (mX M) M' = some (mny G e j, M'') ∧ KM 1 10 M M'' := by
  unfold f_X7_manyNow_62
  obtain ⟨e1, h1⟩ := h.t (by decide) hv
  rw [show tA M' (mX M) 4 v = _ from e1, Option.bind_some, e_gI 426 h1.1.2.2.2, Option.bind_some]
  generalize sA M' (mX M) 4 v = M1 at *
  obtain ⟨e2, h2⟩ := h1.t (v := mI M1 426 1026) (by decide) (H M1 h1.1).2.2.2.2.1
  rw [show tA M1 (mX M) 5 (mI M1 426 1026) = _ from e2, Option.bind_some, e_gI 427 h2.1.2.2.2, Option.bind_some]
  generalize sA M1 (mX M) (4 + 1) (mI M1 426 1026) = M2 at *
  obtain ⟨e3, h3⟩ := h2.t (v := mI M2 427 1026) (by decide) (H M2 h2.1).2.2.2.2.2.2.2.1
  rw [show tA M2 (mX M) 6 (mI M2 427 1026) = _ from e3, Option.bind_some, e_gI 425 h3.1.2.2.2, Option.bind_some]
  generalize sA M2 (mX M) (4 + 1 + 1) (mI M2 427 1026) = M3 at *
  obtain ⟨e4, h4⟩ := h3.t (v := mI M3 425 1026) (by decide) (H M3 h3.1).2.2.2.1
  rw [show tA M3 (mX M) 7 (mI M3 425 1026) = _ from e4, Option.bind_some, e_gI 424 h4.1.2.2.2, Option.bind_some]
  generalize sA M3 (mX M) (4 + 1 + 1 + 1) (mI M3 425 1026) = M4 at *
  obtain ⟨e5, h5⟩ := h4.t (v := mI M4 424 1026) (by decide) (H M4 h4.1).2.2.1
  rw [show tA M4 (mX M) 8 (mI M4 424 1026) = _ from e5, Option.bind_some, e_gI 428 h5.1.2.2.2, Option.bind_some]
  generalize sA M4 (mX M) (4 + 1 + 1 + 1 + 1) (mI M4 424 1026) = M5 at *
  obtain ⟨e6, h6⟩ := h5.t (v := mI M5 428 1026) (by decide) (H M5 h5.1).2.2.2.2.2.2.2.2.1
  rw [show tA M5 (mX M) 9 (mI M5 428 1026) = _ from e6, Option.bind_some, e_lA h6.1.2.1 (by rw [h6.1.2.2.1]; exact hj) (by rw [h6.1.2.2.1]; decide), Option.bind_some, h6.2 j hj]
  exact ⟨_, rfl, h6.1.1⟩
theorem x_many_29 {e : zPt} (H : ∀ M', AM M M' → RNV M' G e) (h4 : eS G 4 < 4) {M' : zM} (h : AMV M M' (mny G e) 1) {j : Nat} (hj : j < 10) {v : Int32} (hv : v = mny G e 1) : ∃ M'', f_X7_manyNow_29 1026 (nI j) v 1 (mX M) (mX M) M' = some (mny G e j, M'') ∧ KM 1 10 M M'' := by
  unfold f_X7_manyNow_29
  obtain ⟨e1, h1⟩ := h.t (by decide) hv
  rw [show tA M' (mX M) 1 v = _ from e1, Option.bind_some]
  generalize sA M' (mX M) 1 v = M1 at *
  rw [if_pos h1.1.2.2.2, (H M1 h1.1).2.2.2.2.2.2.2.2.2, Option.bind_some]
  dsimp only
  obtain ⟨e2, h2⟩ := h1.t (v := nI (lft G)) (by decide) rfl
  rw [show tA M1 (mX M) 2 (nI (lft G)) = _ from e2, Option.bind_some, e_gI 421 h2.1.2.2.2, Option.bind_some]
  generalize sA M1 (mX M) (1 + 1) (nI (lft G)) = M2 at *
  obtain ⟨e3, h3⟩ := h2.t (v := mI M2 421 1026) (by decide) (H M2 h2.1).2.2.2.2.2.2.1
  rw [show tA M2 (mX M) 3 (mI M2 421 1026) = _ from e3, Option.bind_some, e_gI 422 h3.1.2.2.2, Option.bind_some]
  generalize sA M2 (mX M) (1 + 1 + 1) (mI M2 421 1026) = M3 at *
  rw [(H M3 h3.1).1]
  by_cases y : eS G 4 = 2
  · rw [if_pos (show nI (eS G 4) = 2 by rw [y]; rfl), e_gI 430 h3.1.2.2.2, Option.bind_some]
    exact x_many_62 H h3 hj (((H M3 h3.1).2.2.2.2.2.1 y).trans (if_pos y).symm)
  · rw [if_neg (eq_f (y := 2) (eS G 4) 2 y (by omega) (by decide))]
    exact x_many_62 H h3 hj (if_neg y).symm
theorem x_manyNow (h : RS M hp dl) (hn : RN (mI M) (mJ M) (mA M) M G hp dl) (hq : WQ G) {e : zPt} (re : RE (mI M) e) {j : Nat} (hj : j < 10) : ∃ M', f_X7_manyNow 1026 (nI j) M = some (mny G e j, M') ∧ KM 1 10 M M' := by
  have hX := h.2.2.2.2.2.2.2
  have h4 : eS G 4 < 4 := hq.1.2.2.2.2.1
  have H := fun M' (k : AM M M') => rnv h hn hq re k
  have h0 : AMV M (nA M 0 10) (mny G e) 0 := ⟨⟨((KM.rf M).nA 0 10).w (by decide) (by decide), u1_at _ _ _, u1_at _ _ _, (if_neg (show ¬ 1026 = mX M by omega)).trans h.1.1⟩, fun i hi => absurd hi (Nat.not_lt_zero _)⟩
  unfold f_X7_manyNow f_X7_manyNow_0
  have ea : aA 0 M 10 = some (mX M, nA M 0 10) := e_aA (c := 10) (by decide) 0
  rw [ea, Option.bind_some]
  dsimp only
  generalize nA M 0 10 = M1 at *
  rw [e_gI 422 h0.1.2.2.2, Option.bind_some]
  obtain ⟨e1, h1⟩ := h0.t (v := mI M1 422 1026) (by decide) (H M1 h0.1).1
  rw [show tA M1 (mX M) 0 (mI M1 422 1026) = _ from e1, Option.bind_some]
  generalize sA M1 (mX M) 0 (mI M1 422 1026) = M2 at *
  rw [e_gI 422 h1.1.2.2.2, Option.bind_some, (H M2 h1.1).1]
  by_cases y : eS G 4 = 3
  · rw [if_pos (show nI (eS G 4) = 3 by rw [y]; rfl)]
    exact x_many_29 H h4 h1 hj (if_pos y).symm
  · rw [if_neg (eq_f (y := 3) (eS G 4) 3 y (by omega) (by decide)), e_gI 423 h1.1.2.2.2, Option.bind_some]
    exact x_many_29 H h4 h1 hj ((H M2 h1.1).2.1.trans (if_neg y).symm)
theorem x_manyR (h : RS M hp dl) (hn : RN (mI M) (mJ M) (mA M) M G hp dl) (hq : WQ G) {e : zPt} (re : RE (mI M) e) {j : Nat} (hj : j < 10) : ∃ M', f_X7_many 1026 (nI j) M = some (mny G e j, M') ∧ RB 1 10 M M' G hp dl ∧ mI M' 416 1026 = 0 := by
  have hX := h.2.2.2.2.2.2.2
  have hb := RB.th h hn 0
  unfold f_X7_many f_X7_many_0
  rw [r_isIn, if_neg (nI_nn (by omega)), if_neg (lt_f (x := 9) 9 j (by omega) (by decide)), Option.bind_some]
  dsimp only
  rw [if_neg (show ¬ (1 : Int32) = 0 by decide)]
  unfold f_X7_many_16
  obtain ⟨M1, e1, k1⟩ := x_manyNow (M := cs (th 0 (mI M)) (mJ M) (mA M) M) hb.1 hb.2.1 hq (re.th 0) hj
  rw [if_pos h.1.1, m10 h, Option.bind_some]
  dsimp only
  rw [if_pos rfl, if_pos (show mK (cs (th 0 (mI M)) (mJ M) (mA M) M) 1026 = 13 from h.1.1), e1, Option.bind_some]
  have hb2 := RB.km hb.1 hb.2.1 k1
  have e4 : mI M1 416 1026 = 0 := ((k1.2 1026 (by show 1026 < mX M; omega)).2.2.1 416).trans (u2_at (mI M) 416 1026 0)
  exact ⟨M1, rfl, (hb.tr hb2).w (by decide) (by decide), e4⟩
end XMANYR
section ASKM
variable {n : Nat} {xs : Nat → Int32} {M : zM} {G : zG} {hp dl : Nat → Nat}
theorem tj_many (h : CK n xs M G G hp dl) (hx : WX G) (h9 : W9 G) {cc : Nat} (ke : EK cc M) (hr : eS G 7 < 2 ^ 20) (i : Int32) : SET n xs cc M G (f_L_many 1000 i 1045 M) (fun M1 => f_X7_many 1026 i M1) := by
  have hw := hx.f hr
  have kf := kc_X3_many h.2.2.1.1 own1000 (FC.rf M) (i1 := i)
  have kn := fun (M1 : zM) (k1 : CK n xs M1 G G hp dl) => kn_X7_many k1.2.2.1.2.1 k1.fn (i1 := i) (a0 := 1026)
  obtain ⟨tb, e0, ce0, re0, -⟩ := id ke
  unfold f_L_many f_L_many_0
  rw [if_pos h.1.1.1]
  by_cases y : i < 0 ∨ 10 ≤ i.toNatClampNeg
  · exact SET.bd h hx h9 ke hw kf (q_many_bad y M) h.1.2 (k := 1) (by decide) (fun _ => if_pos rfl) kn (fun M1 k1 => thr_et (k := k1) (r_many_bad k1.2.1.1 y))
  · obtain ⟨j, hj, rfl⟩ := cl_no y
    refine SET.ask h hx h9 ke hw kf (x_many (I := mI M) (J := mJ M) (A := mA M) h.1.1 hw hx.2.2.2.2.2.1 h.1.2 ce0 hj) h.1.2 kn (fun M1 => kq_X7_many (FQ.rf M1)) (fun M1 k1 _ hre => ?_)
    obtain ⟨M2, r1, r2, r3⟩ := x_manyR k1.2.1.1 k1.2.1.2 (hx.q hr) (hre e0 re0) hj
    exact ⟨M2, r1, r2.w (by decide) (by decide), r3⟩
end ASKM
