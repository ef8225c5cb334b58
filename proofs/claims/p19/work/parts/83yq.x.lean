/-! ===== BOTH: draw, call, win, lay, with code and answer, and all that is carried ===== -/
def SET (n : Nat) (xs : Nat → Int32) (cc : Nat) (M : zM) (G : zG) (x : Option (Int32 × zM)) (y : zM → Option (Int32 × zM)) : Prop := ∃ v M1 w M2 G2 hp2 dl2, x = some (v, M1) ∧ ROW n xs M1 ∧ y M1 = some (w, M2) ∧ CK n xs M2 G2 G2 hp2 dl2 ∧ (mI M2 416 1026 = v ∧ (v = 0 → mJ M2 320 1045 = w.toInt64)) ∧ (WX G2 ∧ W9 G2 ∧ EK (cc + 1) M2) ∧ eS G2 7 ≤ eS G 7 + 1 ∧ (mX M2 ≤ mX M + 404 ∧ mS M2 ≤ mS M + 1640)
theorem dl_eq {x : Int32} {D : Nat} (h : x + 1 = nI (D + 1)) : x = nI D := by
  have e := nI_1 D
  rw [← e] at h
  grind
section XCALLN
variable {I : Nat → Nat → Int32} {J : Nat → Nat → Int64} {A : Nat → Nat → Int32} {M : zM} {G : zG} {hp dl : Nat → Nat}
theorem x_callRn (h : RS M hp dl) (hn : RN I J A M G hp dl) (hw : WF G) (hv : WV G) {c : Nat} (hc : c < 25) (y : cOk G c = false) {e : zPt} (he : RE I e) {v : Int32} {M' : zM} (ex : f_X7_call 1026 (nI c) (cs I J A M) = some (v, M')) : RE (mI M') e := by
  have k := h.1.1
  have hX := h.2.2.2.2.2.2.2
  have hn1 := hn.th 0
  have e1 := r_start (I := I) (J := J) (A := A) h false 1 (by decide) (by decide)
  have e' : f_X7_start 1026 0 1 (cs I J A M) = some (0, cs (th 0 I) J A M) := e1
  obtain ⟨M1, e2, k1⟩ := r_mayCall h hn1 hw hv hc
  have hS := RS.st (M := cs (th 0 I) J A M) h (ST.km k1)
  have he1 : RE (mI M1) e := (he.th 0).eq fun k b _ hb => (k1.2 b (by show b < mX M; omega)).2.2.1 k
  have h416 : mI M1 416 1026 = 0 := (k1.2 1026 (by show 1026 < mX M; omega)).2.2.1 416
  have heta : cs (th 0 (mI M1)) (mJ M1) (mA M1) M1 = M1 := by
    have : th 0 (mI M1) = mI M1 := by
      funext q b
      show (if q = 416 ∧ b = 1026 then 0 else mI M1 q b) = _
      by_cases z : q = 416 ∧ b = 1026
      · rw [if_pos z, z.1, z.2, h416]
      · rw [if_neg z]
    rw [this]
    rfl
  have er := r_refuse (I := mI M1) (J := mJ M1) (A := mA M1) hS true 2 (by decide) (by decide)
  rw [heta] at er
  have er' : f_X7_refuse 1026 1 2 M1 = some (1, cs (th 2 (mI M1)) (mJ M1) (mA M1) M1) := er
  unfold f_X7_call f_X7_call_0 at ex
  rw [r_kind_ok hc, Option.bind_some] at ex
  dsimp only at ex
  rw [if_neg (show ¬ (1 : Int32) = 0 by decide)] at ex
  unfold f_X7_call_13 at ex
  rw [if_pos (show mK (cs I J A M) 1026 = 13 from k), e', Option.bind_some] at ex
  dsimp only at ex
  rw [if_pos rfl, if_pos (show mK (cs (th 0 I) J A M) 1026 = 13 from k), e2, Option.bind_some] at ex
  dsimp only at ex
  rw [y, if_pos (show b32 false = 0 from rfl)] at ex
  unfold f_X7_call_34 at ex
  rw [if_pos hS.1.1, er', Option.bind_some] at ex
  dsimp only at ex
  rw [if_neg (show ¬ (1 : Int32) = 0 by decide)] at ex
  cases ex
  exact he1.th 2
end XCALLN
section JTE
variable {n cc : Nat} {xs : Nat → Int32} {M M' : zM} {G G' Gc Gr : zG} {hp dl hp' dl' : Nat → Nat}
theorem SET.sxn {x : Option (Int32 × zM)} {y : zM → Option (Int32 × zM)} (h : SET n xs cc M G x y) : SXN n xs cc M G x y := by
  obtain ⟨v, M1, w, M2, G2, hp2, dl2, e1, p, e2, k2, -, r⟩ := h
  exact ⟨v, M1, w, M2, G2, hp2, dl2, e1, p, e2, k2, r⟩
theorem SET.ok (h : CK n xs M G G hp dl) (tb : TB (mA M)) {e0 e1 : zPt} (re : RE (mI M) e0) {x : Option ((String ⊕ Int32) × zM)} (kf : KF (FC M) x) {I' : Nat → Nat → Int32} {J' : Nat → Nat → Int64} {A' : Nat → Nat → Int32} {v : Int32} (e : x = some (.inr v, cs I' J' A' M)) (hc : CR I' J' A' G') (ce : CE I' e1) (eb : EB (cc + 1) e1) (hx : WX G') (h9 : W9 G') (hw : WF G') (h7 : eS G' 7 ≤ eS G 7 + 1) {c : String → zM → Option (Int32 × zM)} {y : zM → Option (Int32 × zM)} (kn : ∀ M1, CK n xs M1 G' G hp dl → KF (FN M1) (y M1)) (hy : ∀ M1, CK n xs M1 G' G hp dl → RE (mI M1) e0 → ∃ hp2 dl2 M2, y M1 = some (v, M2) ∧ RS M2 hp2 dl2 ∧ RN (mI M2) (mJ M2) (mA M2) M2 G' hp2 dl2 ∧ mI M2 416 1026 = 0 ∧ (mX M2 ≤ mX M1 + 400 ∧ mS M2 ≤ mS M1 + 1600) ∧ RE (mI M2) e1) : SET n xs cc M G (xc x c fun w Mw => (pJ 10 0 Mw 1045 w.toInt64).bind fun M4 => some ((0 : Int32), M4)) y := by
  have hX0 := h.x46
  have fc : FC M (cs I' J' A' M) := kf _ e
  have ck : CK n xs (cs I' J' A' M) G' G hp dl := h.c0 rfl rfl rfl rfl fc h.1.1 hc
  have re1 : RE (mI (cs I' J' A' M)) e0 := re.hi fun k b h1 h2 => (fc.1.2 b (by omega) (fun z => by unfold own at z; omega)).2.2.1 k
  have ck1 := ck.sJ v.toInt64
  have ew : pJ 10 0 (cs I' J' A' M) 1045 v.toInt64 = some (sJ (cs I' J' A' M) 320 1045 v.toInt64) := e_pJ 320 ck.2.2.2.2
  have eJ : mJ (sJ (cs I' J' A' M) 320 1045 v.toInt64) 320 1045 = v.toInt64 := u2_at J' 320 1045 _
  have eX : mX (sJ (cs I' J' A' M) 320 1045 v.toInt64) = mX M := rfl
  have eS' : mS (sJ (cs I' J' A' M) 320 1045 v.toInt64) = mS M := rfl
  have ft1 : FTB M (cs I' J' A' M) := FC.ft h fc
  have ft2 : FTB M (sJ (cs I' J' A' M) 320 1045 v.toInt64) := ft1
  have re2 : RE (mI (sJ (cs I' J' A' M) 320 1045 v.toInt64)) e0 := re1
  have ce2 : CE (mI (sJ (cs I' J' A' M) 320 1045 v.toInt64)) e1 := ce
  rw [e]
  generalize sJ (cs I' J' A' M) 320 1045 v.toInt64 = M1 at *
  have hX := ck1.x46
  obtain ⟨hp2, dl2, M2, r1, r2, r3, r4, r5, r6⟩ := hy M1 ck1 re2
  have fn := kn M1 ck1 _ r1
  refine ⟨0, M1, v, M2, G', hp2, dl2, ?_, ck1.row, r1, ck1.ref hw fn r2 r3, ⟨r4, fun _ => (fn.2.2 (by omega)).trans eJ⟩, ⟨hx, h9, (tb.ft ft2).ft (FN.ft ck1 fn), e1, ce2.lo fun k b hb => (fn.1.1.2 b (by omega) (fun z => by unfold hi at z; omega)).2.2.1 k, r6, eb⟩, h7, by omega⟩
  show (pJ 10 0 (cs I' J' A' M) 1045 _).bind _ = _
  rw [ew]
  rfl
theorem SET.bd {α : Type} (h : CK n xs M G G hp dl) (hx : WX G) (h9 : W9 G) (ke : EK cc M) (hw : WF G) {x : Option ((String ⊕ α) × zM)} (kf : KF (FC M) x) {A' : Nat → Nat → Int32} {E : String} (e : x = some (.inl E, cs (mI M) (mJ M) A' (nE M))) (hcr : CR (mI M) (mJ M) A' G) {c : String → zM → Option (Int32 × zM)} {f : α → zM → Option (Int32 × zM)} {k : Int32} (hk : k ≠ 0) (hc : ∀ M', c E M' = some (k, M')) {y : zM → Option (Int32 × zM)} (kn : ∀ M1, CK n xs M1 G G hp dl → KF (FN M1) (y M1)) (hy : ∀ M1, CK n xs M1 G G hp dl → ∀ e0, RE (mI M1) e0 → ∃ w M2, y M1 = some (w, M2) ∧ RS M2 hp dl ∧ RN (mI M2) (mJ M2) (mA M2) M2 G hp dl ∧ mI M2 416 1026 = k ∧ (mX M2 ≤ mX M1 + 400 ∧ mS M2 ≤ mS M1 + 1600) ∧ RE (mI M2) e0) : SET n xs cc M G (xc x c f) y := by
  have fc : FC M (cs (mI M) (mJ M) A' (nE M)) := kf _ e
  have ck : CK n xs (cs (mI M) (mJ M) A' (nE M)) G G hp dl := h.c0 rfl rfl rfl rfl fc h.1.1 hcr
  obtain ⟨tb, e0, ce, re, eb⟩ := ke
  have eX : mX (cs (mI M) (mJ M) A' (nE M)) = mX M + 1 := rfl
  have eS' : mS (cs (mI M) (mJ M) A' (nE M)) = mS M + 6 := rfl
  have ft2 : FTB M (cs (mI M) (mJ M) A' (nE M)) := FC.ft h fc
  have ce1 : CE (mI (cs (mI M) (mJ M) A' (nE M))) e0 := ce
  have re1 : RE (mI (cs (mI M) (mJ M) A' (nE M))) e0 := re
  rw [e]
  have ec := hc (cs (mI M) (mJ M) A' (nE M))
  generalize cs (mI M) (mJ M) A' (nE M) = M1 at *
  have hX := ck.x46
  obtain ⟨w, M2, r1, r2, r3, r4, r5, r6⟩ := hy M1 ck e0 re1
  have fn := kn M1 ck _ r1
  exact ⟨k, M1, w, M2, G, hp, dl, ec, ck.row, r1, ck.ref hw fn r2 r3, ⟨r4, fun z => absurd z hk⟩, ⟨hx, h9, (tb.ft ft2).ft (FN.ft ck fn), e0, ce1.lo fun k b hb => (fn.1.1.2 b (by omega) (fun z => by unfold hi at z; omega)).2.2.1 k, r6, eb.w⟩, Nat.le_succ _, by omega⟩
theorem thr_et {k : CK n xs M Gc Gr hp dl} {y : Option (Int32 × zM)} {w v : Int32} (e : y = some (w, cs (th v (mI M)) (mJ M) (mA M) M)) : ∀ e0, RE (mI M) e0 → ∃ w M2, y = some (w, M2) ∧ RS M2 hp dl ∧ RN (mI M2) (mJ M2) (mA M2) M2 Gr hp dl ∧ mI M2 416 1026 = v ∧ (mX M2 ≤ mX M + 400 ∧ mS M2 ≤ mS M + 1600) ∧ RE (mI M2) e0 := fun _ r => ⟨w, _, e, k.2.1.1, k.2.1.2.th v, u2_at (mI M) 416 1026 v, ⟨Nat.le_add_right _ _, Nat.le_add_right _ _⟩, r.th v⟩
theorem tj_draw (h : CK n xs M G G hp dl) (hx : WX G) (h9 : W9 G) (ke : EK cc M) (hr : eS G 7 < 2 ^ 20) : SET n xs cc M G (f_L_draw 1000 1045 M) (fun M1 => f_X7_draw 1026 M1) := by
  have hw := hx.f hr
  have kf := kc_X3_draw h.2.2.1.1 own1000 (FC.rf M)
  obtain ⟨tb, e0, ce0, re0, eb0⟩ := id ke
  unfold f_L_draw f_L_draw_0
  rw [if_pos h.1.1.1]
  rcases q_draw (I := mI M) (J := mJ M) (A := mA M) h.1.1 hw h.1.2 with ⟨y, e⟩ | ⟨y, I', A', e, hc⟩
  · refine SET.bd h hx h9 ke hw kf e h.1.2 (k := 1) (by decide) (fun _ => if_pos rfl) (fun M1 k1 => kn_X7_draw k1.2.2.1.2.1 k1.fn) (fun M1 k1 => ?_)
    exact thr_et (k := k1) (r_draw_no (I := mI M1) (J := mJ M1) (A := mA M1) k1.2.1.1 k1.2.1.2 hw y)
  · have hx' := hx.draw y
    have e7 : eS (gDraw G) 7 = eS G 7 := by
      unfold gDraw
      split <;> rfl
    have ce1 : CE I' (eDraw G e0) := x_draw (I := mI M) (J := mJ M) (A := mA M) h.1.1 hw h.x46 h.1.2 y ce0 e
    refine SET.ok h tb re0 kf e hc ce1 (eb0.draw G) hx' h9.draw (hx'.f (by rw [e7]; exact hr)) (by rw [e7]; exact Nat.le_succ _) (fun M1 k1 => kn_X7_draw k1.2.2.1.2.1 k1.fn) (fun M1 k1 re1 => ?_)
    obtain ⟨I2, A2, M2, r1, r2, r3, r0, r4⟩ := r_draw (I := mI M1) (J := mJ M1) (A := mA M1) k1.2.1.1 k1.2.1.2 hw hx.2.2.2.2.2.2.1 y
    exact ⟨hp, dl, _, r1, r2, r3, r0, ⟨Nat.le_trans r4.1 (Nat.add_le_add_left (by decide) _), Nat.le_trans r4.2 (Nat.add_le_add_left (by decide) _)⟩, x_drawR (I := mI M1) (J := mJ M1) (A := mA M1) k1.2.1.1 k1.2.1.2 hw hx.2.2.2.2.2.2.1 y re1 r1⟩
theorem tj_call (h : CK n xs M G G hp dl) (hx : WX G) (h9 : W9 G) (ke : EK cc M) (hr : eS G 7 < 2 ^ 20) (i : Int32) : SET n xs cc M G (f_L_call 1000 i 1045 M) (fun M1 => f_X7_call 1026 i M1) := by
  have hw := hx.f hr
  have kf := kc_X3_call h.2.2.1.1 own1000 (FC.rf M) (i1 := i)
  obtain ⟨tb, e0, ce0, re0, eb0⟩ := id ke
  have q := q_call (I := mI M) (J := mJ M) (A := mA M) h.1.1 hw hx.v hx.z h.1.2 i
  unfold f_L_call f_L_call_0
  rw [if_pos h.1.1.1]
  by_cases y : oBad i
  · have eo : oCall G i = some "java/lang/IllegalArgumentException" := if_pos y
    rw [eo] at q
    obtain ⟨A', e, hc⟩ := q
    exact SET.bd h hx h9 ke hw kf e hc (k := 1) (by decide) (fun _ => if_pos rfl) (fun M1 k1 => kn_X7_call k1.2.2.1.2.1 k1.fn) (fun M1 k1 => thr_et (k := k1) (r_call_bad (I := mI M1) (J := mJ M1) (A := mA M1) k1.2.1.1 y))
  · obtain ⟨c, hc25, rfl⟩ := oBad_no y
    have ecl : (nI c).toNatClampNeg = c := nI_cl (by omega)
    by_cases z : cOk G c = true
    · have z' := of_decide_eq_true z
      obtain ⟨I', J', A', e, hc, ce1⟩ := x_call (I := mI M) (J := mJ M) (A := mA M) h.1.1 hw hx.v hx.z h.x46 h.1.2 hc25 z'.1 z'.2.2.1 z'.2.1 z'.2.2.2.1 z'.2.2.2.2 ce0
      have hx' := hx.cr z'.1 hc25 z'.2.2.2.1 (eS G 5)
      refine SET.ok h tb re0 kf e hc ce1 (eb0.cal _) hx' (h9.of rfl rfl) (hx'.f hr) (Nat.le_succ _) (fun M1 k1 => kn_X7_call k1.2.2.1.2.1 k1.fn) (fun M1 k1 re1 => ?_)
      rcases r_call (I := mI M1) (J := mJ M1) (A := mA M1) k1.2.1.1 k1.2.1.2 hw hx.v hc25 with ⟨-, I2, J2, A2, M2, dl2, w, r1, r2, r3, r0, r4⟩ | ⟨u, -⟩
      · obtain ⟨re2, rfl⟩ := x_callR (I := mI M1) (J := mJ M1) (A := mA M1) k1.2.1.1 k1.2.1.2 hw hx.v hc25 z re1 r1
        exact ⟨hp, dl2, _, r1, r2, r3, r0, ⟨Nat.le_trans r4.1 (Nat.add_le_add_left (by decide) _), Nat.le_trans r4.2 (Nat.add_le_add_left (by decide) _)⟩, re2⟩
      · rw [z] at u
        cases u
    · have eo : oCall G (nI c) = some "java/lang/IllegalStateException" := by
        unfold oCall
        rw [if_neg y, ecl]
        exact if_neg (fun u => z (decide_eq_true ⟨u.1, u.2.2.1, u.2.1, u.2.2.2.1, u.2.2.2.2⟩))
      rw [eo] at q
      obtain ⟨A', e, hc⟩ := q
      refine SET.bd h hx h9 ke hw kf e hc (k := 2) (by decide) (fun _ => (if_neg (by decide)).trans (if_pos rfl)) (fun M1 k1 => kn_X7_call k1.2.2.1.2.1 k1.fn) (fun M1 k1 e1 re1 => ?_)
      rcases r_call (I := mI M1) (J := mJ M1) (A := mA M1) k1.2.1.1 k1.2.1.2 hw hx.v hc25 with ⟨u, -⟩ | ⟨u, M2, r1, r2, r3, r0, r4⟩
      · exact absurd u z
      · exact ⟨_, M2, r1, r2, r3, r0, ⟨Nat.le_trans r4.1 (Nat.add_le_add_left (by decide) _), Nat.le_trans r4.2 (Nat.add_le_add_left (by decide) _)⟩, x_callRn (I := mI M1) (J := mJ M1) (A := mA M1) k1.2.1.1 k1.2.1.2 hw hx.v hc25 u re1 r1⟩
/-- the dealer and the lucky kind -/
theorem CK.dealer (h : CK n xs M Gc Gr hp dl) (hd : WD Gr) (h7 : eS Gr 7 ≠ 0) : mI M 424 1026 = nI (eS Gr 6 - 1) ∧ eS Gr 6 - 1 < 4 := by
  rcases hd with ⟨z, -⟩ | ⟨-, z⟩
  · exact absurd z h7
  · refine ⟨dl_eq ?_, by omega⟩
    rw [show eS Gr 6 - 1 + 1 = eS Gr 6 by omega]
    exact h.2.1.2.1.2.2.1
theorem CK.dealerC (h : CK n xs M Gc Gr hp dl) (hd : WD Gc) (h7 : eS Gc 7 ≠ 0) : mI M 297 1000 = nI (eS Gc 6 - 1) ∧ eS Gc 6 - 1 < 4 := by
  rcases hd with ⟨z, -⟩ | ⟨-, z⟩
  · exact absurd z h7
  · refine ⟨dl_eq ?_, by omega⟩
    rw [show eS Gc 6 - 1 + 1 = eS Gc 6 by omega]
    exact h.1.2.1.2.2.2.2.2.2.1
theorem CK.lucky (h : CK n xs M Gc Gr hp dl) (h7 : eS Gr 7 ≠ 0) {e : zPt} (re : RE (mI M) e) : ∃ k, k < 25 ∧ e.2.2.2.1 = nI k := by
  obtain ⟨-, -, -, k, k1, k2⟩ := h.2.1.2.1.2.2.2.2.2.1 h7
  exact ⟨k, k1, re.2.2.1.symm.trans k2⟩
theorem wOk_7 (hx : WX G) {p : Nat} (z : wOk G p = true) : eS G 7 ≠ 0 := by
  refine hx.2.2.2.2.2.2.2.2.2 fun y => ?_
  unfold wOk at z
  rw [if_neg (by omega)] at z
  unfold oByDis at z
  rw [Bool.and_eq_true] at z
  have := of_decide_eq_true z.1
  omega
theorem tj_win (h : CK n xs M G G hp dl) (hx : WX G) (h9 : W9 G) (ke : EK cc M) (hr : eS G 7 < 2 ^ 20) (i : Int32) : SET n xs cc M G (f_L_win 1000 i 1045 M) (fun M1 => f_X7_win 1026 i M1) := by
  have hw := hx.f hr
  have hL := hx.2.2.2.2.2.1
  have kf := kc_X3_win h.2.2.1.1 own1000 (FC.rf M) (i1 := i)
  obtain ⟨tb, e0, ce0, re0, eb0⟩ := id ke
  have q := q_win (I := mI M) (J := mJ M) (A := mA M) h.1.1 hw hL hx.t hx.z h.1.2 i
  unfold f_L_win f_L_win_0
  rw [if_pos h.1.1.1]
  by_cases y : i < 0 ∨ 4 ≤ i.toNatClampNeg
  · have eo : oWin G i = some "java/lang/IndexOutOfBoundsException" := if_pos y
    rw [eo] at q
    obtain ⟨A', e, hc⟩ := q
    exact SET.bd h hx h9 ke hw kf e hc (k := 1) (by decide) (fun _ => if_pos rfl) (fun M1 k1 => kn_X7_win k1.2.2.1.2.1 k1.fn) (fun M1 k1 => thr_et (k := k1) (r_win_bad (I := mI M1) (J := mJ M1) (A := mA M1) k1.2.1.1 y))
  · obtain ⟨p, hp4, rfl⟩ := cl_no y
    have ep : (nI p).toNatClampNeg = p := nI_cl (by omega)
    have r := fun (M1 : zM) (k1 : ∃ Gc, CK n xs M1 Gc G hp dl) => r_win (I := mI M1) (J := mJ M1) (A := mA M1) k1.choose_spec.2.1.1 k1.choose_spec.2.1.2 hw hx.v hx.z hx.z1 hx.2.2.2.2.2.2.2.2.1 hx.2.2.2.2.2.2.2.2.2 hL hx.t hp4
    by_cases z : wOk G p = true
    · have eo : oWin G (nI p) = none := by
        unfold oWin
        rw [if_neg y, ep]
        exact if_pos z
      rw [eo] at q
      obtain ⟨I', A', v, e, hc⟩ := q
      rw [ep] at hc
      have h7 := wOk_7 hx z
      have hD := h.dealerC hx.2.2.2.2.2.2.1 h7
      obtain ⟨lk, lk1, lk2⟩ := h.lucky h7 re0
      obtain ⟨I1, A1, e1, ce1⟩ := x_winC (I := mI M) (J := mJ M) (A := mA M) h.1.1 hx hw h.1.2 hp4 z hD.1 hD.2 lk1 ce0 lk2
      have e1' := e.symm.trans e1
      have ev : v = nI (VLG (decide (eS G 4 = 1)) (gWt G p) p lk (eS G 6 - 1)) := Sum.inr.inj (congrArg Prod.fst (Option.some.inj e1'))
      have eI : I' = I1 := congrArg (fun t => mI (Prod.snd t)) (Option.some.inj e1')
      rw [← eI] at ce1
      have hx' := hx.win hp4 z
      have e7 : eS (gWin G p) 7 = eS G 7 := by
        unfold gWin
        split <;> rfl
      refine SET.ok h tb re0 kf e hc ce1 (eb0.win hp4 _ _ (Nat.min_le_right _ _)) hx' (h9.win p) (hx'.f (by rw [e7]; exact hr)) (by rw [e7]; exact Nat.le_succ _) (fun M1 k1 => kn_X7_win k1.2.2.1.2.1 k1.fn) (fun M1 k1 re1 => ?_)
      rcases r M1 ⟨_, k1⟩ with ⟨-, w, I2, J2, A2, M2, r1, r2, r3, r0, r4⟩ | ⟨u, -⟩
      · have hD2 := k1.dealer hx.2.2.2.2.2.2.1 h7
        obtain ⟨M3, r5, re2⟩ := x_winR (I := mI M1) (J := mJ M1) (A := mA M1) k1.2.1.1 hx h9 hw k1.2.1.2 hp4 z hD2.1 hD2.2 lk1 re1 lk2
        have r6 := Option.some.inj (r1.symm.trans r5)
        have ew : w = v := (congrArg Prod.fst r6).trans ev.symm
        have eM : cs I2 J2 A2 M2 = M3 := congrArg Prod.snd r6
        rw [← eM] at re2
        rw [ew] at r1
        exact ⟨hp, dl, _, r1, r2, r3, r0, ⟨Nat.le_trans r4.1 (Nat.add_le_add_left (by decide) _), Nat.le_trans r4.2 (Nat.add_le_add_left (by decide) _)⟩, re2⟩
      · rw [z] at u
        cases u
    · have eo : oWin G (nI p) = some "java/lang/IllegalStateException" := by
        unfold oWin
        rw [if_neg y, ep]
        exact if_neg z
      rw [eo] at q
      obtain ⟨A', e, hc⟩ := q
      refine SET.bd h hx h9 ke hw kf e hc (k := 2) (by decide) (fun _ => (if_neg (by decide)).trans (if_pos rfl)) (fun M1 k1 => kn_X7_win k1.2.2.1.2.1 k1.fn) (fun M1 k1 e1 re1 => ?_)
      rcases r M1 ⟨_, k1⟩ with ⟨u, -⟩ | ⟨-, A2, r1, r2⟩
      · exact absurd u z
      · exact ⟨_, _, r1, k1.2.1.1, r2, u2_at (mI M1) 416 1026 2, ⟨Nat.le_add_right _ _, Nat.le_add_right _ _⟩, re1.th 2⟩
theorem tj_lay (h : CK n xs M G G hp dl) (hx : WX G) (h9 : W9 G) (ke : EK cc M) (hr : eS G 7 + 1 < 2 ^ 20) (i1 i2 : Int32) : SET n xs cc M G (f_L_lay 1000 i1 i2 1045 M) (fun M1 => f_X7_lay 1026 i1 i2 M1) := by
  have hw := hx.f (by omega)
  have kf := kc_X3_lay h.2.2.1.1 own1000 (FC.rf M) (i1 := i1) (i2 := i2)
  have kn := fun (M1 : zM) (Gx : zG) (k1 : CK n xs M1 Gx G hp dl) => kn_X7_lay k1.2.2.1.2.1 k1.fn (i1 := i1) (i2 := i2) (a0 := 1026)
  obtain ⟨tb, e0, ce0, re0, eb0⟩ := id ke
  have q := q_lay (I := mI M) (J := mJ M) (A := mA M) h.1.1 hw h.1.2 i1 i2
  unfold f_L_lay f_L_lay_0
  rw [if_pos h.1.1.1]
  by_cases y : laB i1 i2
  · have eo : oLay G i1 i2 = some "java/lang/IllegalArgumentException" := if_pos y
    rw [eo] at q
    exact SET.bd h hx h9 ke hw kf q h.1.2 (k := 1) (by decide) (fun _ => if_pos rfl) (fun M1 k1 => kn M1 _ k1) (fun M1 k1 => thr_et (k := k1) (r_lay_bad (I := mI M1) (J := mJ M1) (A := mA M1) k1.2.1.1 y))
  · have ok1 : ∃ st, st < 2 ^ 31 ∧ i1 = nI st := (nI_all i1).resolve_left (fun z => y (Or.inl z))
    have ok2 : ∃ sh, sh < 2 ^ 31 ∧ i2 = nI sh := (nI_all i2).resolve_left (fun z => y (Or.inr (Or.inr (Or.inr (Or.inr (Or.inr (Or.inl z)))))))
    obtain ⟨st, st1, rfl⟩ := ok1
    obtain ⟨sh, sh1, rfl⟩ := ok2
    have y' := y
    unfold laB at y'
    rw [nI_cl st1, nI_cl sh1] at y'
    have n1 : st ≠ 0 := fun z => y' (Or.inr (Or.inl z))
    have n2 : st < 100 := Nat.lt_of_not_le fun z => y' (Or.inr (Or.inr (Or.inl z)))
    have n3 : st % 2 ≠ 0 := fun z => y' (Or.inr (Or.inr (Or.inr (Or.inl z))))
    have n4 : st % 5 ≠ 0 := fun z => y' (Or.inr (Or.inr (Or.inr (Or.inr (Or.inl z)))))
    have n5 : sh < 100 := Nat.lt_of_not_le fun z => y' (Or.inr (Or.inr (Or.inr (Or.inr (Or.inr (Or.inr z))))))
    by_cases z : eS G 4 = 3
    · have eo : oLay G (nI st) (nI sh) = none := (if_neg y).trans (if_pos z)
      rw [eo] at q
      obtain ⟨I', J', A', e, hc⟩ := q
      rw [nI_cl st1, nI_cl sh1] at hc
      have ce1 : CE I' (eLay e0 (gK (gBeg G st sh) 95)) := x_lay (I := mI M) (J := mJ M) (A := mA M) h.1.1 hw h.x46 h.1.2 n1 n2 n3 n4 n5 z ce0 e
      have hx' := hx.lay n2 n3 n4 n5
      have e7 : eS (gLay G st sh) 7 = eS G 7 + 1 := congrFun (gAll_S 4 0 (gBeg G st sh)) 7
      refine SET.ok h tb re0 kf e hc ce1 (eb0.lay _) hx' (W9.lay st sh) (hx'.f (by omega)) (by omega) (fun M1 k1 => kn M1 _ k1) (fun M1 k1 re1 => ?_)
      rcases r_lay (I := mI M1) (J := mJ M1) (A := mA M1) k1.2.1.1 k1.2.1.2 hw hx.2.2.2.2.2.2.1 n1 n2 n3 n4 n5 with ⟨-, I2, J2, A2, M2, hp2, r1, r2, r3, r0, r4⟩ | ⟨u, -⟩
      · obtain ⟨w, M3, r5, re2⟩ := x_layR (I := mI M1) (J := mJ M1) (A := mA M1) k1.2.1.1 k1.2.1.2 hw hx.2.2.2.2.2.2.1 n1 n2 n3 n4 n5 z re1
        have eM : cs I2 J2 A2 M2 = M3 := congrArg Prod.snd (Option.some.inj (r1.symm.trans r5))
        rw [← eM] at re2
        exact ⟨hp2, dl, _, r1, r2, r3, r0, ⟨Nat.le_trans r4.1 (Nat.add_le_add_left (by decide) _), Nat.le_trans r4.2 (Nat.add_le_add_left (by decide) _)⟩, re2⟩
      · exact absurd z u
    · have eo : oLay G (nI st) (nI sh) = some "java/lang/IllegalStateException" := (if_neg y).trans (if_neg z)
      rw [eo] at q
      refine SET.bd h hx h9 ke hw kf q h.1.2 (k := 2) (by decide) (fun _ => (if_neg (by decide)).trans (if_pos rfl)) (fun M1 k1 => kn M1 _ k1) (fun M1 k1 => ?_)
      rcases r_lay (I := mI M1) (J := mJ M1) (A := mA M1) k1.2.1.1 k1.2.1.2 hw hx.2.2.2.2.2.2.1 n1 n2 n3 n4 n5 with ⟨u, -⟩ | ⟨-, r1⟩
      · exact absurd u z
      · exact thr_et (k := k1) r1
end JTE
