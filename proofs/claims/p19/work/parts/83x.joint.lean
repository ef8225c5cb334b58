/-! ===== BOTH: the calls that play, with code and answer ===== -/
def SE2 (n : Nat) (xs : Nat → Int32) (M : zM) (G : zG) (x : Option (Int32 × zM)) (y : zM → Option (Int32 × zM)) : Prop := ∃ v M1 w M2 G2 hp2 dl2, x = some (v, M1) ∧ ROW n xs M1 ∧ y M1 = some (w, M2) ∧ CK n xs M2 G2 G2 hp2 dl2 ∧ (mI M2 416 1026 = v ∧ (v = 0 → mJ M2 320 1045 = w.toInt64)) ∧ WX G2 ∧ eS G2 7 ≤ eS G 7 + 1 ∧ (mX M2 ≤ mX M + 404 ∧ mS M2 ≤ mS M + 1640)
section PLAYE
variable {n : Nat} {xs : Nat → Int32} {M M' : zM} {G G' Gc Gr : zG} {hp dl hp' dl' : Nat → Nat}
theorem SE2.ok (h : CK n xs M G G hp dl) {x : Option ((String ⊕ Int32) × zM)} (kf : KF (FC M) x) {I' : Nat → Nat → Int32} {J' : Nat → Nat → Int64} {A' : Nat → Nat → Int32} {v : Int32} (e : x = some (.inr v, cs I' J' A' M)) (hc : CR I' J' A' G') (hx : WX G') (hw : WF G') (h7 : eS G' 7 ≤ eS G 7 + 1) {c : String → zM → Option (Int32 × zM)} {y : zM → Option (Int32 × zM)} (kn : ∀ M1, CK n xs M1 G' G hp dl → KF (FN M1) (y M1)) (hy : ∀ M1, CK n xs M1 G' G hp dl → ∃ hp2 dl2 M2, y M1 = some (v, M2) ∧ RS M2 hp2 dl2 ∧ RN (mI M2) (mJ M2) (mA M2) M2 G' hp2 dl2 ∧ mI M2 416 1026 = 0 ∧ (mX M2 ≤ mX M1 + 400 ∧ mS M2 ≤ mS M1 + 1600)) : SE2 n xs M G (xc x c fun w Mw => (pJ 10 0 Mw 1045 w.toInt64).bind fun M4 => some ((0 : Int32), M4)) y := by
  have fc : FC M (cs I' J' A' M) := kf _ e
  have ck : CK n xs (cs I' J' A' M) G' G hp dl := h.c0 rfl rfl rfl rfl fc h.1.1 hc
  have ck1 := ck.sJ v.toInt64
  have ew : pJ 10 0 (cs I' J' A' M) 1045 v.toInt64 = some (sJ (cs I' J' A' M) 320 1045 v.toInt64) := e_pJ 320 ck.2.2.2.2
  have eJ : mJ (sJ (cs I' J' A' M) 320 1045 v.toInt64) 320 1045 = v.toInt64 := u2_at J' 320 1045 _
  have eX : mX (sJ (cs I' J' A' M) 320 1045 v.toInt64) = mX M := rfl
  have eS' : mS (sJ (cs I' J' A' M) 320 1045 v.toInt64) = mS M := rfl
  rw [e]
  generalize sJ (cs I' J' A' M) 320 1045 v.toInt64 = M1 at *
  have hX := ck1.2.1.1.2.2.2.2.2.2.2
  obtain ⟨hp2, dl2, M2, r1, r2, r3, r4, r5⟩ := hy M1 ck1
  have fn := kn M1 ck1 _ r1
  refine ⟨0, M1, v, M2, G', hp2, dl2, ?_, ck1.row, r1, ck1.ref hw fn r2 r3, ⟨r4, fun _ => (fn.2.2 (by omega)).trans eJ⟩, hx, h7, by omega⟩
  show (pJ 10 0 (cs I' J' A' M) 1045 _).bind _ = _
  rw [ew]
  rfl
theorem SE2.bd {α : Type} (h : CK n xs M G G hp dl) (hx : WX G) (hw : WF G) {x : Option ((String ⊕ α) × zM)} (kf : KF (FC M) x) {A' : Nat → Nat → Int32} {E : String} (e : x = some (.inl E, cs (mI M) (mJ M) A' (nE M))) (hcr : CR (mI M) (mJ M) A' G) {c : String → zM → Option (Int32 × zM)} {f : α → zM → Option (Int32 × zM)} {k : Int32} (hk : k ≠ 0) (hc : ∀ M', c E M' = some (k, M')) {y : zM → Option (Int32 × zM)} (kn : ∀ M1, CK n xs M1 G G hp dl → KF (FN M1) (y M1)) (hy : ∀ M1, CK n xs M1 G G hp dl → ∃ w M2, y M1 = some (w, M2) ∧ RS M2 hp dl ∧ RN (mI M2) (mJ M2) (mA M2) M2 G hp dl ∧ mI M2 416 1026 = k ∧ (mX M2 ≤ mX M1 + 400 ∧ mS M2 ≤ mS M1 + 1600)) : SE2 n xs M G (xc x c f) y := by
  have fc : FC M (cs (mI M) (mJ M) A' (nE M)) := kf _ e
  have ck : CK n xs (cs (mI M) (mJ M) A' (nE M)) G G hp dl := h.c0 rfl rfl rfl rfl fc h.1.1 hcr
  have eX : mX (cs (mI M) (mJ M) A' (nE M)) = mX M + 1 := rfl
  have eS' : mS (cs (mI M) (mJ M) A' (nE M)) = mS M + 6 := rfl
  rw [e]
  have ec := hc (cs (mI M) (mJ M) A' (nE M))
  generalize cs (mI M) (mJ M) A' (nE M) = M1 at *
  obtain ⟨w, M2, r1, r2, r3, r4, r5⟩ := hy M1 ck
  exact ⟨k, M1, w, M2, G, hp, dl, ec, ck.row, r1, ck.ref hw (kn M1 ck _ r1) r2 r3, ⟨r4, fun z => absurd z hk⟩, hx, Nat.le_succ _, by omega⟩
/-- the reference throws -/
theorem thr_ex {k : CK n xs M Gc Gr hp dl} {y : Option (Int32 × zM)} {w v : Int32} (e : y = some (w, cs (th v (mI M)) (mJ M) (mA M) M)) : ∃ w M2, y = some (w, M2) ∧ RS M2 hp dl ∧ RN (mI M2) (mJ M2) (mA M2) M2 Gr hp dl ∧ mI M2 416 1026 = v ∧ (mX M2 ≤ mX M + 400 ∧ mS M2 ≤ mS M + 1600) := ⟨w, _, e, k.2.1.1, k.2.1.2.th v, u2_at (mI M) 416 1026 v, Nat.le_add_right _ _, Nat.le_add_right _ _⟩
theorem e_pass (h : CK n xs M G G hp dl) (hx : WX G) (hr : eS G 7 < 2 ^ 20) : SE2 n xs M G (f_L_pass 1000 1045 M) (fun M1 => f_X7_pass 1026 M1) := by
  have hw := hx.f hr
  have kf := kc_X3_pass h.2.2.1.1 own1000 (FC.rf M)
  unfold f_L_pass f_L_pass_0
  rw [if_pos h.1.1.1]
  rcases q_pass (I := mI M) (J := mJ M) (A := mA M) h.1.1 h.1.2 hw with ⟨y, e⟩ | ⟨y, I', e, hc⟩
  · refine SE2.bd h hx hw kf e h.1.2 (k := 1) (by decide) (fun _ => if_pos rfl) (fun M1 k1 => kn_X7_pass k1.2.2.1.2.1 k1.fn) (fun M1 k1 => ?_)
    have r := r_pass (I := mI M1) (J := mJ M1) (A := mA M1) k1.2.1.1 k1.2.1.2 hw
    rw [if_neg y] at r
    exact thr_ex (k := k1) r
  · have hx' := hx.pass y
    refine SE2.ok h kf e hc hx' (hx'.f hr) (Nat.le_succ _) (fun M1 k1 => kn_X7_pass k1.2.2.1.2.1 k1.fn) (fun M1 k1 => ?_)
    have r := r_pass (I := mI M1) (J := mJ M1) (A := mA M1) k1.2.1.1 k1.2.1.2 hw
    rw [if_pos y] at r
    obtain ⟨I2, r1, r0, r2⟩ := r
    exact ⟨hp, dl, _, r1, k1.2.1.1, r2, r0, Nat.le_add_right _ _, Nat.le_add_right _ _⟩
theorem e_draw (h : CK n xs M G G hp dl) (hx : WX G) (hr : eS G 7 < 2 ^ 20) : SE2 n xs M G (f_L_draw 1000 1045 M) (fun M1 => f_X7_draw 1026 M1) := by
  have hw := hx.f hr
  have kf := kc_X3_draw h.2.2.1.1 own1000 (FC.rf M)
  unfold f_L_draw f_L_draw_0
  rw [if_pos h.1.1.1]
  rcases q_draw (I := mI M) (J := mJ M) (A := mA M) h.1.1 hw h.1.2 with ⟨y, e⟩ | ⟨y, I', A', e, hc⟩
  · refine SE2.bd h hx hw kf e h.1.2 (k := 1) (by decide) (fun _ => if_pos rfl) (fun M1 k1 => kn_X7_draw k1.2.2.1.2.1 k1.fn) (fun M1 k1 => ?_)
    exact thr_ex (k := k1) (r_draw_no (I := mI M1) (J := mJ M1) (A := mA M1) k1.2.1.1 k1.2.1.2 hw y)
  · have hx' := hx.draw y
    have e7 : eS (gDraw G) 7 = eS G 7 := by
      unfold gDraw
      split <;> rfl
    refine SE2.ok h kf e hc hx' (hx'.f (by rw [e7]; exact hr)) (by rw [e7]; exact Nat.le_succ _) (fun M1 k1 => kn_X7_draw k1.2.2.1.2.1 k1.fn) (fun M1 k1 => ?_)
    obtain ⟨I2, A2, M2, r1, r2, r3, r0, r4⟩ := r_draw (I := mI M1) (J := mJ M1) (A := mA M1) k1.2.1.1 k1.2.1.2 hw hx.2.2.2.2.2.2.1 y
    exact ⟨hp, dl, _, r1, r2, r3, r0, Nat.le_trans r4.1 (Nat.add_le_add_left (by decide) _), Nat.le_trans r4.2 (Nat.add_le_add_left (by decide) _)⟩
theorem e_discard (h : CK n xs M G G hp dl) (hx : WX G) (hr : eS G 7 < 2 ^ 20) (i : Int32) : SE2 n xs M G (f_L_discard 1000 i 1045 M) (fun M1 => f_X7_discard 1026 i M1) := by
  have hw := hx.f hr
  have kf := kc_X3_discard h.2.2.1.1 own1000 (FC.rf M) (i1 := i)
  have q := q_discard (I := mI M) (J := mJ M) (A := mA M) h.1.1 hw h.1.2 i
  unfold f_L_discard f_L_discard_0
  rw [if_pos h.1.1.1]
  by_cases y : oBad i
  · have eo : oDisc G i = some "java/lang/IllegalArgumentException" := if_pos y
    rw [eo] at q
    exact SE2.bd h hx hw kf q h.1.2 (k := 1) (by decide) (fun _ => if_pos rfl) (fun M1 k1 => kn_X7_discard k1.2.2.1.2.1 k1.fn) (fun M1 k1 => thr_ex (k := k1) (r_discard_bad (I := mI M1) (J := mJ M1) (A := mA M1) k1.2.1.1 y))
  · obtain ⟨c, hc25, rfl⟩ := oBad_no y
    have ecl : (nI c).toNatClampNeg = c := nI_cl (by omega)
    by_cases z : dOk G c
    · have eo : oDisc G (nI c) = none := by
        unfold oDisc
        rw [if_neg y, ecl]
        exact if_pos z
      rw [eo] at q
      obtain ⟨I', J', A', e, hc⟩ := q
      rw [ecl] at hc
      have hx' := hx.riv z.1 hc25 z.2.1
      refine SE2.ok h kf e hc hx' (hx'.f hr) (Nat.le_succ _) (fun M1 k1 => kn_X7_discard k1.2.2.1.2.1 k1.fn) (fun M1 k1 => ?_)
      rcases r_discard (I := mI M1) (J := mJ M1) (A := mA M1) k1.2.1.1 k1.2.1.2 hw hx.2.2.2.2.2.2.2.1 hc25 with ⟨-, I2, J2, A2, M2, dl2, r1, r2, r3, r0, r4⟩ | ⟨u, -⟩
      · exact ⟨hp, dl2, _, r1, r2, r3, r0, Nat.le_trans r4.1 (Nat.add_le_add_left (by decide) _), Nat.le_trans r4.2 (Nat.add_le_add_left (by decide) _)⟩
      · exact absurd z u
    · have eo : oDisc G (nI c) = some "java/lang/IllegalStateException" := by
        unfold oDisc
        rw [if_neg y, ecl]
        exact if_neg z
      rw [eo] at q
      refine SE2.bd h hx hw kf q h.1.2 (k := 2) (by decide) (fun _ => (if_neg (by decide)).trans (if_pos rfl)) (fun M1 k1 => kn_X7_discard k1.2.2.1.2.1 k1.fn) (fun M1 k1 => ?_)
      rcases r_discard (I := mI M1) (J := mJ M1) (A := mA M1) k1.2.1.1 k1.2.1.2 hw hx.2.2.2.2.2.2.2.1 hc25 with ⟨u, -⟩ | ⟨-, r1⟩
      · exact absurd u z
      · exact thr_ex (k := k1) r1
theorem e_four (h : CK n xs M G G hp dl) (hx : WX G) (hr : eS G 7 < 2 ^ 20) (i : Int32) : SE2 n xs M G (f_L_four 1000 i 1045 M) (fun M1 => f_X7_four 1026 i M1) := by
  have hw := hx.f hr
  have kf := kc_X3_four h.2.2.1.1 own1000 (FC.rf M) (i1 := i)
  have q := q_four (I := mI M) (J := mJ M) (A := mA M) h.1.1 hw hx.z h.1.2 i
  unfold f_L_four f_L_four_0
  rw [if_pos h.1.1.1]
  by_cases y : oBad i
  · have eo : oFour G i = some "java/lang/IllegalArgumentException" := if_pos y
    rw [eo] at q
    exact SE2.bd h hx hw kf q h.1.2 (k := 1) (by decide) (fun _ => if_pos rfl) (fun M1 k1 => kn_X7_four k1.2.2.1.2.1 k1.fn) (fun M1 k1 => thr_ex (k := k1) (r_four_bad (I := mI M1) (J := mJ M1) (A := mA M1) k1.2.1.1 y))
  · obtain ⟨c, hc25, rfl⟩ := oBad_no y
    have ecl : (nI c).toNatClampNeg = c := nI_cl (by omega)
    by_cases z : fOk G c
    · have eo : oFour G (nI c) = none := by
        unfold oFour
        rw [if_neg y, ecl]
        exact if_pos z
      rw [eo] at q
      obtain ⟨I', J', A', e, hc⟩ := q
      rw [ecl] at hc
      have hx' := hx.four hc25 z
      refine SE2.ok h kf e hc hx' (hx'.f hr) (Nat.le_succ _) (fun M1 k1 => kn_X7_four k1.2.2.1.2.1 k1.fn) (fun M1 k1 => ?_)
      rcases r_four (I := mI M1) (J := mJ M1) (A := mA M1) k1.2.1.1 k1.2.1.2 hw hx.z hx.2.2.2.2.2.2.1 hc25 with ⟨-, I2, J2, A2, M2, dl2, r1, r2, r3, r0, r4⟩ | ⟨u, -⟩
      · exact ⟨hp, dl2, _, r1, r2, r3, r0, Nat.le_trans r4.1 (Nat.add_le_add_left (by decide) _), Nat.le_trans r4.2 (Nat.add_le_add_left (by decide) _)⟩
      · exact absurd z u
    · have eo : oFour G (nI c) = some "java/lang/IllegalStateException" := by
        unfold oFour
        rw [if_neg y, ecl]
        exact if_neg z
      rw [eo] at q
      refine SE2.bd h hx hw kf q h.1.2 (k := 2) (by decide) (fun _ => (if_neg (by decide)).trans (if_pos rfl)) (fun M1 k1 => kn_X7_four k1.2.2.1.2.1 k1.fn) (fun M1 k1 => ?_)
      rcases r_four (I := mI M1) (J := mJ M1) (A := mA M1) k1.2.1.1 k1.2.1.2 hw hx.z hx.2.2.2.2.2.2.1 hc25 with ⟨u, -⟩ | ⟨-, r1⟩
      · exact absurd u z
      · exact thr_ex (k := k1) r1
theorem e_claim (h : CK n xs M G G hp dl) (hx : WX G) (hr : eS G 7 < 2 ^ 20) (i1 i2 i3 : Int32) : SE2 n xs M G (f_L_claim 1000 i1 i2 i3 1045 M) (fun M1 => f_X7_claim 1026 i1 i2 i3 M1) := by
  have hw := hx.f hr
  have hL := hx.2.2.2.2.2.1
  have kf := kc_X3_claim h.2.2.1.1 own1000 (FC.rf M) (i1 := i1) (i2 := i2) (i3 := i3)
  have q := q_claim (I := mI M) (J := mJ M) (A := mA M) h.1.1 hw hL hx.t h.1.2 i1 i2 i3 (fun p w hp4 _ hm => (hx.may hp4 hm).2)
  unfold f_L_claim f_L_claim_0
  rw [if_pos h.1.1.1]
  by_cases y1 : i1 < 0 ∨ 4 ≤ i1.toNatClampNeg
  · have eo : oClaim G i1 i2 i3 = some "java/lang/IndexOutOfBoundsException" := if_pos y1
    rw [eo] at q
    exact SE2.bd h hx hw kf q h.1.2 (k := 1) (by decide) (fun _ => if_pos rfl) (fun M1 k1 => kn_X7_claim k1.2.2.1.2.1 k1.fn) (fun M1 k1 => thr_ex (k := k1) (r_claim_bad (I := mI M1) (J := mJ M1) (A := mA M1) k1.2.1.1 i2 i3 y1))
  · obtain ⟨p, hp4, rfl⟩ := cl_no y1
    have ep : (nI p).toNatClampNeg = p := nI_cl (by omega)
    by_cases y2 : i2 < 0 ∨ 3 ≤ i2.toNatClampNeg
    · have eo : oClaim G (nI p) i2 i3 = some "java/lang/IllegalArgumentException" := (if_neg y1).trans (if_pos y2)
      rw [eo] at q
      exact SE2.bd h hx hw kf q h.1.2 (k := 2) (by decide) (fun _ => (if_neg (by decide)).trans (if_pos rfl)) (fun M1 k1 => kn_X7_claim k1.2.2.1.2.1 k1.fn) (fun M1 k1 => thr_ex (k := k1) (r_claim_bad2 (I := mI M1) (J := mJ M1) (A := mA M1) k1.2.1.1 hp4 i3 y2))
    · obtain ⟨w, hw3, rfl⟩ := cl_no y2
      have ew : (nI w).toNatClampNeg = w := nI_cl (by omega)
      have r := fun (M1 : zM) (k1 : ∃ Gc, CK n xs M1 Gc G hp dl) => r_claim (I := mI M1) (J := mJ M1) (A := mA M1) k1.choose_spec.2.1.1 k1.choose_spec.2.1.2 hw hx.2.2.2.2.2.2.1 hL hx.t hp4 (show w ≤ 2 by omega) i3 (fun hm => (hx.may hp4 hm).2)
      by_cases z : oMay G p w i3 = true
      · have eo : oClaim G (nI p) (nI w) i3 = none := by
          unfold oClaim
          rw [if_neg y1, if_neg y2, ep, ew, if_pos z]
        rw [eo] at q
        obtain ⟨I', A', e, hc⟩ := q
        rw [ep, ew] at hc
        rw [ep] at e
        have hx' := hx.clm hp4 (show w ≤ 2 by omega) z
        have e7 : eS (gClm G p w i3) 7 = eS G 7 := by
          unfold gClm
          split <;> rfl
        refine SE2.ok h kf e hc hx' (hx'.f (by rw [e7]; exact hr)) (by rw [e7]; exact Nat.le_succ _) (fun M1 k1 => kn_X7_claim k1.2.2.1.2.1 k1.fn) (fun M1 k1 => ?_)
        rcases r M1 ⟨_, k1⟩ with ⟨-, I2, J2, A2, M2, dl2, r1, r2, r3, r0, r4⟩ | ⟨u, -⟩
        · exact ⟨hp, dl2, _, r1, r2, r3, r0, Nat.le_trans r4.1 (Nat.add_le_add_left (by decide) _), Nat.le_trans r4.2 (Nat.add_le_add_left (by decide) _)⟩
        · rw [z] at u
          cases u
      · have eo : oClaim G (nI p) (nI w) i3 = some "java/lang/IllegalStateException" := by
          unfold oClaim
          rw [if_neg y1, if_neg y2, ep, ew, if_neg z]
        rw [eo] at q
        refine SE2.bd h hx hw kf q h.1.2 (k := 3) (by decide) (fun _ => (if_neg (by decide)).trans ((if_neg (by decide)).trans (if_pos rfl))) (fun M1 k1 => kn_X7_claim k1.2.2.1.2.1 k1.fn) (fun M1 k1 => ?_)
        rcases r M1 ⟨_, k1⟩ with ⟨u, -⟩ | ⟨-, r1⟩
        · exact absurd u z
        · exact thr_ex (k := k1) r1
end PLAYE
/-! ===== BOTH: has, ofSet, river, with code and answer ===== -/
section ASKE
variable {n : Nat} {xs : Nat → Int32} {M M' : zM} {G G' Gc Gr : zG} {hp dl hp' dl' : Nat → Nat}
theorem q_pl_bad {i : Int32} (y : pBad i) (M : zM) : f_X3_requirePlayer i M = some (.inl "java/lang/IndexOutOfBoundsException", nE M) := by
  rcases q_pl i M with ⟨p, hp, rfl, -⟩ | e
  · rcases y with z | z
    · exact absurd z (nI_nn (by omega))
    · rw [nI_cl (by omega)] at z
      omega
  · exact e
/-- asked, and answered as the reference answers -/
theorem SE2.q (h : CK n xs M G G hp dl) (hx : WX G) (hw : WF G) {x : Option ((String ⊕ Int32) × zM)} {v : Int32} (kf : KF (FC M) x) (e : x = some (.inr v, M)) {c : String → zM → Option (Int32 × zM)} {y : zM → Option (Int32 × zM)} (kn : ∀ M1, CK n xs M1 G G hp dl → KF (FN M1) (y M1)) (hy : ∀ M1, CK n xs M1 G G hp dl → y M1 = some (v, cs (th 0 (mI M1)) (mJ M1) (mA M1) M1)) : SE2 n xs M G (xc x c fun w Mw => (pJ 10 0 Mw 1045 w.toInt64).bind fun M4 => some ((0 : Int32), M4)) y :=
  SE2.ok h kf (I' := mI M) (J' := mJ M) (A' := mA M) e h.1.2 hx hw (Nat.le_succ _) kn fun M1 k1 => ⟨hp, dl, _, hy M1 k1, k1.2.1.1, k1.2.1.2.th 0, u2_at (mI M1) 416 1026 0, Nat.le_add_right _ _, Nat.le_add_right _ _⟩
theorem e_has (h : CK n xs M G G hp dl) (hx : WX G) (hr : eS G 7 < 2 ^ 20) (i1 i2 : Int32) : SE2 n xs M G (f_L_has 1000 i1 i2 1045 M) (fun M1 => f_X7_has 1026 i1 i2 M1) := by
  have hw := hx.f hr
  have kf := kc_X3_has h.2.2.1.1 own1000 (FC.rf M) (i1 := i1) (i2 := i2)
  unfold f_L_has f_L_has_0
  rw [if_pos h.1.1.1]
  by_cases y1 : pBad i1
  · have e : f_X3_has 1000 i1 i2 M = some (.inl "java/lang/IndexOutOfBoundsException", nE M) := by
      unfold f_X3_has f_X3_has_0
      rw [q_pl_bad y1]
      rfl
    exact SE2.bd h hx hw kf e h.1.2 (k := 1) (by decide) (fun _ => if_pos rfl) (fun M1 k1 => kn_X7_has k1.2.2.1.2.1 k1.fn) (fun M1 k1 => thr_ex (k := k1) (r_has_bad (I := mI M1) (J := mJ M1) (A := mA M1) k1.2.1.1 i2 y1))
  · obtain ⟨p, hp4, rfl⟩ := pBad_no y1
    by_cases y2 : oBad i2
    · have e : f_X3_has 1000 (nI p) i2 M = some (.inl "java/lang/IllegalArgumentException", nE M) := by
        unfold f_X3_has f_X3_has_0
        rw [q_pl_ok hp4]
        show xb (f_X3_requireKind i2 M) _ = _
        rw [q_bad y2]
        rfl
      exact SE2.bd h hx hw kf e h.1.2 (k := 2) (by decide) (fun _ => (if_neg (by decide)).trans (if_pos rfl)) (fun M1 k1 => kn_X7_has k1.2.2.1.2.1 k1.fn) (fun M1 k1 => thr_ex (k := k1) (r_has_bad2 (I := mI M1) (J := mJ M1) (A := mA M1) k1.2.1.1 hp4 y2))
    · obtain ⟨k, hk, rfl⟩ := oBad_no y2
      have hsp := h.1.1.2.2.2.2.2.2.2.1 _ hp4
      have e : f_X3_has 1000 (nI p) (nI k) M = some (.inr (nI (eH G p k)), M) := by
        have sq : lQ 1 M 1001 (nI p) = some (1010 + 4 * p) := CSH.seat (I := mI M) (J := mJ M) (A := mA M) h.1.1 hp4
        have ec : f_X1_count (1010 + 4 * p) (nI k) M = some (mA M (1011 + 4 * p) k, M) := q_count (I := mI M) (J := mJ M) (A := mA M) hsp hk
        unfold f_X3_has f_X3_has_0
        rw [q_pl_ok hp4]
        show xb (f_X3_requireKind (nI k) M) _ = _
        rw [q_requireKind_ok hk]
        show (gR 9 0 M 1000).bind _ = _
        rw [e_gR 288 h.1.1.1 h.1.1.2.1, Option.bind_some, sq, Option.bind_some, if_pos hsp.1, ec, Option.bind_some, (h.1.2.2 p hp4).1 k hk]
      exact SE2.q h hx hw kf e (fun M1 k1 => kn_X7_has k1.2.2.1.2.1 k1.fn) (fun M1 k1 => r_has (I := mI M1) (J := mJ M1) (A := mA M1) k1.2.1.1 k1.2.1.2 hp4 hk)
theorem e_river (h : CK n xs M G G hp dl) (hx : WX G) (hr : eS G 7 < 2 ^ 20) (i1 i2 : Int32) : SE2 n xs M G (f_L_river 1000 i1 i2 1045 M) (fun M1 => f_X7_river 1026 i1 i2 M1) := by
  have hw := hx.f hr
  have kf := kc_X3_river h.2.2.1.1 own1000 (FC.rf M) (i1 := i1) (i2 := i2)
  unfold f_L_river f_L_river_0
  rw [if_pos h.1.1.1]
  by_cases y1 : pBad i1
  · have e : f_X3_river 1000 i1 i2 M = some (.inl "java/lang/IndexOutOfBoundsException", nE M) := by
      unfold f_X3_river f_X3_river_0
      rw [q_pl_bad y1]
      rfl
    exact SE2.bd h hx hw kf e h.1.2 (k := 1) (by decide) (fun _ => if_pos rfl) (fun M1 k1 => kn_X7_river k1.2.2.1.2.1 k1.fn) (fun M1 k1 => thr_ex (k := k1) (r_river_bad (I := mI M1) (J := mJ M1) (A := mA M1) k1.2.1.1 i2 y1))
  · obtain ⟨p, hp4, rfl⟩ := pBad_no y1
    have hsp := h.1.1.2.2.2.2.2.2.2.1 _ hp4
    obtain ⟨d1, d2, d3, d4, d5, -⟩ := h.1.2.2 p hp4
    have v3 := (hw.2.2.2.2.2.2.2.2.2.2 p hp4).2.2.1
    have sq : lQ 1 M 1001 (nI p) = some (1010 + 4 * p) := CSH.seat (I := mI M) (J := mJ M) (A := mA M) h.1.1 hp4
    by_cases y2 : i2 < 0 ∨ eM G p ≤ i2.toNatClampNeg
    · have e : f_X3_river 1000 (nI p) i2 M = some (.inl "java/lang/IndexOutOfBoundsException", nE M) := by
        unfold f_X3_river f_X3_river_0
        rw [q_pl_ok hp4]
        show (gR 9 0 M 1000).bind _ = _
        rw [e_gR 288 h.1.1.1 h.1.1.2.1, Option.bind_some, sq, Option.bind_some]
        rcases nI_all i2 with z | ⟨j, z1, rfl⟩
        · rw [if_pos z]
          rfl
        · rw [nI_cl z1] at y2
          have y3 : eM G p ≤ j := y2.resolve_left (nI_nn z1)
          rw [if_neg (nI_nn z1), e_gI 229 hsp.1, Option.bind_some, d4, if_pos (le_t (eM G p) j y3 z1)]
          rfl
      refine SE2.bd h hx hw kf e h.1.2 (k := 1) (by decide) (fun _ => if_pos rfl) (fun M1 k1 => kn_X7_river k1.2.2.1.2.1 k1.fn) (fun M1 k1 => ?_)
      rcases r_river (I := mI M1) (J := mJ M1) (A := mA M1) k1.2.1.1 k1.2.1.2 hw hp4 i2 with ⟨j, j1, rfl, -⟩ | ⟨-, r1⟩
      · rw [nI_cl (by omega)] at y2
        exact absurd (y2.resolve_left (nI_nn (by omega))) (by omega)
      · exact thr_ex (k := k1) r1
    · obtain ⟨j, hj, rfl⟩ := cl_no y2
      have e : f_X3_river 1000 (nI p) (nI j) M = some (.inr (nI (eR G p j)), M) := by
        unfold f_X3_river f_X3_river_0
        rw [q_pl_ok hp4]
        show (gR 9 0 M 1000).bind _ = _
        rw [e_gR 288 h.1.1.1 h.1.1.2.1, Option.bind_some, sq, Option.bind_some, if_neg (nI_nn (by omega)), e_gI 229 hsp.1, Option.bind_some, d4, if_neg (le_f (eM G p) j hj (by omega)), if_pos (lt_t (y := 64) j 64 (by omega) (by decide)), e_gR 226 hsp.1 hsp.2.2.2.1, Option.bind_some, e_lA hsp.2.2.2.2.2.2.1 (by rw [hsp.2.2.2.2.2.2.2]; omega) (by rw [hsp.2.2.2.2.2.2.2]; decide), Option.bind_some, d5 j hj]
      refine SE2.q h hx hw kf e (fun M1 k1 => kn_X7_river k1.2.2.1.2.1 k1.fn) (fun M1 k1 => ?_)
      rcases r_river (I := mI M1) (J := mJ M1) (A := mA M1) k1.2.1.1 k1.2.1.2 hw hp4 (nI j) with ⟨j', j1, j2, r1⟩ | ⟨u, -⟩
      · have ej : j = j' := by
          have := congrArg Int32.toNatClampNeg j2
          rw [nI_cl (by omega), nI_cl (by omega)] at this
          exact this
        subst ej
        exact r1
      · rw [nI_cl (by omega)] at u
        exact absurd (u.resolve_left (nI_nn (by omega))) (by omega)
theorem e_ofSet (h : CK n xs M G G hp dl) (hx : WX G) (hr : eS G 7 < 2 ^ 20) (i1 i2 : Int32) : SE2 n xs M G (f_L_ofSet 1000 i1 i2 1045 M) (fun M1 => f_X7_ofSet 1026 i1 i2 M1) := by
  have hw := hx.f hr
  have kf := kc_X3_ofSet h.2.2.1.1 own1000 (FC.rf M) (i1 := i1) (i2 := i2)
  unfold f_L_ofSet f_L_ofSet_0
  rw [if_pos h.1.1.1]
  by_cases y1 : pBad i1
  · have e : f_X3_ofSet 1000 i1 i2 M = some (.inl "java/lang/IndexOutOfBoundsException", nE M) := by
      unfold f_X3_ofSet f_X3_ofSet_0
      rw [q_pl_bad y1]
      rfl
    exact SE2.bd h hx hw kf e h.1.2 (k := 1) (by decide) (fun _ => if_pos rfl) (fun M1 k1 => kn_X7_ofSet k1.2.2.1.2.1 k1.fn) (fun M1 k1 => thr_ex (k := k1) (r_ofSet_bad (I := mI M1) (J := mJ M1) (A := mA M1) k1.2.1.1 i2 y1))
  · obtain ⟨p, hp4, rfl⟩ := pBad_no y1
    have hsp := h.1.1.2.2.2.2.2.2.2.1 _ hp4
    obtain ⟨d1, d2, d3, d4, d5, -⟩ := h.1.2.2 p hp4
    have v3 := (hw.2.2.2.2.2.2.2.2.2.2 p hp4).2.1
    have sq : lQ 1 M 1001 (nI p) = some (1010 + 4 * p) := CSH.seat (I := mI M) (J := mJ M) (A := mA M) h.1.1 hp4
    by_cases y2 : i2 < 0 ∨ eN G p ≤ i2.toNatClampNeg
    · have e : f_X3_ofSet 1000 (nI p) i2 M = some (.inl "java/lang/IndexOutOfBoundsException", nE M) := by
        unfold f_X3_ofSet f_X3_ofSet_0
        rw [q_pl_ok hp4]
        show (gR 9 0 M 1000).bind _ = _
        rw [e_gR 288 h.1.1.1 h.1.1.2.1, Option.bind_some, sq, Option.bind_some]
        rcases nI_all i2 with z | ⟨j, z1, rfl⟩
        · rw [if_pos z]
          rfl
        · rw [nI_cl z1] at y2
          have y3 : eN G p ≤ j := y2.resolve_left (nI_nn z1)
          rw [if_neg (nI_nn z1), e_gI 228 hsp.1, Option.bind_some, d2, if_pos (le_t (eN G p) j y3 z1)]
          rfl
      refine SE2.bd h hx hw kf e h.1.2 (k := 1) (by decide) (fun _ => if_pos rfl) (fun M1 k1 => kn_X7_ofSet k1.2.2.1.2.1 k1.fn) (fun M1 k1 => ?_)
      rcases r_ofSet (I := mI M1) (J := mJ M1) (A := mA M1) k1.2.1.1 k1.2.1.2 hw hx.v hp4 i2 with ⟨j, j1, rfl, -⟩ | ⟨-, r1⟩
      · rw [nI_cl (by omega)] at y2
        exact absurd (y2.resolve_left (nI_nn (by omega))) (by omega)
      · exact thr_ex (k := k1) r1
    · obtain ⟨j, hj, rfl⟩ := cl_no y2
      have e : f_X3_ofSet 1000 (nI p) (nI j) M = some (.inr (nI (eV G p j)), M) := by
        unfold f_X3_ofSet f_X3_ofSet_0
        rw [q_pl_ok hp4]
        show (gR 9 0 M 1000).bind _ = _
        rw [e_gR 288 h.1.1.1 h.1.1.2.1, Option.bind_some, sq, Option.bind_some, if_neg (nI_nn (by omega)), e_gI 228 hsp.1, Option.bind_some, d2, if_neg (le_f (eN G p) j hj (by omega)), if_pos (lt_t (y := 3) j 3 (by omega) (by decide)), e_gR 225 hsp.1 hsp.2.2.1, Option.bind_some, e_lA hsp.2.2.2.2.2.1.1 (by rw [hsp.2.2.2.2.2.1.2]; omega) (by rw [hsp.2.2.2.2.2.1.2]; decide), Option.bind_some, d3 j hj]
      refine SE2.q h hx hw kf e (fun M1 k1 => kn_X7_ofSet k1.2.2.1.2.1 k1.fn) (fun M1 k1 => ?_)
      rcases r_ofSet (I := mI M1) (J := mJ M1) (A := mA M1) k1.2.1.1 k1.2.1.2 hw hx.v hp4 (nI j) with ⟨j', j1, j2, r1⟩ | ⟨u, -⟩
      · have ej : j = j' := by
          have := congrArg Int32.toNatClampNeg j2
          rw [nI_cl (by omega), nI_cl (by omega)] at this
          exact this
        subst ej
        exact r1
      · rw [nI_cl (by omega)] at u
        exact absurd (u.resolve_left (nI_nn (by omega))) (by omega)
end ASKE
/-! ===== BOTH: waits, with code and answer ===== -/
def SL2 (n : Nat) (xs : Nat → Int32) (M : zM) (G : zG) (x : Option (Int32 × zM)) (y : zM → Option (Int64 × zM)) : Prop := ∃ v M1 w M2 G2 hp2 dl2, x = some (v, M1) ∧ ROW n xs M1 ∧ y M1 = some (w, M2) ∧ CK n xs M2 G2 G2 hp2 dl2 ∧ (mI M2 416 1026 = v ∧ (v = 0 → mJ M2 320 1045 = w)) ∧ WX G2 ∧ eS G2 7 ≤ eS G 7 + 1 ∧ (mX M2 ≤ mX M + 404 ∧ mS M2 ≤ mS M + 1640)
section PLAYL
variable {n : Nat} {xs : Nat → Int32} {M M' : zM} {G G' Gc Gr : zG} {hp dl hp' dl' : Nat → Nat}
theorem SL2.ok (h : CK n xs M G G hp dl) {x : Option ((String ⊕ Int64) × zM)} (kf : KF (FC M) x) {I' : Nat → Nat → Int32} {J' : Nat → Nat → Int64} {A' : Nat → Nat → Int32} {v : Int64} (e : x = some (.inr v, cs I' J' A' M)) (hc : CR I' J' A' G') (hx : WX G') (hw : WF G') (h7 : eS G' 7 ≤ eS G 7 + 1) {c : String → zM → Option (Int32 × zM)} {y : zM → Option (Int64 × zM)} (kn : ∀ M1, CK n xs M1 G' G hp dl → KF (FN M1) (y M1)) (hy : ∀ M1, CK n xs M1 G' G hp dl → ∃ hp2 dl2 M2, y M1 = some (v, M2) ∧ RS M2 hp2 dl2 ∧ RN (mI M2) (mJ M2) (mA M2) M2 G' hp2 dl2 ∧ mI M2 416 1026 = 0 ∧ (mX M2 ≤ mX M1 + 400 ∧ mS M2 ≤ mS M1 + 1600)) : SL2 n xs M G (xc x c fun w Mw => (pJ 10 0 Mw 1045 w).bind fun M4 => some ((0 : Int32), M4)) y := by
  have fc : FC M (cs I' J' A' M) := kf _ e
  have ck : CK n xs (cs I' J' A' M) G' G hp dl := h.c0 rfl rfl rfl rfl fc h.1.1 hc
  have ck1 := ck.sJ v
  have ew : pJ 10 0 (cs I' J' A' M) 1045 v = some (sJ (cs I' J' A' M) 320 1045 v) := e_pJ 320 ck.2.2.2.2
  have eJ : mJ (sJ (cs I' J' A' M) 320 1045 v) 320 1045 = v := u2_at J' 320 1045 _
  have eX : mX (sJ (cs I' J' A' M) 320 1045 v) = mX M := rfl
  have eS' : mS (sJ (cs I' J' A' M) 320 1045 v) = mS M := rfl
  rw [e]
  generalize sJ (cs I' J' A' M) 320 1045 v = M1 at *
  have hX := ck1.2.1.1.2.2.2.2.2.2.2
  obtain ⟨hp2, dl2, M2, r1, r2, r3, r4, r5⟩ := hy M1 ck1
  have fn := kn M1 ck1 _ r1
  refine ⟨0, M1, v, M2, G', hp2, dl2, ?_, ck1.row, r1, ck1.ref hw fn r2 r3, ⟨r4, fun _ => (fn.2.2 (by omega)).trans eJ⟩, hx, h7, by omega⟩
  show (pJ 10 0 (cs I' J' A' M) 1045 _).bind _ = _
  rw [ew]
  rfl
theorem SL2.bd {α : Type} (h : CK n xs M G G hp dl) (hx : WX G) (hw : WF G) {x : Option ((String ⊕ α) × zM)} (kf : KF (FC M) x) {A' : Nat → Nat → Int32} {E : String} (e : x = some (.inl E, cs (mI M) (mJ M) A' (nE M))) (hcr : CR (mI M) (mJ M) A' G) {c : String → zM → Option (Int32 × zM)} {f : α → zM → Option (Int32 × zM)} {k : Int32} (hk : k ≠ 0) (hc : ∀ M', c E M' = some (k, M')) {y : zM → Option (Int64 × zM)} (kn : ∀ M1, CK n xs M1 G G hp dl → KF (FN M1) (y M1)) (hy : ∀ M1, CK n xs M1 G G hp dl → ∃ w M2, y M1 = some (w, M2) ∧ RS M2 hp dl ∧ RN (mI M2) (mJ M2) (mA M2) M2 G hp dl ∧ mI M2 416 1026 = k ∧ (mX M2 ≤ mX M1 + 400 ∧ mS M2 ≤ mS M1 + 1600)) : SL2 n xs M G (xc x c f) y := by
  have fc : FC M (cs (mI M) (mJ M) A' (nE M)) := kf _ e
  have ck : CK n xs (cs (mI M) (mJ M) A' (nE M)) G G hp dl := h.c0 rfl rfl rfl rfl fc h.1.1 hcr
  have eX : mX (cs (mI M) (mJ M) A' (nE M)) = mX M + 1 := rfl
  have eS' : mS (cs (mI M) (mJ M) A' (nE M)) = mS M + 6 := rfl
  rw [e]
  have ec := hc (cs (mI M) (mJ M) A' (nE M))
  generalize cs (mI M) (mJ M) A' (nE M) = M1 at *
  obtain ⟨w, M2, r1, r2, r3, r4, r5⟩ := hy M1 ck
  exact ⟨k, M1, w, M2, G, hp, dl, ec, ck.row, r1, ck.ref hw (kn M1 ck _ r1) r2 r3, ⟨r4, fun z => absurd z hk⟩, hx, Nat.le_succ _, by omega⟩
theorem thr_exL {k : CK n xs M Gc Gr hp dl} {y : Option (Int64 × zM)} {w : Int64} {v : Int32} (e : y = some (w, cs (th v (mI M)) (mJ M) (mA M) M)) : ∃ w M2, y = some (w, M2) ∧ RS M2 hp dl ∧ RN (mI M2) (mJ M2) (mA M2) M2 Gr hp dl ∧ mI M2 416 1026 = v ∧ (mX M2 ≤ mX M + 400 ∧ mS M2 ≤ mS M + 1600) := ⟨w, _, e, k.2.1.1, k.2.1.2.th v, u2_at (mI M) 416 1026 v, Nat.le_add_right _ _, Nat.le_add_right _ _⟩
theorem e_waits (h : CK n xs M G G hp dl) (hx : WX G) (hr : eS G 7 < 2 ^ 20) (i1 : Int32) : SL2 n xs M G (f_L_waits 1000 i1 1045 M) (fun M1 => f_X7_waits 1026 i1 M1) := by
  have hw := hx.f hr
  have kf := kc_X3_waits h.2.2.1.1 own1000 (FC.rf M) (i1 := i1)
  unfold f_L_waits f_L_waits_0
  rw [if_pos h.1.1.1]
  by_cases y1 : pBad i1
  · have e : f_X3_waits 1000 i1 M = some (.inl "java/lang/IndexOutOfBoundsException", nE M) := by
      unfold f_X3_waits f_X3_waits_0
      rw [q_pl_bad y1]
      rfl
    exact SL2.bd h hx hw kf e h.1.2 (k := 1) (by decide) (fun _ => if_pos rfl) (fun M1 k1 => kn_X7_waits k1.2.2.1.2.1 k1.fn) (fun M1 k1 => thr_exL (k := k1) (r_waits_bad (I := mI M1) (J := mJ M1) (A := mA M1) k1.2.1.1 y1))
  · obtain ⟨p, hp4, rfl⟩ := pBad_no y1
    have sq : lQ 1 M 1001 (nI p) = some (1010 + 4 * p) := CSH.seat (I := mI M) (J := mJ M) (A := mA M) h.1.1 hp4
    obtain ⟨A1, e1, f1⟩ := q_waitsG (I := mI M) (J := mJ M) (A := mA M) h.1.1 h.1.2 hw hp4
    have e1' : f_X3_waitsOf 1000 (1010 + 4 * p) M = some (gW G p, cs (mI M) (mJ M) A1 M) := e1
    have e : f_X3_waits 1000 (nI p) M = some (.inr (gW G p), cs (mI M) (mJ M) A1 M) := by
      unfold f_X3_waits f_X3_waits_0
      rw [q_pl_ok hp4]
      show (gR 9 0 M 1000).bind _ = _
      rw [e_gR 288 h.1.1.1 h.1.1.2.1, Option.bind_some, sq, Option.bind_some, if_pos h.1.1.1, e1', Option.bind_some]
    refine SL2.ok h kf e (h.1.2.own f1) hx hw (Nat.le_succ _) (fun M1 k1 => kn_X7_waits k1.2.2.1.2.1 k1.fn) (fun M1 k1 => ?_)
    obtain ⟨A2, r1, r2⟩ := r_waitsA (I := mI M1) (J := mJ M1) (A := mA M1) k1.2.1.1 k1.2.1.2 hw hp4
    exact ⟨hp, dl, _, r1, k1.2.1.1, r2, u2_at (mI M1) 416 1026 0, Nat.le_add_right _ _, Nat.le_add_right _ _⟩
end PLAYL
/-! ===== BOTH: seen, with code and answer ===== -/
section ASKS
variable {n : Nat} {xs : Nat → Int32} {M M' : zM} {G G' Gc Gr : zG} {hp dl hp' dl' : Nat → Nat}
theorem q_lyx (h : CSH M) (hw : WF G) (hv : WV G) (hc : CR (mI M) (mJ M) (mA M) G) {p k : Nat} (hp4 : p < 4) (hk : k < 25) : f_X1_lying (1010 + 4 * p) (nI k) M = some (nI (snP G p k), M) := by
  have hsp := h.2.2.2.2.2.2.2.1 _ hp4
  obtain ⟨d1, d2, d3, d4, d5, d6, d7⟩ := hc.2 _ hp4
  obtain ⟨v1, v2, v3, v4⟩ := hw.2.2.2.2.2.2.2.2.2.2 _ hp4
  have e := q_lying (I := mI M) (J := mJ M) (A := mA M) hsp d2 v2 d4 (by omega) (nI k)
  have s1 : sm (fun j => tl (mA M (1012 + 4 * p) j / 100) (zmd (mA M (1012 + 4 * p) j) 100) (nI k)) 0 (eN G p) = nI (sn (fun j => tlN (eV G p j / 100) (eV G p j % 100) k) 0 (eN G p)) := sm_nI _ _ _ _ (fun j _ hj => by
    have hj' : j < eN G p := by omega
    have hb := hv p hp4 j hj'
    have x1 : nI (eV G p j) / 100 = nI (eV G p j / 100) := pk_div (a := eV G p j) (d := 100) (by omega) (by decide) (by decide)
    have x2 : zmd (nI (eV G p j)) 100 = nI (eV G p j % 100) := pk_rem (a := eV G p j) (d := 100) (by omega) (by decide) (by decide)
    show tl (mA M (1012 + 4 * p) j / 100) (zmd (mA M (1012 + 4 * p) j) 100) (nI k) = nI (tlN (eV G p j / 100) (eV G p j % 100) k)
    rw [d3 j hj', x1, x2]
    exact tl_nI (by omega) (by omega) (by omega))
  have s2 : sm (fun j => if mA M (1013 + 4 * p) j = nI k then 1 else 0) 0 (eM G p) = nI (sn (fun j => if eR G p j = k then 1 else 0) 0 (eM G p)) := sm_nI _ _ _ _ (fun j _ hj => by
    have hj' : j < eM G p := by omega
    have hb := v4 j hj'
    show (if mA M (1013 + 4 * p) j = nI k then (1 : Int32) else 0) = nI (if eR G p j = k then 1 else 0)
    rw [d5 j hj']
    by_cases y : eR G p j = k
    · rw [if_pos (congrArg nI y), if_pos y]
      rfl
    · rw [if_neg (eq_f (eR G p j) k y (by omega) (by omega)), if_neg y]
      rfl)
  rw [s1, s2, nI_add] at e
  exact e
theorem q_seen8x (h : CSH M) (hw : WF G) (hv : WV G) (hc : CR (mI M) (mJ M) (mA M) G) {k : Nat} (hk : k < 25) : ∀ (d n i v : Nat), i + d = 4 → d < n → f_X3_seen_8 n 1000 (nI k) (nI v) (nI i) M = some (.inr (nI (v + snA G k d i)), M) := by
  intro d
  induction d with
  | zero =>
    intro n i v hi hn
    obtain ⟨n, rfl⟩ : ∃ m, n = m + 1 := ⟨n - 1, by omega⟩
    rw [f_X3_seen_8, if_pos (le_t (x := 4) 4 i (by omega) (by omega))]
    rfl
  | succ d ih =>
    intro n i v hi hn
    obtain ⟨n, rfl⟩ : ∃ m, n = m + 1 := ⟨n - 1, by omega⟩
    have hp4 : i < 4 := by omega
    have hsp := h.2.2.2.2.2.2.2.1 _ hp4
    have sq : lQ 1 M 1001 (nI i) = some (1010 + 4 * i) := CSH.seat (I := mI M) (J := mJ M) (A := mA M) h hp4
    rw [f_X3_seen_8, if_neg (le_f (x := 4) 4 i (by omega) (by decide)), e_gR 288 h.1 h.2.1, Option.bind_some, sq, Option.bind_some, if_pos hsp.1, q_lyx h hw hv hc hp4 hk, Option.bind_some, nI_1]
    dsimp only
    rw [nI_add, ih n (i + 1) (v + snP G i k) (by omega) (by omega), snA, Nat.add_assoc]
theorem e_seen (h : CK n xs M G G hp dl) (hx : WX G) (hr : eS G 7 < 2 ^ 20) (i : Int32) : SE2 n xs M G (f_L_seen 1000 i 1045 M) (fun M1 => f_X7_seen 1026 i M1) := by
  have hw := hx.f hr
  have kf := kc_X3_seen h.2.2.1.1 own1000 (FC.rf M) (i1 := i)
  unfold f_L_seen f_L_seen_0
  rw [if_pos h.1.1.1]
  by_cases y : oBad i
  · have e : f_X3_seen 1000 i M = some (.inl "java/lang/IllegalArgumentException", nE M) := by
      unfold f_X3_seen f_X3_seen_0
      rw [q_bad y]
      rfl
    exact SE2.bd h hx hw kf e h.1.2 (k := 1) (by decide) (fun _ => if_pos rfl) (fun M1 k1 => kn_X7_seen k1.2.2.1.2.1 k1.fn) (fun M1 k1 => thr_ex (k := k1) (r_seen_bad (I := mI M1) (J := mJ M1) (A := mA M1) k1.2.1.1 y))
  · obtain ⟨k, hk, rfl⟩ := oBad_no y
    have e : f_X3_seen 1000 (nI k) M = some (.inr (nI (snA G k 4 0)), M) := by
      unfold f_X3_seen f_X3_seen_0
      rw [q_requireKind_ok hk]
      have q := q_seen8x h.1.1 hw hx.v h.1.2 hk 4 zN 0 0 rfl (by decide)
      rw [Nat.zero_add] at q
      exact q
    refine SE2.ok h kf (I' := mI M) (J' := mJ M) (A' := mA M) e h.1.2 hx hw (Nat.le_succ _) (fun M1 k1 => kn_X7_seen k1.2.2.1.2.1 k1.fn) (fun M1 k1 => ?_)
    obtain ⟨M2, r1, km⟩ := r_seen (I := mI M1) (J := mJ M1) (A := mA M1) k1.2.1.1 k1.2.1.2 hw hx.v hk
    have hb := rb0 k1.2.1.1 (k1.2.1.2.th 0)
    have hb2 := RB.km hb.1 hb.2.1 km
    have hX := k1.2.1.1.2.2.2.2.2.2.2
    have e4 : mI M2 416 1026 = 0 := ((km.2 1026 (by show 1026 < mX M1; omega)).2.2.1 416).trans (u2_at (mI M1) 416 1026 0)
    exact ⟨hp, dl, M2, r1, hb2.1, hb2.2.1, e4, Nat.le_trans km.1.2.1 (Nat.add_le_add_left (by decide) _), Nat.le_trans km.1.2.2 (Nat.add_le_add_left (by decide) _)⟩
end ASKS
/-! ===== BOTH: isSafe, with code and answer ===== -/
section ASKI
variable {n : Nat} {xs : Nat → Int32} {M M' : zM} {G G' Gc Gr : zG} {hp dl hp' dl' : Nat → Nat}
theorem q_isSafex (h : CSH M) (hc : CR (mI M) (mJ M) (mA M) G) {p k : Nat} (hp4 : p < 4) : ∀ (d n i : Nat), i + d = 4 → d < n → f_X3_isSafe_10 n 1000 (nI p) (nI k) (nI i) M = some (.inr (b32 (sfN G p k d i)), M) := by
  intro d
  induction d with
  | zero =>
    intro n i hi hn'
    obtain ⟨n, rfl⟩ : ∃ m, n = m + 1 := ⟨n - 1, by omega⟩
    rw [f_X3_isSafe_10, if_pos (le_t (x := 4) 4 i (by omega) (by omega))]
    rfl
  | succ d ih =>
    intro n i hi hn'
    obtain ⟨n, rfl⟩ : ∃ m, n = m + 1 := ⟨n - 1, by omega⟩
    have hi4 : i < 4 := by omega
    have hsp := h.2.2.2.2.2.2.2.1 _ hi4
    obtain ⟨d1, d2, d3, d4, d5, d6, d7⟩ := hc.2 _ hi4
    have sq : lQ 1 M 1001 (nI i) = some (1010 + 4 * i) := CSH.seat (I := mI M) (J := mJ M) (A := mA M) h hi4
    have e := ih n (i + 1) (by omega) (by omega)
    rw [f_X3_isSafe_10, if_neg (le_f (x := 4) 4 i (by omega) (by decide)), nI_1, sfN]
    by_cases y : i = p
    · rw [if_pos (congrArg nI y), if_pos y]
      exact e
    · rw [if_neg (eq_f i p y (by omega) (by omega)), if_neg y, e_gR 288 h.1 h.2.1, Option.bind_some, sq, Option.bind_some, e_gI 230 hsp.1, Option.bind_some, d7]
      by_cases z : eC G i = false
      · rw [if_pos ((b32_0 _).mpr z), if_pos z]
        exact e
      · rw [if_neg (fun q => z ((b32_0 _).mp q)), if_neg z, Option.bind_some, sq, Option.bind_some, e_gJ 227 hsp.1, Option.bind_some, d6]
        by_cases u : (eD G i >>> ((nI k).toInt64 &&& 63)) &&& 1 = 0
        · rw [if_pos ((lg_cmp_0 _ _).mpr u), if_pos u]
          rfl
        · rw [if_neg (fun q => u ((lg_cmp_0 _ _).mp q)), if_neg u]
          exact e
theorem e_isSafe (h : CK n xs M G G hp dl) (hx : WX G) (hr : eS G 7 < 2 ^ 20) (i1 i2 : Int32) : SE2 n xs M G (f_L_isSafe 1000 i1 i2 1045 M) (fun M1 => f_X7_isSafe 1026 i1 i2 M1) := by
  have hw := hx.f hr
  have kf := kc_X3_isSafe h.2.2.1.1 own1000 (FC.rf M) (i1 := i1) (i2 := i2)
  unfold f_L_isSafe f_L_isSafe_0
  rw [if_pos h.1.1.1]
  by_cases y1 : pBad i1
  · have e : f_X3_isSafe 1000 i1 i2 M = some (.inl "java/lang/IndexOutOfBoundsException", nE M) := by
      unfold f_X3_isSafe f_X3_isSafe_0
      rw [q_pl_bad y1]
      rfl
    exact SE2.bd h hx hw kf e h.1.2 (k := 1) (by decide) (fun _ => if_pos rfl) (fun M1 k1 => kn_X7_isSafe k1.2.2.1.2.1 k1.fn) (fun M1 k1 => thr_ex (k := k1) (r_isSafe_bad (I := mI M1) (J := mJ M1) (A := mA M1) k1.2.1.1 i2 y1))
  · obtain ⟨p, hp4, rfl⟩ := pBad_no y1
    by_cases y2 : oBad i2
    · have e : f_X3_isSafe 1000 (nI p) i2 M = some (.inl "java/lang/IllegalArgumentException", nE M) := by
        unfold f_X3_isSafe f_X3_isSafe_0
        rw [q_pl_ok hp4]
        show xb (f_X3_requireKind i2 M) _ = _
        rw [q_bad y2]
        rfl
      exact SE2.bd h hx hw kf e h.1.2 (k := 2) (by decide) (fun _ => (if_neg (by decide)).trans (if_pos rfl)) (fun M1 k1 => kn_X7_isSafe k1.2.2.1.2.1 k1.fn) (fun M1 k1 => thr_ex (k := k1) (r_isSafe_bad2 (I := mI M1) (J := mJ M1) (A := mA M1) k1.2.1.1 hp4 y2))
    · obtain ⟨k, hk, rfl⟩ := oBad_no y2
      have e : f_X3_isSafe 1000 (nI p) (nI k) M = some (.inr (b32 (sfN G p k 4 0)), M) := by
        unfold f_X3_isSafe f_X3_isSafe_0
        rw [q_pl_ok hp4]
        show xb (f_X3_requireKind (nI k) M) _ = _
        rw [q_requireKind_ok hk]
        exact q_isSafex h.1.1 h.1.2 hp4 4 zN 0 rfl (by decide)
      have rr := fun (M1 : zM) (k1 : CK n xs M1 G G hp dl) => r_isSafe (I := mI M1) (J := mJ M1) (A := mA M1) k1.2.1.1 k1.2.1.2 hp4 hk
      rw [e]
      show SE2 n xs M G (if b32 (sfN G p k 4 0) = 0 then f_L_isSafe_15 0 1045 M else f_L_isSafe_15 1 1045 M) _
      unfold f_L_isSafe_15
      generalize sfN G p k 4 0 = b at *
      have go := SE2.q (c := fun _ _ => none) h hx hw (x := some (.inr (b32 b), M)) (v := b32 b) (KF.s (FC.rf M)) rfl (fun M1 k1 => kn_X7_isSafe (i1 := nI p) (i2 := nI k) (a0 := 1026) k1.2.2.1.2.1 k1.fn) rr
      cases b with
      | false =>
        rw [if_pos (show b32 false = 0 from rfl)]
        exact go
      | true =>
        rw [if_neg (show ¬ b32 true = 0 by decide)]
        exact go
end ASKI
