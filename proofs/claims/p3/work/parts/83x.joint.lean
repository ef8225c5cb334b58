/-! ===== BOTH: the calls that play, with code and answer ===== -/
def SE2 (n : Nat) (xs : Nat → Int32) (M : zM) (G : zG) (x : Option (Int32 × zM)) (y : zM → Option (Int32 × zM)) : Prop := ∃ v M1 w M2 G2 hp2 dl2, x = some (v, M1) ∧ ROW n xs M1 ∧ y M1 = some (w, M2) ∧ CK n xs M2 G2 G2 hp2 dl2 ∧ (mI M2 416 1026 = v ∧ (v = 0 → mJ M2 320 1045 = w.toInt64)) ∧ WX G2 ∧ eS G2 7 ≤ eS G 7 + 1 ∧ (mX M2 ≤ mX M + 404 ∧ mS M2 ≤ mS M + 1640)
section PLAYE
variable {n : Nat} {xs : Nat → Int32} {M M' : zM} {G G' Gc Gr : zG} {hp dl hp' dl' : Nat → Nat}
theorem SE2.ok (h : CK n xs M G G hp dl) {x : Option ((String ⊕ Int32) × zM)} (kf : KF (FC M) x) {I' : Nat → Nat → Int32} {J' : Nat → Nat → Int64} {A' : Nat → Nat → Int32} {v : Int32} (e : x = some (.inr v, cs I' J' A' M)) (hc : CR I' J' A' G') (hx : WX G') (hw : WF G') (h7 : eS G' 7 ≤ eS G 7 + 1) {c : String → zM → Option (Int32 × zM)} {y : zM → Option (Int32 × zM)} (kn : ∀ M1, CK n xs M1 G' G hp dl → KF (FN M1) (y M1)) (hy : ∀ M1, CK n xs M1 G' G hp dl → ∃ hp2 dl2 M2, y M1 = some (v, M2) ∧ RS M2 hp2 dl2 ∧ RN (mI M2) (mJ M2) (mA M2) M2 G' hp2 dl2 ∧ mI M2 416 1026 = 0 ∧ (mX M2 ≤ mX M1 + 400 ∧ mS M2 ≤ mS M1 + 1600)) : SE2 n xs M G (xc x c fun w Mw => (pJ 10 0 Mw 1045 w.toInt64).bind fun M4 => some ((0 : Int32), M4)) y := by
  have fc : FC M (cs I' J' A' M) := kf _ e
  have ck : CK n xs (cs I' J' A' M) G' G hp dl := h.c0 rfl rfl rfl rfl fc h.1.1 hc
  have ck1 := ck.sJ v.toInt64
  have ew : pJ 10 0 (cs I' J' A' M) 1045 v.toInt64 = some (sJ (cs I' J' A' M) 320 1045 v.toInt64) := e_pJ 320 ck.2.2.2.2
  have eJ : mJ (sJ (cs I' J' A' M) 320 1045 v.toInt64) 320 1045 = v.toInt64 := u2_at J' 320 1045 _
  have eX : mX (sJ (cs I' J' A' M) 320 1045 v.toInt64) = mX M := rfl
  have eS' : mS (sJ (cs I' J' A' M) 320 1045 v.toInt64) = mS M := rfl
  rw [e]
  generalize sJ (cs I' J' A' M) 320 1045 v.toInt64 = M1 at *
  have hX := ck1.2.1.1.2.2.2.2.2.2.2
  obtain ⟨hp2, dl2, M2, r1, r2, r3, r4, r5⟩ := hy M1 ck1
  have fn := kn M1 ck1 _ r1
  refine ⟨0, M1, v, M2, G', hp2, dl2, ?_, ck1.row, r1, ck1.ref hw fn r2 r3, ⟨r4, fun _ => (fn.2.2 (by omega)).trans eJ⟩, hx, h7, by omega⟩
  show (pJ 10 0 (cs I' J' A' M) 1045 _).bind _ = _
  rw [ew]
  rfl
theorem SE2.bd {α : Type} (h : CK n xs M G G hp dl) (hx : WX G) (hw : WF G) {x : Option ((String ⊕ α) × zM)} (kf : KF (FC M) x) {A' : Nat → Nat → Int32} {E : String} (e : x = some (.inl E, cs (mI M) (mJ M) A' (nE M))) (hcr : CR (mI M) (mJ M) A' G) {c : String → zM → Option (Int32 × zM)} {f : α → zM → Option (Int32 × zM)} {k : Int32} (hk : k ≠ 0) (hc : ∀ M', c E M' = some (k, M')) {y : zM → Option (Int32 × zM)} (kn : ∀ M1, CK n xs M1 G G hp dl → KF (FN M1) (y M1)) (hy : ∀ M1, CK n xs M1 G G hp dl → ∃ w M2, y M1 = some (w, M2) ∧ RS M2 hp dl ∧ RN (mI M2) (mJ M2) (mA M2) M2 G hp dl ∧ mI M2 416 1026 = k ∧ (mX M2 ≤ mX M1 + 400 ∧ mS M2 ≤ mS M1 + 1600)) : SE2 n xs M G (xc x c f) y := by
  have fc : FC M (cs (mI M) (mJ M) A' (nE M)) := kf _ e
  have ck : CK n xs (cs (mI M) (mJ M) A' (nE M)) G G hp dl := h.c0 rfl rfl rfl rfl fc h.1.1 hcr
  have eX : mX (cs (mI M) (mJ M) A' (nE M)) = mX M + 1 := rfl
  have eS' : mS (cs (mI M) (mJ M) A' (nE M)) = mS M + 6 := rfl
  rw [e]
  have ec := hc (cs (mI M) (mJ M) A' (nE M))
  generalize cs (mI M) (mJ M) A' (nE M) = M1 at *
  obtain ⟨w, M2, r1, r2, r3, r4, r5⟩ := hy M1 ck
  exact ⟨k, M1, w, M2, G, hp, dl, ec, ck.row, r1, ck.ref hw (kn M1 ck _ r1) r2 r3, ⟨r4, fun z => absurd z hk⟩, hx, Nat.le_succ _, by omega⟩
/-- the reference throws -/
theorem thr_ex {k : CK n xs M Gc Gr hp dl} {y : Option (Int32 × zM)} {w v : Int32} (e : y = some (w, cs (th v (mI M)) (mJ M) (mA M) M)) : ∃ w M2, y = some (w, M2) ∧ RS M2 hp dl ∧ RN (mI M2) (mJ M2) (mA M2) M2 Gr hp dl ∧ mI M2 416 1026 = v ∧ (mX M2 ≤ mX M + 400 ∧ mS M2 ≤ mS M + 1600) := ⟨w, _, e, k.2.1.1, k.2.1.2.th v, u2_at (mI M) 416 1026 v, Nat.le_add_right _ _, Nat.le_add_right _ _⟩
theorem e_pass (h : CK n xs M G G hp dl) (hx : WX G) (hr : eS G 7 < 2 ^ 20) : SE2 n xs M G (f_L_pass 1000 1045 M) (fun M1 => f_X7_pass 1026 M1) := by
  have hw := hx.f hr
  have kf := kc_X3_pass h.2.2.1.1 own1000 (FC.rf M)
  unfold f_L_pass f_L_pass_0
  rw [if_pos h.1.1.1]
  rcases q_pass (I := mI M) (J := mJ M) (A := mA M) h.1.1 h.1.2 hw with ⟨y, e⟩ | ⟨y, I', e, hc⟩
  · refine SE2.bd h hx hw kf e h.1.2 (k := 1) (by decide) (fun _ => if_pos rfl) (fun M1 k1 => kn_X7_pass k1.2.2.1.2.1 k1.fn) (fun M1 k1 => ?_)
    have r := r_pass (I := mI M1) (J := mJ M1) (A := mA M1) k1.2.1.1 k1.2.1.2 hw
    rw [if_neg y] at r
    exact thr_ex (k := k1) r
  · have hx' := hx.pass y
    refine SE2.ok h kf e hc hx' (hx'.f hr) (Nat.le_succ _) (fun M1 k1 => kn_X7_pass k1.2.2.1.2.1 k1.fn) (fun M1 k1 => ?_)
    have r := r_pass (I := mI M1) (J := mJ M1) (A := mA M1) k1.2.1.1 k1.2.1.2 hw
    rw [if_pos y] at r
    obtain ⟨I2, r1, r0, r2⟩ := r
    exact ⟨hp, dl, _, r1, k1.2.1.1, r2, r0, Nat.le_add_right _ _, Nat.le_add_right _ _⟩
theorem e_draw (h : CK n xs M G G hp dl) (hx : WX G) (hr : eS G 7 < 2 ^ 20) : SE2 n xs M G (f_L_draw 1000 1045 M) (fun M1 => f_X7_draw 1026 M1) := by
  have hw := hx.f hr
  have kf := kc_X3_draw h.2.2.1.1 own1000 (FC.rf M)
  unfold f_L_draw f_L_draw_0
  rw [if_pos h.1.1.1]
  rcases q_draw (I := mI M) (J := mJ M) (A := mA M) h.1.1 hw h.1.2 with ⟨y, e⟩ | ⟨y, I', A', e, hc⟩
  · refine SE2.bd h hx hw kf e h.1.2 (k := 1) (by decide) (fun _ => if_pos rfl) (fun M1 k1 => kn_X7_draw k1.2.2.1.2.1 k1.fn) (fun M1 k1 => ?_)
    exact thr_ex (k := k1) (r_draw_no (I := mI M1) (J := mJ M1) (A := mA M1) k1.2.1.1 k1.2.1.2 hw y)
  · have hx' := hx.draw y
    have e7 : eS (gDraw G) 7 = eS G 7 := by
      unfold gDraw
      split <;> rfl
    refine SE2.ok h kf e hc hx' (hx'.f (by rw [e7]; exact hr)) (by rw [e7]; exact Nat.le_succ _) (fun M1 k1 => kn_X7_draw k1.2.2.1.2.1 k1.fn) (fun M1 k1 => ?_)
    obtain ⟨I2, A2, M2, r1, r2, r3, r0, r4⟩ := r_draw (I := mI M1) (J := mJ M1) (A := mA M1) k1.2.1.1 k1.2.1.2 hw hx.2.2.2.2.2.2.1 y
    exact ⟨hp, dl, _, r1, r2, r3, r0, Nat.le_trans r4.1 (Nat.add_le_add_left (by decide) _), Nat.le_trans r4.2 (Nat.add_le_add_left (by decide) _)⟩
theorem e_discard (h : CK n xs M G G hp dl) (hx : WX G) (hr : eS G 7 < 2 ^ 20) (i : Int32) : SE2 n xs M G (f_L_discard 1000 i 1045 M) (fun M1 => f_X7_discard 1026 i M1) := by
  have hw := hx.f hr
  have kf := kc_X3_discard h.2.2.1.1 own1000 (FC.rf M) (i1 := i)
  have q := q_discard (I := mI M) (J := mJ M) (A := mA M) h.1.1 hw h.1.2 i
  unfold f_L_discard f_L_discard_0
  rw [if_pos h.1.1.1]
  by_cases y : oBad i
  · have eo : oDisc G i = some "java/lang/IllegalArgumentException" := if_pos y
    rw [eo] at q
    exact SE2.bd h hx hw kf q h.1.2 (k := 1) (by decide) (fun _ => if_pos rfl) (fun M1 k1 => kn_X7_discard k1.2.2.1.2.1 k1.fn) (fun M1 k1 => thr_ex (k := k1) (r_discard_bad (I := mI M1) (J := mJ M1) (A := mA M1) k1.2.1.1 y))
  · obtain ⟨c, hc25, rfl⟩ := oBad_no y
    have ecl : (nI c).toNatClampNeg = c := nI_cl (by omega)
    by_cases z : dOk G c
    · have eo : oDisc G (nI c) = none := by
        unfold oDisc
        rw [if_neg y, ecl]
        exact if_pos z
      rw [eo] at q
      obtain ⟨I', J', A', e, hc⟩ := q
      rw [ecl] at hc
      have hx' := hx.riv z.1 hc25 z.2.1
      refine SE2.ok h kf e hc hx' (hx'.f hr) (Nat.le_succ _) (fun M1 k1 => kn_X7_discard k1.2.2.1.2.1 k1.fn) (fun M1 k1 => ?_)
      rcases r_discard (I := mI M1) (J := mJ M1) (A := mA M1) k1.2.1.1 k1.2.1.2 hw hx.2.2.2.2.2.2.2.1 hc25 with ⟨-, I2, J2, A2, M2, dl2, r1, r2, r3, r0, r4⟩ | ⟨u, -⟩
      · exact ⟨hp, dl2, _, r1, r2, r3, r0, Nat.le_trans r4.1 (Nat.add_le_add_left (by decide) _), Nat.le_trans r4.2 (Nat.add_le_add_left (by decide) _)⟩
      · exact absurd z u
    · have eo : oDisc G (nI c) = some "java/lang/IllegalStateException" := by
        unfold oDisc
        rw [if_neg y, ecl]
        exact if_neg z
      rw [eo] at q
      refine SE2.bd h hx hw kf q h.1.2 (k := 2) (by decide) (fun _ => (if_neg (by decide)).trans (if_pos rfl)) (fun M1 k1 => kn_X7_discard k1.2.2.1.2.1 k1.fn) (fun M1 k1 => ?_)
      rcases r_discard (I := mI M1) (J := mJ M1) (A := mA M1) k1.2.1.1 k1.2.1.2 hw hx.2.2.2.2.2.2.2.1 hc25 with ⟨u, -⟩ | ⟨-, r1⟩
      · exact absurd u z
      · exact thr_ex (k := k1) r1
theorem e_four (h : CK n xs M G G hp dl) (hx : WX G) (hr : eS G 7 < 2 ^ 20) (i : Int32) : SE2 n xs M G (f_L_four 1000 i 1045 M) (fun M1 => f_X7_four 1026 i M1) := by
  have hw := hx.f hr
  have kf := kc_X3_four h.2.2.1.1 own1000 (FC.rf M) (i1 := i)
  have q := q_four (I := mI M) (J := mJ M) (A := mA M) h.1.1 hw hx.z h.1.2 i
  unfold f_L_four f_L_four_0
  rw [if_pos h.1.1.1]
  by_cases y : oBad i
  · have eo : oFour G i = some "java/lang/IllegalArgumentException" := if_pos y
    rw [eo] at q
    exact SE2.bd h hx hw kf q h.1.2 (k := 1) (by decide) (fun _ => if_pos rfl) (fun M1 k1 => kn_X7_four k1.2.2.1.2.1 k1.fn) (fun M1 k1 => thr_ex (k := k1) (r_four_bad (I := mI M1) (J := mJ M1) (A := mA M1) k1.2.1.1 y))
  · obtain ⟨c, hc25, rfl⟩ := oBad_no y
    have ecl : (nI c).toNatClampNeg = c := nI_cl (by omega)
    by_cases z : fOk G c
    · have eo : oFour G (nI c) = none := by
        unfold oFour
        rw [if_neg y, ecl]
        exact if_pos z
      rw [eo] at q
      obtain ⟨I', J', A', e, hc⟩ := q
      rw [ecl] at hc
      have hx' := hx.four hc25 z
      refine SE2.ok h kf e hc hx' (hx'.f hr) (Nat.le_succ _) (fun M1 k1 => kn_X7_four k1.2.2.1.2.1 k1.fn) (fun M1 k1 => ?_)
      rcases r_four (I := mI M1) (J := mJ M1) (A := mA M1) k1.2.1.1 k1.2.1.2 hw hx.z hx.2.2.2.2.2.2.1 hc25 with ⟨-, I2, J2, A2, M2, dl2, r1, r2, r3, r0, r4⟩ | ⟨u, -⟩
      · exact ⟨hp, dl2, _, r1, r2, r3, r0, Nat.le_trans r4.1 (Nat.add_le_add_left (by decide) _), Nat.le_trans r4.2 (Nat.add_le_add_left (by decide) _)⟩
      · exact absurd z u
    · have eo : oFour G (nI c) = some "java/lang/IllegalStateException" := by
        unfold oFour
        rw [if_neg y, ecl]
        exact if_neg z
      rw [eo] at q
      refine SE2.bd h hx hw kf q h.1.2 (k := 2) (by decide) (fun _ => (if_neg (by decide)).trans (if_pos rfl)) (fun M1 k1 => kn_X7_four k1.2.2.1.2.1 k1.fn) (fun M1 k1 => ?_)
      rcases r_four (I := mI M1) (J := mJ M1) (A := mA M1) k1.2.1.1 k1.2.1.2 hw hx.z hx.2.2.2.2.2.2.1 hc25 with ⟨u, -⟩ | ⟨-, r1⟩
      · exact absurd u z
      · exact thr_ex (k := k1) r1
theorem e_claim (h : CK n xs M G G hp dl) (hx : WX G) (hr : eS G 7 < 2 ^ 20) (i1 i2 i3 : Int32) : SE2 n xs M G (f_L_claim 1000 i1 i2 i3 1045 M) (fun M1 => f_X7_claim 1026 i1 i2 i3 M1) := by
  have hw := hx.f hr
  have hL := hx.2.2.2.2.2.1
  have kf := kc_X3_claim h.2.2.1.1 own1000 (FC.rf M) (i1 := i1) (i2 := i2) (i3 := i3)
  have q := q_claim (I := mI M) (J := mJ M) (A := mA M) h.1.1 hw hL hx.t h.1.2 i1 i2 i3 (fun p w hp4 _ hm => (hx.may hp4 hm).2)
  unfold f_L_claim f_L_claim_0
  rw [if_pos h.1.1.1]
  by_cases y1 : i1 < 0 ∨ 4 ≤ i1.toNatClampNeg
  · have eo : oClaim G i1 i2 i3 = some "java/lang/IndexOutOfBoundsException" := if_pos y1
    rw [eo] at q
    exact SE2.bd h hx hw kf q h.1.2 (k := 1) (by decide) (fun _ => if_pos rfl) (fun M1 k1 => kn_X7_claim k1.2.2.1.2.1 k1.fn) (fun M1 k1 => thr_ex (k := k1) (r_claim_bad (I := mI M1) (J := mJ M1) (A := mA M1) k1.2.1.1 i2 i3 y1))
  · obtain ⟨p, hp4, rfl⟩ := cl_no y1
    have ep : (nI p).toNatClampNeg = p := nI_cl (by omega)
    by_cases y2 : i2 < 0 ∨ 3 ≤ i2.toNatClampNeg
    · have eo : oClaim G (nI p) i2 i3 = some "java/lang/IllegalArgumentException" := (if_neg y1).trans (if_pos y2)
      rw [eo] at q
      exact SE2.bd h hx hw kf q h.1.2 (k := 2) (by decide) (fun _ => (if_neg (by decide)).trans (if_pos rfl)) (fun M1 k1 => kn_X7_claim k1.2.2.1.2.1 k1.fn) (fun M1 k1 => thr_ex (k := k1) (r_claim_bad2 (I := mI M1) (J := mJ M1) (A := mA M1) k1.2.1.1 hp4 i3 y2))
    · obtain ⟨w, hw3, rfl⟩ := cl_no y2
      have ew : (nI w).toNatClampNeg = w := nI_cl (by omega)
      have r := fun (M1 : zM) (k1 : ∃ Gc, CK n xs M1 Gc G hp dl) => r_claim (I := mI M1) (J := mJ M1) (A := mA M1) k1.choose_spec.2.1.1 k1.choose_spec.2.1.2 hw hx.2.2.2.2.2.2.1 hL hx.t hp4 (show w ≤ 2 by omega) i3 (fun hm => (hx.may hp4 hm).2)
      by_cases z : oMay G p w i3 = true
      · have eo : oClaim G (nI p) (nI w) i3 = none := by
          unfold oClaim
          rw [if_neg y1, if_neg y2, ep, ew, if_pos z]
        rw [eo] at q
        obtain ⟨I', A', e, hc⟩ := q
        rw [ep, ew] at hc
        rw [ep] at e
        have hx' := hx.clm hp4 (show w ≤ 2 by omega) z
        have e7 : eS (gClm G p w i3) 7 = eS G 7 := by
          unfold gClm
          split <;> rfl
        refine SE2.ok h kf e hc hx' (hx'.f (by rw [e7]; exact hr)) (by rw [e7]; exact Nat.le_succ _) (fun M1 k1 => kn_X7_claim k1.2.2.1.2.1 k1.fn) (fun M1 k1 => ?_)
        rcases r M1 ⟨_, k1⟩ with ⟨-, I2, J2, A2, M2, dl2, r1, r2, r3, r0, r4⟩ | ⟨u, -⟩
        · exact ⟨hp, dl2, _, r1, r2, r3, r0, Nat.le_trans r4.1 (Nat.add_le_add_left (by decide) _), Nat.le_trans r4.2 (Nat.add_le_add_left (by decide) _)⟩
        · rw [z] at u
          cases u
      · have eo : oClaim G (nI p) (nI w) i3 = some "java/lang/IllegalStateException" := by
          unfold oClaim
          rw [if_neg y1, if_neg y2, ep, ew, if_neg z]
        rw [eo] at q
        refine SE2.bd h hx hw kf q h.1.2 (k := 3) (by decide) (fun _ => (if_neg (by decide)).trans ((if_neg (by decide)).trans (if_pos rfl))) (fun M1 k1 => kn_X7_claim k1.2.2.1.2.1 k1.fn) (fun M1 k1 => ?_)
        rcases r M1 ⟨_, k1⟩ with ⟨u, -⟩ | ⟨-, r1⟩
        · exact absurd u z
        · exact thr_ex (k := k1) r1
end PLAYE
/-! ===== BOTH: has, ofSet, river, with code and answer ===== -/
section ASKE
variable {n : Nat} {xs : Nat → Int32} {M M' : zM} {G G' Gc Gr : zG} {hp dl hp' dl' : Nat → Nat}
theorem q_pl_bad {i : Int32} (y : pBad i) (M : zM) : f_X3_requirePlayer i M = some (.inl "java/lang/IndexOutOfBoundsException", nE M) := by
  rcases q_pl i M with ⟨p, hp, rfl, -⟩ | e
  · rcases y with z | z
    · exact absurd z (nI_nn (by omega))
    · rw [nI_cl (by omega)] at z
      omega
  · exact e
/-- asked, and answered as the reference answers -/
theorem SE2.q (h : CK n xs M G G hp dl) (hx : WX G) (hw : WF G) {x : Option ((String ⊕ Int32) × zM)} {v : Int32} (kf : KF (FC M) x) (e : x = some (.inr v, M)) {c : String → zM → Option (Int32 × zM)} {y : zM → Option (Int32 × zM)} (kn : ∀ M1, CK n xs M1 G G hp dl → KF (FN M1) (y M1)) (hy : ∀ M1, CK n xs M1 G G hp dl → y M1 = some (v, cs (th 0 (mI M1)) (mJ M1) (mA M1) M1)) : SE2 n xs M G (xc x c fun w Mw => (pJ 10 0 Mw 1045 w.toInt64).bind fun M4 => some ((0 : Int32), M4)) y :=
  SE2.ok h kf (I' := mI M) (J' := mJ M) (A' := mA M) e h.1.2 hx hw (Nat.le_succ _) kn fun M1 k1 => ⟨hp, dl, _, hy M1 k1, k1.2.1.1, k1.2.1.2.th 0, u2_at (mI M1) 416 1026 0, Nat.le_add_right _ _, Nat.le_add_right _ _⟩
theorem e_has (h : CK n xs M G G hp dl) (hx : WX G) (hr : eS G 7 < 2 ^ 20) (i1 i2 : Int32) : SE2 n xs M G (f_L_has 1000 i1 i2 1045 M) (fun M1 => f_X7_has 1026 i1 i2 M1) := by
  have hw := hx.f hr
  have kf := kc_X3_has h.2.2.1.1 own1000 (FC.rf M) (i1 := i1) (i2 := i2)
  unfold f_L_has f_L_has_0
  rw [if_pos h.1.1.1]
  by_cases y1 : pBad i1
  · have e : f_X3_has 1000 i1 i2 M = some (.inl "java/lang/IndexOutOfBoundsException", nE M) := by
      unfold f_X3_has f_X3_has_0
      rw [q_pl_bad y1]
      rfl
    exact SE2.bd h hx hw kf e h.1.2 (k := 1) (by decide) (fun _ => if_pos rfl) (fun M1 k1 => kn_X7_has k1.2.2.1.2.1 k1.fn) (fun M1 k1 => thr_ex (k := k1) (r_has_bad (I := mI M1) (J := mJ M1) (A := mA M1) k1.2.1.1 i2 y1))
  · obtain ⟨p, hp4, rfl⟩ := pBad_no y1
    by_cases y2 : oBad i2
    · have e : f_X3_has 1000 (nI p) i2 M = some (.inl "java/lang/IllegalArgumentException", nE M) := by
        unfold f_X3_has f_X3_has_0
        rw [q_pl_ok hp4]
        show xb (f_X3_requireKind i2 M) _ = _
        rw [q_bad y2]
        rfl
      exact SE2.bd h hx hw kf e h.1.2 (k := 2) (by decide) (fun _ => (if_neg (by decide)).trans (if_pos rfl)) (fun M1 k1 => kn_X7_has k1.2.2.1.2.1 k1.fn) (fun M1 k1 => thr_ex (k := k1) (r_has_bad2 (I := mI M1) (J := mJ M1) (A := mA M1) k1.2.1.1 hp4 y2))
    · obtain ⟨k, hk, rfl⟩ := oBad_no y2
      have hsp := h.1.1.2.2.2.2.2.2.2.1 _ hp4
      have e : f_X3_has 1000 (nI p) (nI k) M = some (.inr (nI (eH G p k)), M) := by
        have sq : lQ 1 M 1001 (nI p) = some (1010 + 4 * p) := CSH.seat (I := mI M) (J := mJ M) (A := mA M) h.1.1 hp4
        have ec : f_X1_count (1010 + 4 * p) (nI k) M = some (mA M (1011 + 4 * p) k, M) := q_count (I := mI M) (J := mJ M) (A := mA M) hsp hk
        unfold f_X3_has f_X3_has_0
        rw [q_pl_ok hp4]
        show xb (f_X3_requireKind (nI k) M) _ = _
        rw [q_requireKind_ok hk]
        show (gR 9 0 M 1000).bind _ = _
        rw [e_gR 288 h.1.1.1 h.1.1.2.1, Option.bind_some, sq, Option.bind_some, if_pos hsp.1, ec, Option.bind_some, (h.1.2.2 p hp4).1 k hk]
      exact SE2.q h hx hw kf e (fun M1 k1 => kn_X7_has k1.2.2.1.2.1 k1.fn) (fun M1 k1 => r_has (I := mI M1) (J := mJ M1) (A := mA M1) k1.2.1.1 k1.2.1.2 hp4 hk)
theorem e_river (h : CK n xs M G G hp dl) (hx : WX G) (hr : eS G 7 < 2 ^ 20) (i1 i2 : Int32) : SE2 n xs M G (f_L_river 1000 i1 i2 1045 M) (fun M1 => f_X7_river 1026 i1 i2 M1) := by
  have hw := hx.f hr
  have kf := kc_X3_river h.2.2.1.1 own1000 (FC.rf M) (i1 := i1) (i2 := i2)
  unfold f_L_river f_L_river_0
  rw [if_pos h.1.1.1]
  by_cases y1 : pBad i1
  · have e : f_X3_river 1000 i1 i2 M = some (.inl "java/lang/IndexOutOfBoundsException", nE M) := by
      unfold f_X3_river f_X3_river_0
      rw [q_pl_bad y1]
      rfl
    exact SE2.bd h hx hw kf e h.1.2 (k := 1) (by decide) (fun _ => if_pos rfl) (fun M1 k1 => kn_X7_river k1.2.2.1.2.1 k1.fn) (fun M1 k1 => thr_ex (k := k1) (r_river_bad (I := mI M1) (J := mJ M1) (A := mA M1) k1.2.1.1 i2 y1))
  · obtain ⟨p, hp4, rfl⟩ := pBad_no y1
    have hsp := h.1.1.2.2.2.2.2.2.2.1 _ hp4
    obtain ⟨d1, d2, d3, d4, d5, -⟩ := h.1.2.2 p hp4
    have v3 := (hw.2.2.2.2.2.2.2.2.2.2 p hp4).2.2.1
    have sq : lQ 1 M 1001 (nI p) = some (1010 + 4 * p) := CSH.seat (I := mI M) (J := mJ M) (A := mA M) h.1.1 hp4
    by_cases y2 : i2 < 0 ∨ eM G p ≤ i2.toNatClampNeg
    · have e : f_X3_river 1000 (nI p) i2 M = some (.inl "java/lang/IndexOutOfBoundsException", nE M) := by
        unfold f_X3_river f_X3_river_0
        rw [q_pl_ok hp4]
        show (gR 9 0 M 1000).bind _ = _
        rw [e_gR 288 h.1.1.1 h.1.1.2.1, Option.bind_some, sq, Option.bind_some]
        rcases nI_all i2 with z | ⟨j, z1, rfl⟩
        · rw [if_pos z]
          rfl
        · rw [nI_cl z1] at y2
          have y3 : eM G p ≤ j := y2.resolve_left (nI_nn z1)
          rw [if_neg (nI_nn z1), e_gI 229 hsp.1, Option.bind_some, d4, if_pos (le_t (eM G p) j y3 z1)]
          rfl
      refine SE2.bd h hx hw kf e h.1.2 (k := 1) (by decide) (fun _ => if_pos rfl) (fun M1 k1 => kn_X7_river k1.2.2.1.2.1 k1.fn) (fun M1 k1 => ?_)
      rcases r_river (I := mI M1) (J := mJ M1) (A := mA M1) k1.2.1.1 k1.2.1.2 hw hp4 i2 with ⟨j, j1, rfl, -⟩ | ⟨-, r1⟩
      · rw [nI_cl (by omega)] at y2
        exact absurd (y2.resolve_left (nI_nn (by omega))) (by omega)
      · exact thr_ex (k := k1) r1
    · obtain ⟨j, hj, rfl⟩ := cl_no y2
      have e : f_X3_river 1000 (nI p) (nI j) M = some (.inr (nI (eR G p j)), M) := by
        unfold f_X3_river f_X3_river_0
        rw [q_pl_ok hp4]
        show (gR 9 0 M 1000).bind _ = _
        rw [e_gR 288 h.1.1.1 h.1.1.2.1, Option.bind_some, sq, Option.bind_some, if_neg (nI_nn (by omega)), e_gI 229 hsp.1, Option.bind_some, d4, if_neg (le_f (eM G p) j hj (by omega)), if_pos (lt_t (y := 64) j 64 (by omega) (by decide)), e_gR 226 hsp.1 hsp.2.2.2.1, Option.bind_some, e_lA hsp.2.2.2.2.2.2.1 (by rw [hsp.2.2.2.2.2.2.2]; omega) (by rw [hsp.2.2.2.2.2.2.2]; decide), Option.bind_some, d5 j hj]
      refine SE2.q h hx hw kf e (fun M1 k1 => kn_X7_river k1.2.2.1.2.1 k1.fn) (fun M1 k1 => ?_)
      rcases r_river (I := mI M1) (J := mJ M1) (A := mA M1) k1.2.1.1 k1.2.1.2 hw hp4 (nI j) with ⟨j', j1, j2, r1⟩ | ⟨u, -⟩
      · have ej : j = j' := by
          have := congrArg Int32.toNatClampNeg j2
          rw [nI_cl (by omega), nI_cl (by omega)] at this
          exact this
        subst ej
        exact r1
      · rw [nI_cl (by omega)] at u
        exact absurd (u.resolve_left (nI_nn (by omega))) (by omega)
theorem e_ofSet (h : CK n xs M G G hp dl) (hx : WX G) (hr : eS G 7 < 2 ^ 20) (i1 i2 : Int32) : SE2 n xs M G (f_L_ofSet 1000 i1 i2 1045 M) (fun M1 => f_X7_ofSet 1026 i1 i2 M1) := by
  have hw := hx.f hr
  have kf := kc_X3_ofSet h.2.2.1.1 own1000 (FC.rf M) (i1 := i1) (i2 := i2)
  unfold f_L_ofSet f_L_ofSet_0
  rw [if_pos h.1.1.1]
  by_cases y1 : pBad i1
  · have e : f_X3_ofSet 1000 i1 i2 M = some (.inl "java/lang/IndexOutOfBoundsException", nE M) := by
      unfold f_X3_ofSet f_X3_ofSet_0
      rw [q_pl_bad y1]
      rfl
    exact SE2.bd h hx hw kf e h.1.2 (k := 1) (by decide) (fun _ => if_pos rfl) (fun M1 k1 => kn_X7_ofSet k1.2.2.1.2.1 k1.fn) (fun M1 k1 => thr_ex (k := k1) (r_ofSet_bad (I := mI M1) (J := mJ M1) (A := mA M1) k1.2.1.1 i2 y1))
  · obtain ⟨p, hp4, rfl⟩ := pBad_no y1
    have hsp := h.1.1.2.2.2.2.2.2.2.1 _ hp4
    obtain ⟨d1, d2, d3, d4, d5, -⟩ := h.1.2.2 p hp4
    have v3 := (hw.2.2.2.2.2.2.2.2.2.2 p hp4).2.1
    have sq : lQ 1 M 1001 (nI p) = some (1010 + 4 * p) := CSH.seat (I := mI M) (J := mJ M) (A := mA M) h.1.1 hp4
    by_cases y2 : i2 < 0 ∨ eN G p ≤ i2.toNatClampNeg
    · have e : f_X3_ofSet 1000 (nI p) i2 M = some (.inl "java/lang/IndexOutOfBoundsException", nE M) := by
        unfold f_X3_ofSet f_X3_ofSet_0
        rw [q_pl_ok hp4]
        show (gR 9 0 M 1000).bind _ = _
        rw [e_gR 288 h.1.1.1 h.1.1.2.1, Option.bind_some, sq, Option.bind_some]
        rcases nI_all i2 with z | ⟨j, z1, rfl⟩
        · rw [if_pos z]
          rfl
        · rw [nI_cl z1] at y2
          have y3 : eN G p ≤ j := y2.resolve_left (nI_nn z1)
          rw [if_neg (nI_nn z1), e_gI 228 hsp.1, Option.bind_some, d2, if_pos (le_t (eN G p) j y3 z1)]
          rfl
      refine SE2.bd h hx hw kf e h.1.2 (k := 1) (by decide) (fun _ => if_pos rfl) (fun M1 k1 => kn_X7_ofSet k1.2.2.1.2.1 k1.fn) (fun M1 k1 => ?_)
      rcases r_ofSet (I := mI M1) (J := mJ M1) (A := mA M1) k1.2.1.1 k1.2.1.2 hw hx.v hp4 i2 with ⟨j, j1, rfl, -⟩ | ⟨-, r1⟩
      · rw [nI_cl (by omega)] at y2
        exact absurd (y2.resolve_left (nI_nn (by omega))) (by omega)
      · exact thr_ex (k := k1) r1
    · obtain ⟨j, hj, rfl⟩ := cl_no y2
      have e : f_X3_ofSet 1000 (nI p) (nI j) M = some (.inr (nI (eV G p j)), M) := by
        unfold f_X3_ofSet f_X3_ofSet_0
        rw [q_pl_ok hp4]
        show (gR 9 0 M 1000).bind _ = _
        rw [e_gR 288 h.1.1.1 h.1.1.2.1, Option.bind_some, sq, Option.bind_some, if_neg (nI_nn (by omega)), e_gI 228 hsp.1, Option.bind_some, d2, if_neg (le_f (eN G p) j hj (by omega)), if_pos (lt_t (y := 3) j 3 (by omega) (by decide)), e_gR 225 hsp.1 hsp.2.2.1, Option.bind_some, e_lA hsp.2.2.2.2.2.1.1 (by rw [hsp.2.2.2.2.2.1.2]; omega) (by rw [hsp.2.2.2.2.2.1.2]; decide), Option.bind_some, d3 j hj]
      refine SE2.q h hx hw kf e (fun M1 k1 => kn_X7_ofSet k1.2.2.1.2.1 k1.fn) (fun M1 k1 => ?_)
      rcases r_ofSet (I := mI M1) (J := mJ M1) (A := mA M1) k1.2.1.1 k1.2.1.2 hw hx.v hp4 (nI j) with ⟨j', j1, j2, r1⟩ | ⟨u, -⟩
      · have ej : j = j' := by
          have := congrArg Int32.toNatClampNeg j2
          rw [nI_cl (by omega), nI_cl (by omega)] at this
          exact this
        subst ej
        exact r1
      · rw [nI_cl (by omega)] at u
        exact absurd (u.resolve_left (nI_nn (by omega))) (by omega)
end ASKE
