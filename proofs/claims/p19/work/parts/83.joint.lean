/-! ===== BOTH: the calls that play ===== -/
def LY {α : Type} (n : Nat) (xs : Nat → Int32) (c s : Nat) (M : zM) (Gc Gr : zG) (x : Option (α × zM)) : Prop := ∃ hp dl v M', x = some (v, M') ∧ CK n xs M' Gc Gr hp dl ∧ (mX M' ≤ mX M + c ∧ mS M' ≤ mS M + s)
def ROW (n : Nat) (xs : Nat → Int32) (M : zM) : Prop := mK M 1026 = 13 ∧ mK M 0 = 200 ∧ mL M 0 = n ∧ ∀ i, i < n → mA M 0 i = xs i
def SX {β : Type} (n : Nat) (xs : Nat → Int32) (M : zM) (G : zG) (x : Option (Int32 × zM)) (y : zM → Option (β × zM)) : Prop := ∃ v M1 w M2 G2 hp2 dl2, x = some (v, M1) ∧ ROW n xs M1 ∧ y M1 = some (w, M2) ∧ CK n xs M2 G2 G2 hp2 dl2 ∧ WX G2 ∧ eS G2 7 ≤ eS G 7 + 1 ∧ (mX M2 ≤ mX M + 404 ∧ mS M2 ≤ mS M + 1640)
section PLAY
variable {n : Nat} {xs : Nat → Int32} {M M' : zM} {G G' Gc Gr : zG} {hp dl hp' dl' : Nat → Nat}
theorem CK.row (h : CK n xs M Gc Gr hp dl) : ROW n xs M := ⟨h.2.1.1.1.1, h.2.2.2.1⟩
theorem LX.y {α : Type} {c s : Nat} {x : Option (α × zM)} (h : LX n xs c s M Gc Gr hp dl x) : LY n xs c s M Gc Gr x := by
  obtain ⟨v, M1, e, k, r⟩ := h
  exact ⟨hp, dl, v, M1, e, k, r⟩
theorem SX.mk {β : Type} {x : Option (Int32 × zM)} {y : zM → Option (β × zM)} {c s c' s' : Nat} (lx : LX n xs c s M G' G hp dl x) (ly : ∀ M1, CK n xs M1 G' G hp dl → LY n xs c' s' M1 G' G' (y M1)) (hx : WX G') (h7 : eS G' 7 ≤ eS G 7 + 1) (hc : c + c' ≤ 404) (hs : s + s' ≤ 1640) : SX n xs M G x y := by
  obtain ⟨v, M1, e1, k1, r1, r2⟩ := lx
  obtain ⟨hp2, dl2, w, M2, e2, k2, r3, r4⟩ := ly M1 k1
  exact ⟨v, M1, w, M2, G', hp2, dl2, e1, k1.row, e2, k2, hx, h7, by omega, by omega⟩
theorem LX.ok {α : Type} (h : CK n xs M G Gr hp dl) {x : Option ((String ⊕ α) × zM)} (kf : KF (FC M) x) {I' : Nat → Nat → Int32} {J' : Nat → Nat → Int64} {A' : Nat → Nat → Int32} {v : α} (e : x = some (.inr v, cs I' J' A' M)) (hc : CR I' J' A' G') (g : α → Int64) {c : String → zM → Option (Int32 × zM)} : LX n xs 0 0 M G' Gr hp dl (xc x c fun w Mw => (pJ 10 0 Mw 1045 (g w)).bind fun M4 => some ((0 : Int32), M4)) := by
  have fc : FC M (cs I' J' A' M) := kf _ e
  have ck : CK n xs (cs I' J' A' M) G' Gr hp dl := h.c0 rfl rfl rfl rfl fc h.1.1 hc
  rw [e]
  exact LX.wr ck (g v)
theorem LX.bd {α : Type} (h : CK n xs M G Gr hp dl) {x : Option ((String ⊕ α) × zM)} (kf : KF (FC M) x) {A' : Nat → Nat → Int32} {E : String} (e : x = some (.inl E, cs (mI M) (mJ M) A' (nE M))) (hcr : CR (mI M) (mJ M) A' G) {L : List String} (kx : KX L x) {c : String → zM → Option (Int32 × zM)} {f : α → zM → Option (Int32 × zM)} (hc : ∀ E M', E ∈ L → ∃ r : Int32, c E M' = some (r, M')) : LX n xs 1 6 M G Gr hp dl (xc x c f) := by
  have fc : FC M (cs (mI M) (mJ M) A' (nE M)) := kf _ e
  have ck : CK n xs (cs (mI M) (mJ M) A' (nE M)) G Gr hp dl := h.c0 rfl rfl rfl rfl fc h.1.1 hcr
  obtain ⟨r, er⟩ := hc E (cs (mI M) (mJ M) A' (nE M)) (kx _ e E rfl)
  rw [e]
  exact ⟨r, _, er, ck, Nat.le_refl _, Nat.le_refl _⟩
theorem LY.rf {α : Type} (h : CK n xs M Gc Gr hp dl) (hw : WF Gc) {x : Option (α × zM)} (kn : KF (FN M) x) {w : α} {M2 : zM} (e : x = some (w, M2)) (r1 : RS M2 hp' dl') (r2 : RN (mI M2) (mJ M2) (mA M2) M2 G' hp' dl') {c s : Nat} (r : mX M2 ≤ mX M + c ∧ mS M2 ≤ mS M + s) : LY n xs c s M Gc G' x := ⟨hp', dl', w, M2, e, h.ref hw (kn _ e) r1 r2, r⟩
theorem LY.th {α : Type} (h : CK n xs M Gc Gr hp dl) (hw : WF Gc) {x : Option (α × zM)} (kn : KF (FN M) x) {w : α} {v : Int32} (e : x = some (w, cs (th v (mI M)) (mJ M) (mA M) M)) (c s : Nat) : LY n xs c s M Gc Gr x := LY.rf h hw kn e h.2.1.1 (h.2.1.2.th v) ⟨Nat.le_add_right _ _, Nat.le_add_right _ _⟩
theorem hh3 {a b d : String} : ∀ (E : String) (M' : zM), E ∈ [b, d, a] → ∃ r : Int32, (if E = a then some ((1 : Int32), M') else if E = b then some ((2 : Int32), M') else if E = d then some ((3 : Int32), M') else none) = some (r, M') := fun E M' h => by
  by_cases y : E = a
  · exact ⟨1, if_pos y⟩
  · rw [if_neg y]
    rcases List.mem_cons.mp h with z | z
    · exact ⟨2, if_pos z⟩
    · by_cases u : E = b
      · exact ⟨2, if_pos u⟩
      · rw [if_neg u]
        rcases List.mem_cons.mp z with z | z
        · exact ⟨3, if_pos z⟩
        · exact absurd (List.mem_singleton.mp z) y
theorem hh2' {a b : String} : ∀ (E : String) (M' : zM), E ∈ [a, b] → ∃ r : Int32, (if E = a then some ((1 : Int32), M') else if E = b then some ((2 : Int32), M') else none) = some (r, M') := fun E M' h => by
  by_cases y : E = a
  · exact ⟨1, if_pos y⟩
  · rw [if_neg y]
    rcases List.mem_cons.mp h with z | z
    · exact absurd z y
    · exact ⟨2, if_pos (List.mem_singleton.mp z)⟩
theorem s_pass (h : CK n xs M G G hp dl) (hx : WX G) (hr : eS G 7 < 2 ^ 20) : SX n xs M G (f_L_pass 1000 1045 M) (fun M1 => f_X7_pass 1026 M1) := by
  have hw := hx.f hr
  have kf := kc_X3_pass h.2.2.1.1 own1000 (FC.rf M)
  have kx := ke_X3_pass (L := ["java/lang/IllegalStateException"]) (fun E h => h) (a0 := 1000) (M := M)
  unfold f_L_pass f_L_pass_0
  rw [if_pos h.1.1.1]
  rcases q_pass (I := mI M) (J := mJ M) (A := mA M) h.1.1 h.1.2 hw with ⟨y, e⟩ | ⟨y, I', e, hc⟩
  · refine SX.mk (LX.bd h kf e h.1.2 kx hh1) (fun M1 k1 => ?_) hx (Nat.le_succ _) (c' := 0) (s' := 0) (by decide) (by decide)
    have r := r_pass (I := mI M1) (J := mJ M1) (A := mA M1) k1.2.1.1 k1.2.1.2 hw
    rw [if_neg y] at r
    exact LY.th k1 hw (kn_X7_pass k1.2.2.1.2.1 k1.fn) r 0 0
  · have hx' := hx.pass y
    refine SX.mk (LX.ok h kf e hc (fun w => w.toInt64)) (fun M1 k1 => ?_) hx' (Nat.le_succ _) (c' := 0) (s' := 0) (by decide) (by decide)
    have r := r_pass (I := mI M1) (J := mJ M1) (A := mA M1) k1.2.1.1 k1.2.1.2 hw
    rw [if_pos y] at r
    obtain ⟨I2, r1, -, r2⟩ := r
    exact LY.rf k1 (hx'.f hr) (kn_X7_pass k1.2.2.1.2.1 k1.fn) r1 k1.2.1.1 r2 ⟨Nat.le_refl _, Nat.le_refl _⟩
theorem s_draw (h : CK n xs M G G hp dl) (hx : WX G) (hr : eS G 7 < 2 ^ 20) : SX n xs M G (f_L_draw 1000 1045 M) (fun M1 => f_X7_draw 1026 M1) := by
  have hw := hx.f hr
  have kf := kc_X3_draw h.2.2.1.1 own1000 (FC.rf M)
  have kx := ke_X3_draw (L := ["java/lang/IllegalStateException"]) (fun E h => h) (a0 := 1000) (M := M)
  unfold f_L_draw f_L_draw_0
  rw [if_pos h.1.1.1]
  rcases q_draw (I := mI M) (J := mJ M) (A := mA M) h.1.1 hw h.1.2 with ⟨y, e⟩ | ⟨y, I', A', e, hc⟩
  · refine SX.mk (LX.bd h kf e h.1.2 kx hh1) (fun M1 k1 => ?_) hx (Nat.le_succ _) (c' := 0) (s' := 0) (by decide) (by decide)
    exact LY.th k1 hw (kn_X7_draw k1.2.2.1.2.1 k1.fn) (r_draw_no (I := mI M1) (J := mJ M1) (A := mA M1) k1.2.1.1 k1.2.1.2 hw y) 0 0
  · have hx' := hx.draw y
    have e7 : eS (gDraw G) 7 = eS G 7 := by
      unfold gDraw
      split <;> rfl
    refine SX.mk (LX.ok h kf e hc (fun w => w.toInt64)) (fun M1 k1 => ?_) hx' (by rw [e7]; exact Nat.le_succ _) (c' := 1) (s' := 4) (by decide) (by decide)
    obtain ⟨I2, A2, M2, r1, r2, r3, -, r4⟩ := r_draw (I := mI M1) (J := mJ M1) (A := mA M1) k1.2.1.1 k1.2.1.2 hw hx.2.2.2.2.2.2.1 y
    exact LY.rf k1 (hx'.f (by rw [e7]; exact hr)) (kn_X7_draw k1.2.2.1.2.1 k1.fn) r1 r2 r3 r4
theorem s_discard (h : CK n xs M G G hp dl) (hx : WX G) (hr : eS G 7 < 2 ^ 20) (i : Int32) : SX n xs M G (f_L_discard 1000 i 1045 M) (fun M1 => f_X7_discard 1026 i M1) := by
  have hw := hx.f hr
  have kf := kc_X3_discard h.2.2.1.1 own1000 (FC.rf M) (i1 := i)
  have kx := ke_X3_discard (L := ["java/lang/IllegalArgumentException", "java/lang/IllegalStateException"]) (fun E h => h) (a0 := 1000) (i1 := i) (M := M)
  have q := q_discard (I := mI M) (J := mJ M) (A := mA M) h.1.1 hw h.1.2 i
  unfold f_L_discard f_L_discard_0
  rw [if_pos h.1.1.1]
  by_cases y : oBad i
  · have eo : oDisc G i = some "java/lang/IllegalArgumentException" := if_pos y
    rw [eo] at q
    refine SX.mk (LX.bd h kf q h.1.2 kx hh2') (fun M1 k1 => ?_) hx (Nat.le_succ _) (c' := 0) (s' := 0) (by decide) (by decide)
    exact LY.th k1 hw (kn_X7_discard k1.2.2.1.2.1 k1.fn) (r_discard_bad (I := mI M1) (J := mJ M1) (A := mA M1) k1.2.1.1 y) 0 0
  · obtain ⟨c, hc25, rfl⟩ := oBad_no y
    have ecl : (nI c).toNatClampNeg = c := nI_cl (by omega)
    by_cases z : dOk G c
    · have eo : oDisc G (nI c) = none := by
        unfold oDisc
        rw [if_neg y, ecl]
        exact if_pos z
      rw [eo] at q
      obtain ⟨I', J', A', e, hc⟩ := q
      rw [ecl] at hc
      have hx' := hx.riv z.1 hc25 z.2.1
      refine SX.mk (LX.ok h kf e hc (fun w => w.toInt64)) (fun M1 k1 => ?_) hx' (Nat.le_succ _) (c' := 1) (s' := 100) (by decide) (by decide)
      rcases r_discard (I := mI M1) (J := mJ M1) (A := mA M1) k1.2.1.1 k1.2.1.2 hw hx.2.2.2.2.2.2.2.1 hc25 with ⟨-, I2, J2, A2, M2, dl2, r1, r2, r3, -, r4⟩ | ⟨u, -⟩
      · exact LY.rf k1 (hx'.f hr) (kn_X7_discard k1.2.2.1.2.1 k1.fn) r1 r2 r3 r4
      · exact absurd z u
    · have eo : oDisc G (nI c) = some "java/lang/IllegalStateException" := by
        unfold oDisc
        rw [if_neg y, ecl]
        exact if_neg z
      rw [eo] at q
      refine SX.mk (LX.bd h kf q h.1.2 kx hh2') (fun M1 k1 => ?_) hx (Nat.le_succ _) (c' := 0) (s' := 0) (by decide) (by decide)
      rcases r_discard (I := mI M1) (J := mJ M1) (A := mA M1) k1.2.1.1 k1.2.1.2 hw hx.2.2.2.2.2.2.2.1 hc25 with ⟨u, -⟩ | ⟨-, r1⟩
      · exact absurd u z
      · exact LY.th k1 hw (kn_X7_discard k1.2.2.1.2.1 k1.fn) r1 0 0
theorem s_four (h : CK n xs M G G hp dl) (hx : WX G) (hr : eS G 7 < 2 ^ 20) (i : Int32) : SX n xs M G (f_L_four 1000 i 1045 M) (fun M1 => f_X7_four 1026 i M1) := by
  have hw := hx.f hr
  have kf := kc_X3_four h.2.2.1.1 own1000 (FC.rf M) (i1 := i)
  have kx := ke_X3_four (L := ["java/lang/IllegalArgumentException", "java/lang/IllegalStateException"]) (fun E h => h) (a0 := 1000) (i1 := i) (M := M)
  have q := q_four (I := mI M) (J := mJ M) (A := mA M) h.1.1 hw hx.z h.1.2 i
  unfold f_L_four f_L_four_0
  rw [if_pos h.1.1.1]
  by_cases y : oBad i
  · have eo : oFour G i = some "java/lang/IllegalArgumentException" := if_pos y
    rw [eo] at q
    refine SX.mk (LX.bd h kf q h.1.2 kx hh2') (fun M1 k1 => ?_) hx (Nat.le_succ _) (c' := 0) (s' := 0) (by decide) (by decide)
    exact LY.th k1 hw (kn_X7_four k1.2.2.1.2.1 k1.fn) (r_four_bad (I := mI M1) (J := mJ M1) (A := mA M1) k1.2.1.1 y) 0 0
  · obtain ⟨c, hc25, rfl⟩ := oBad_no y
    have ecl : (nI c).toNatClampNeg = c := nI_cl (by omega)
    by_cases z : fOk G c
    · have eo : oFour G (nI c) = none := by
        unfold oFour
        rw [if_neg y, ecl]
        exact if_pos z
      rw [eo] at q
      obtain ⟨I', J', A', e, hc⟩ := q
      rw [ecl] at hc
      have hx' := hx.four hc25 z
      refine SX.mk (LX.ok h kf e hc (fun w => w.toInt64)) (fun M1 k1 => ?_) hx' (Nat.le_succ _) (c' := 2) (s' := 102) (by decide) (by decide)
      rcases r_four (I := mI M1) (J := mJ M1) (A := mA M1) k1.2.1.1 k1.2.1.2 hw hx.z hx.2.2.2.2.2.2.1 hc25 with ⟨-, I2, J2, A2, M2, dl2, r1, r2, r3, -, r4⟩ | ⟨u, -⟩
      · exact LY.rf k1 (hx'.f hr) (kn_X7_four k1.2.2.1.2.1 k1.fn) r1 r2 r3 r4
      · exact absurd z u
    · have eo : oFour G (nI c) = some "java/lang/IllegalStateException" := by
        unfold oFour
        rw [if_neg y, ecl]
        exact if_neg z
      rw [eo] at q
      refine SX.mk (LX.bd h kf q h.1.2 kx hh2') (fun M1 k1 => ?_) hx (Nat.le_succ _) (c' := 0) (s' := 0) (by decide) (by decide)
      rcases r_four (I := mI M1) (J := mJ M1) (A := mA M1) k1.2.1.1 k1.2.1.2 hw hx.z hx.2.2.2.2.2.2.1 hc25 with ⟨u, -⟩ | ⟨-, r1⟩
      · exact absurd u z
      · exact LY.th k1 hw (kn_X7_four k1.2.2.1.2.1 k1.fn) r1 0 0
theorem WX.cr (h : WX G) (h1 : eS G 4 = 1) {k : Nat} (hk : k < 25) (h0 : eH G (eS G 5) k ≠ 0) (p : Nat) : WX (gRiv (gCal G p) k) := by
  obtain ⟨a, b, c, d, e, l, D, C, e8, r⟩ := h.riv h1 hk h0
  exact ⟨a, b, c, d, e, l, D, fun z => absurd (show (2 : Nat) = 1 from z) (by decide), e8, r⟩
theorem s_call (h : CK n xs M G G hp dl) (hx : WX G) (hr : eS G 7 < 2 ^ 20) (i : Int32) : SX n xs M G (f_L_call 1000 i 1045 M) (fun M1 => f_X7_call 1026 i M1) := by
  have hw := hx.f hr
  have kf := kc_X3_call h.2.2.1.1 own1000 (FC.rf M) (i1 := i)
  have kx := ke_X3_call (L := ["java/lang/IllegalArgumentException", "java/lang/IllegalStateException"]) (fun E h => h) (a0 := 1000) (i1 := i) (M := M)
  have q := q_call (I := mI M) (J := mJ M) (A := mA M) h.1.1 hw hx.v hx.z h.1.2 i
  unfold f_L_call f_L_call_0
  rw [if_pos h.1.1.1]
  by_cases y : oBad i
  · have eo : oCall G i = some "java/lang/IllegalArgumentException" := if_pos y
    rw [eo] at q
    obtain ⟨A', e, hc⟩ := q
    refine SX.mk (LX.bd h kf e hc kx hh2') (fun M1 k1 => ?_) hx (Nat.le_succ _) (c' := 0) (s' := 0) (by decide) (by decide)
    exact LY.th k1 hw (kn_X7_call k1.2.2.1.2.1 k1.fn) (r_call_bad (I := mI M1) (J := mJ M1) (A := mA M1) k1.2.1.1 y) 0 0
  · obtain ⟨c, hc25, rfl⟩ := oBad_no y
    have ecl : (nI c).toNatClampNeg = c := nI_cl (by omega)
    by_cases z : cOk G c = true
    · have z' := of_decide_eq_true z
      have eo : oCall G (nI c) = none := by
        unfold oCall
        rw [if_neg y, ecl]
        exact if_pos ⟨z'.1, z'.2.2.1, z'.2.1, z'.2.2.2.1, z'.2.2.2.2⟩
      rw [eo] at q
      obtain ⟨I', J', A', v, e, hc⟩ := q
      rw [ecl] at hc
      have hx' := hx.cr z'.1 hc25 z'.2.2.2.1 (eS G 5)
      refine SX.mk (LX.ok h kf e hc (fun w => w.toInt64)) (fun M1 k1 => ?_) hx' (Nat.le_succ _) (c' := 2) (s' := 104) (by decide) (by decide)
      rcases r_call (I := mI M1) (J := mJ M1) (A := mA M1) k1.2.1.1 k1.2.1.2 hw hx.v hc25 with ⟨-, I2, J2, A2, M2, dl2, w, r1, r2, r3, -, r4⟩ | ⟨u, -⟩
      · exact LY.rf k1 (hx'.f hr) (kn_X7_call k1.2.2.1.2.1 k1.fn) r1 r2 r3 r4
      · rw [z] at u
        cases u
    · have eo : oCall G (nI c) = some "java/lang/IllegalStateException" := by
        unfold oCall
        rw [if_neg y, ecl]
        exact if_neg (fun u => z (decide_eq_true ⟨u.1, u.2.2.1, u.2.1, u.2.2.2.1, u.2.2.2.2⟩))
      rw [eo] at q
      obtain ⟨A', e, hc⟩ := q
      refine SX.mk (LX.bd h kf e hc kx hh2') (fun M1 k1 => ?_) hx (Nat.le_succ _) (c' := 1) (s' := 4) (by decide) (by decide)
      rcases r_call (I := mI M1) (J := mJ M1) (A := mA M1) k1.2.1.1 k1.2.1.2 hw hx.v hc25 with ⟨u, -⟩ | ⟨-, M2, r1, r2, r3, -, r4⟩
      · exact absurd u z
      · exact LY.rf k1 hw (kn_X7_call k1.2.2.1.2.1 k1.fn) r1 r2 r3 r4
theorem cl_no {i : Int32} {m : Nat} (h : ¬ (i < 0 ∨ m ≤ i.toNatClampNeg)) : ∃ p, p < m ∧ i = nI p := by
  rcases nI_all i with z | ⟨n, z1, z2⟩
  · exact absurd (Or.inl z) h
  · refine ⟨n, Nat.lt_of_not_le fun q => h (Or.inr ?_), z2⟩
    rw [z2, nI_cl z1]
    exact q
theorem s_claim (h : CK n xs M G G hp dl) (hx : WX G) (hr : eS G 7 < 2 ^ 20) (i1 i2 i3 : Int32) : SX n xs M G (f_L_claim 1000 i1 i2 i3 1045 M) (fun M1 => f_X7_claim 1026 i1 i2 i3 M1) := by
  have hw := hx.f hr
  have hL := hx.2.2.2.2.2.1
  have kf := kc_X3_claim h.2.2.1.1 own1000 (FC.rf M) (i1 := i1) (i2 := i2) (i3 := i3)
  have kx := ke_X3_claim (L := ["java/lang/IllegalArgumentException", "java/lang/IllegalStateException", "java/lang/IndexOutOfBoundsException"]) (fun E h => h) (a0 := 1000) (i1 := i1) (i2 := i2) (i3 := i3) (M := M)
  have q := q_claim (I := mI M) (J := mJ M) (A := mA M) h.1.1 hw hL hx.t h.1.2 i1 i2 i3 (fun p w hp4 _ hm => (hx.may hp4 hm).2)
  unfold f_L_claim f_L_claim_0
  rw [if_pos h.1.1.1]
  by_cases y1 : i1 < 0 ∨ 4 ≤ i1.toNatClampNeg
  · have eo : oClaim G i1 i2 i3 = some "java/lang/IndexOutOfBoundsException" := if_pos y1
    rw [eo] at q
    refine SX.mk (LX.bd h kf q h.1.2 kx hh3) (fun M1 k1 => ?_) hx (Nat.le_succ _) (c' := 0) (s' := 0) (by decide) (by decide)
    exact LY.th k1 hw (kn_X7_claim k1.2.2.1.2.1 k1.fn) (r_claim_bad (I := mI M1) (J := mJ M1) (A := mA M1) k1.2.1.1 i2 i3 y1) 0 0
  · obtain ⟨p, hp4, rfl⟩ := cl_no y1
    have ep : (nI p).toNatClampNeg = p := nI_cl (by omega)
    by_cases y2 : i2 < 0 ∨ 3 ≤ i2.toNatClampNeg
    · have eo : oClaim G (nI p) i2 i3 = some "java/lang/IllegalArgumentException" := (if_neg y1).trans (if_pos y2)
      rw [eo] at q
      refine SX.mk (LX.bd h kf q h.1.2 kx hh3) (fun M1 k1 => ?_) hx (Nat.le_succ _) (c' := 0) (s' := 0) (by decide) (by decide)
      exact LY.th k1 hw (kn_X7_claim k1.2.2.1.2.1 k1.fn) (r_claim_bad2 (I := mI M1) (J := mJ M1) (A := mA M1) k1.2.1.1 hp4 i3 y2) 0 0
    · obtain ⟨w, hw3, rfl⟩ := cl_no y2
      have ew : (nI w).toNatClampNeg = w := nI_cl (by omega)
      have r := fun (M1 : zM) (k1 : ∃ Gc, CK n xs M1 Gc G hp dl) => r_claim (I := mI M1) (J := mJ M1) (A := mA M1) k1.choose_spec.2.1.1 k1.choose_spec.2.1.2 hw hx.2.2.2.2.2.2.1 hL hx.t hp4 (show w ≤ 2 by omega) i3 (fun hm => (hx.may hp4 hm).2)
      by_cases z : oMay G p w i3 = true
      · have eo : oClaim G (nI p) (nI w) i3 = none := by
          unfold oClaim
          rw [if_neg y1, if_neg y2, ep, ew, if_pos z]
        rw [eo] at q
        obtain ⟨I', A', e, hc⟩ := q
        rw [ep, ew] at hc
        have hx' := hx.clm hp4 (show w ≤ 2 by omega) z
        have e7 : eS (gClm G p w i3) 7 = eS G 7 := by
          unfold gClm
          split <;> rfl
        refine SX.mk (LX.ok h kf e hc (fun w => w.toInt64)) (fun M1 k1 => ?_) hx' (by rw [e7]; exact Nat.le_succ _) (c' := 2) (s' := 102) (by decide) (by decide)
        rcases r M1 ⟨_, k1⟩ with ⟨-, I2, J2, A2, M2, dl2, r1, r2, r3, -, r4⟩ | ⟨u, -⟩
        · exact LY.rf k1 (hx'.f (by rw [e7]; exact hr)) (kn_X7_claim k1.2.2.1.2.1 k1.fn) r1 r2 r3 r4
        · rw [z] at u
          cases u
      · have eo : oClaim G (nI p) (nI w) i3 = some "java/lang/IllegalStateException" := by
          unfold oClaim
          rw [if_neg y1, if_neg y2, ep, ew, if_neg z]
        rw [eo] at q
        refine SX.mk (LX.bd h kf q h.1.2 kx hh3) (fun M1 k1 => ?_) hx (Nat.le_succ _) (c' := 0) (s' := 0) (by decide) (by decide)
        rcases r M1 ⟨_, k1⟩ with ⟨u, -⟩ | ⟨-, r1⟩
        · exact absurd u z
        · exact LY.th k1 hw (kn_X7_claim k1.2.2.1.2.1 k1.fn) r1 0 0
theorem s_win (h : CK n xs M G G hp dl) (hx : WX G) (hr : eS G 7 < 2 ^ 20) (i : Int32) : SX n xs M G (f_L_win 1000 i 1045 M) (fun M1 => f_X7_win 1026 i M1) := by
  have hw := hx.f hr
  have hL := hx.2.2.2.2.2.1
  have kf := kc_X3_win h.2.2.1.1 own1000 (FC.rf M) (i1 := i)
  have kx := ke_X3_win (L := ["java/lang/IllegalStateException", "java/lang/IndexOutOfBoundsException"]) (fun E h => h) (a0 := 1000) (i1 := i) (M := M)
  have q := q_win (I := mI M) (J := mJ M) (A := mA M) h.1.1 hw hL hx.t hx.z h.1.2 i
  unfold f_L_win f_L_win_0
  rw [if_pos h.1.1.1]
  by_cases y : i < 0 ∨ 4 ≤ i.toNatClampNeg
  · have eo : oWin G i = some "java/lang/IndexOutOfBoundsException" := if_pos y
    rw [eo] at q
    obtain ⟨A', e, hc⟩ := q
    refine SX.mk (LX.bd h kf e hc kx hh2) (fun M1 k1 => ?_) hx (Nat.le_succ _) (c' := 0) (s' := 0) (by decide) (by decide)
    exact LY.th k1 hw (kn_X7_win k1.2.2.1.2.1 k1.fn) (r_win_bad (I := mI M1) (J := mJ M1) (A := mA M1) k1.2.1.1 y) 0 0
  · obtain ⟨p, hp4, rfl⟩ := cl_no y
    have ep : (nI p).toNatClampNeg = p := nI_cl (by omega)
    have r := fun (M1 : zM) (k1 : ∃ Gc, CK n xs M1 Gc G hp dl) => r_win (I := mI M1) (J := mJ M1) (A := mA M1) k1.choose_spec.2.1.1 k1.choose_spec.2.1.2 hw hx.v hx.z hx.z1 hx.2.2.2.2.2.2.2.2.1 hx.2.2.2.2.2.2.2.2.2 hL hx.t hp4
    by_cases z : wOk G p = true
    · have eo : oWin G (nI p) = none := by
        unfold oWin
        rw [if_neg y, ep]
        exact if_pos z
      rw [eo] at q
      obtain ⟨I', A', v, e, hc⟩ := q
      rw [ep] at hc
      have hx' := hx.win hp4 z
      have e7 : eS (gWin G p) 7 = eS G 7 := by
        unfold gWin
        split <;> rfl
      refine SX.mk (LX.ok h kf e hc (fun w => w.toInt64)) (fun M1 k1 => ?_) hx' (by rw [e7]; exact Nat.le_succ _) (c' := 29) (s' := 158) (by decide) (by decide)
      rcases r M1 ⟨_, k1⟩ with ⟨-, w, I2, J2, A2, M2, r1, r2, r3, -, r4⟩ | ⟨u, -⟩
      · exact LY.rf k1 (hx'.f (by rw [e7]; exact hr)) (kn_X7_win k1.2.2.1.2.1 k1.fn) r1 r2 r3 r4
      · rw [z] at u
        cases u
    · have eo : oWin G (nI p) = some "java/lang/IllegalStateException" := by
        unfold oWin
        rw [if_neg y, ep]
        exact if_neg z
      rw [eo] at q
      obtain ⟨A', e, hc⟩ := q
      refine SX.mk (LX.bd h kf e hc kx hh2) (fun M1 k1 => ?_) hx (Nat.le_succ _) (c' := 0) (s' := 0) (by decide) (by decide)
      rcases r M1 ⟨_, k1⟩ with ⟨u, -⟩ | ⟨-, A2, r1, r2⟩
      · exact absurd u z
      · exact LY.rf k1 hw (kn_X7_win k1.2.2.1.2.1 k1.fn) r1 k1.2.1.1 r2 ⟨Nat.le_refl _, Nat.le_refl _⟩
end PLAY
