/-! ===== BOTH, with what lies, and points, wins, pot, lucky kind, winner ===== -/
/-- the table's rows are as they were -/
def FTB (M0 M : zM) : Prop := ∀ b, 1 ≤ b → b ≤ 3 → mA M b = mA M0 b
/-- after so many calls points and pot are no greater than so -/
def EB (c : Nat) (e : zPt) : Prop := c ≤ 600 → (∀ p, p < 4 → ∃ z : Int, e.1 p = Int32.ofInt z ∧ z.natAbs ≤ 250 + 10000 * c) ∧ ∃ z : Int, e.2.2.1 = Int32.ofInt z ∧ 0 ≤ z ∧ z ≤ 10 * (c : Int)
def EK (c : Nat) (M : zM) : Prop := TB (mA M) ∧ ∃ e, CE (mI M) e ∧ RE (mI M) e ∧ EB c e
theorem EB.w {c : Nat} {e : zPt} (h : EB c e) : EB (c + 1) e := fun hc => by
  obtain ⟨a, b, b1, b2, b3⟩ := h (by omega)
  refine ⟨fun p hp => ?_, b, b1, b2, by omega⟩
  obtain ⟨z, z1, z2⟩ := a p hp
  exact ⟨z, z1, by omega⟩
theorem EK.w {c : Nat} {M : zM} (h : EK c M) : EK (c + 1) M := by
  obtain ⟨tb, e, x, r, b⟩ := h
  exact ⟨tb, e, x, r, b.w⟩
theorem nI_int (n : Nat) : nI n = Int32.ofInt (n : Int) := Int32.ofInt_eq_ofNat.symm
theorem EB.draw {c : Nat} {e : zPt} (h : EB c e) (G : zG) : EB (c + 1) (eDraw G e) := by
  unfold eDraw
  split
  · exact h.w
  · intro hc
    obtain ⟨a, b, b1, b2, b3⟩ := h (by omega)
    refine ⟨fun p hp => ?_, b, b1, b2, by omega⟩
    obtain ⟨z, z1, z2⟩ := a p hp
    have hR : crd G 0 4 ≤ 1 * 4 := sn_le _ 1 4 0 (fun _ _ _ => by split <;> omega)
    show ∃ z, ewP G (crd G 0 4) 0 e.1 p = Int32.ofInt z ∧ _
    generalize crd G 0 4 = R at *
    unfold ewP
    rw [if_pos ⟨Nat.zero_le _, hp⟩, z1, nI_int]
    split
    · refine ⟨z + 10 * (4 - (R : Int)), ?_, by omega⟩
      rw [Int32.ofInt_add, Int32.ofInt_mul, Int32.ofInt_sub]
      rfl
    · refine ⟨z + 10 * -(R : Int), ?_, by omega⟩
      rw [Int32.ofInt_add, Int32.ofInt_mul, Int32.ofInt_neg]
      rfl
theorem EB.cal {c : Nat} {e : zPt} (h : EB c e) (t : Nat) : EB (c + 1) (eCal e t) := fun hc => by
  obtain ⟨a, b, b1, b2, b3⟩ := h (by omega)
  refine ⟨fun p hp => ?_, b + 10, ?_, by omega, by omega⟩
  · obtain ⟨z, z1, z2⟩ := a p hp
    show ∃ z, u1 e.1 t (e.1 t - 10) p = Int32.ofInt z ∧ _
    by_cases y : p = t
    · rw [← y, u1_at, z1]
      refine ⟨z - 10, ?_, by omega⟩
      rw [Int32.ofInt_sub]
      rfl
    · rw [u1_ne _ _ y]
      exact ⟨z, z1, by omega⟩
  · show e.2.2.1 + 10 = _
    rw [b1, Int32.ofInt_add]
    rfl
theorem EB.lay {c : Nat} {e : zPt} (h : EB c e) (k : Nat) : EB (c + 1) (eLay e k) := h.w
theorem EB.win {c : Nat} {e : zPt} (h : EB c e) {p : Nat} (hp4 : p < 4) (t : Nat) (al : Bool) {x : Nat} (hx : x ≤ 12) : EB (c + 1) (eWin e p t al (nI x)) := fun hc => by
  obtain ⟨a, b, b1, b2, b3⟩ := h (by omega)
  refine ⟨fun q hq => ?_, 0, rfl, by decide, by omega⟩
  obtain ⟨z, z1, z2⟩ := a q hq
  obtain ⟨w, w1, w2⟩ := a p hp4
  show ∃ z, (if q = p then e.1 p + 12 * nI x + e.2.2.1 else if al = true then e.1 q - 4 * nI x else if q = t then e.1 q - 12 * nI x else e.1 q) = Int32.ofInt z ∧ _
  rw [nI_int, b1, z1, w1]
  split
  · refine ⟨w + 12 * (x : Int) + b, ?_, by omega⟩
    rw [Int32.ofInt_add, Int32.ofInt_add, Int32.ofInt_mul]
    rfl
  · split
    · refine ⟨z - 4 * (x : Int), ?_, by omega⟩
      rw [Int32.ofInt_sub, Int32.ofInt_mul]
      rfl
    · split
      · refine ⟨z - 12 * (x : Int), ?_, by omega⟩
        rw [Int32.ofInt_sub, Int32.ofInt_mul]
        rfl
      · exact ⟨z, rfl, by omega⟩
def SX9 {β : Type} (n : Nat) (xs : Nat → Int32) (M : zM) (G : zG) (hp dl : Nat → Nat) (x : Option (Int32 × zM)) (y : zM → Option (β × zM)) : Prop := ∃ v M1 w M2 G2 hp2 dl2, x = some (v, M1) ∧ CK n xs M1 G2 G hp dl ∧ y M1 = some (w, M2) ∧ CK n xs M2 G2 G2 hp2 dl2 ∧ (WX G2 ∧ W9 G2) ∧ eS G2 7 ≤ eS G 7 + 1 ∧ (mX M2 ≤ mX M + 404 ∧ mS M2 ≤ mS M + 1640)
def SXN {β : Type} (n : Nat) (xs : Nat → Int32) (cc : Nat) (M : zM) (G : zG) (x : Option (Int32 × zM)) (y : zM → Option (β × zM)) : Prop := ∃ v M1 w M2 G2 hp2 dl2, x = some (v, M1) ∧ ROW n xs M1 ∧ y M1 = some (w, M2) ∧ CK n xs M2 G2 G2 hp2 dl2 ∧ (WX G2 ∧ W9 G2 ∧ EK (cc + 1) M2) ∧ eS G2 7 ≤ eS G 7 + 1 ∧ (mX M2 ≤ mX M + 404 ∧ mS M2 ≤ mS M + 1640)
theorem KF.mono {α : Type} {Φ Ψ : zM → Prop} {x : Option (α × zM)} (h : KF Φ x) (f : ∀ M, Φ M → Ψ M) : KF Ψ x := fun r e => f _ (h r e)
theorem CE.lo {I I' : Nat → Nat → Int32} {e : zPt} (h : CE I e) (f : ∀ k b, b < 1026 → I' k b = I k b) : CE I' e := ⟨fun p hp => ⟨(f _ _ (by omega)).trans (h.1 p hp).1, (f _ _ (by omega)).trans (h.1 p hp).2⟩, (f _ _ (by omega)).trans h.2.1, (f _ _ (by omega)).trans h.2.2.1, (f _ _ (by omega)).trans h.2.2.2⟩
theorem RE.hi {I I' : Nat → Nat → Int32} {e : zPt} (h : RE I e) (f : ∀ k b, 1026 ≤ b → b < 1046 → I' k b = I k b) : RE I' e := ⟨fun p hp => ⟨(f _ _ (by omega) (by omega)).trans (h.1 p hp).1, (f _ _ (by omega) (by omega)).trans (h.1 p hp).2⟩, (f _ _ (by omega) (by omega)).trans h.2.1, (f _ _ (by omega) (by omega)).trans h.2.2.1, (f _ _ (by omega) (by omega)).trans h.2.2.2⟩
theorem FTB.rf (M : zM) : FTB M M := fun _ _ _ => rfl
theorem FTB.tr {M0 M1 M2 : zM} (h : FTB M0 M1) (g : FTB M1 M2) : FTB M0 M2 := fun b h1 h2 => (g b h1 h2).trans (h b h1 h2)
theorem TB.ft {M0 M : zM} (h : TB (mA M0)) (g : FTB M0 M) : TB (mA M) := fun f hf => by
  rw [g 1 (by decide) (by decide), g 2 (by decide) (by decide), g 3 (by decide) (by decide)]
  exact h f hf
theorem ft_pJ {M0 M : zM} {c k a : Nat} {v : Int64} (h : FTB M0 M) (M' : zM) (e : pJ c k M a v = some M') : FTB M0 M' := by
  obtain ⟨-, e⟩ := ox e
  cases e
  exact h
theorem ft_pD {M0 M : zM} {c k a : Nat} {v : UInt64} (h : FTB M0 M) (M' : zM) (e : pD c k M a v = some M') : FTB M0 M' := by
  obtain ⟨-, e⟩ := ox e
  cases e
  exact h
theorem ft_pR {M0 M : zM} {c k a : Nat} {v : Nat} (h : FTB M0 M) (M' : zM) (e : pR c k M a v = some M') : FTB M0 M' := by
  obtain ⟨-, e⟩ := ox e
  cases e
  exact h
theorem EK.fr {M M1 : zM} {cc : Nat} (h : EK cc M) (hX : 1046 ≤ mX M) (f : FQ M M1) (t : FTB M M1) : EK cc M1 := by
  obtain ⟨tb, e, c, r, b⟩ := h
  exact ⟨tb.ft t, e, c.eq fun k b hk hb => f.2 k b hk (Nat.lt_of_lt_of_le hb hX), r.eq fun k b hk hb => f.2 k b hk (Nat.lt_of_lt_of_le hb hX), b⟩
section JT
variable {n : Nat} {xs : Nat → Int32} {M M' : zM} {G G' Gc Gr : zG} {hp dl hp' dl' : Nat → Nat}
theorem CK.x46 (h : CK n xs M Gc Gr hp dl) : 1046 ≤ mX M := h.2.1.1.2.2.2.2.2.2.2
theorem CK.tab (h : CK n xs M Gc Gr hp dl) : ∀ b, 1 ≤ b → b ≤ 3 → mK M b = 200 ∧ mL M b = 5 := h.1.1.2.2.2.2.2.2.2.2
theorem FC.ft (h : CK n xs M Gc Gr hp dl) (f : FC M M') : FTB M M' := fun b h1 h2 => by
  have := h.x46
  exact (f.1.2 b (by omega) (fun z => by unfold own at z; omega)).2.2.2.2.2.1
theorem FN.ft (h : CK n xs M Gc Gr hp dl) (f : FN M M') : FTB M M' := fun b h1 h2 => by
  have := h.x46
  exact (f.1.1.2 b (by omega) (fun z => by unfold hi at z; omega)).2.2.2.2.2.1
theorem KF.fcT {α : Type} {x : Option (α × zM)} (k : KF (FC M) x) (h : CK n xs M Gc Gr hp dl) : KF (FTB M) x := k.mono fun _ f => FC.ft h f
theorem KF.fnT {α : Type} {x : Option (α × zM)} (k : KF (FN M) x) (h : CK n xs M Gc Gr hp dl) : KF (FTB M) x := k.mono fun _ f => FN.ft h f
theorem KF.fhT {α : Type} {x : Option (α × zM)} (k : KF (FH M) x) (h : CK n xs M Gc Gr hp dl) : KF (FTB M) x := k.mono fun _ f b h1 h2 => by
  have := h.x46
  have hk0 := (h.tab b h1 h2).1
  exact (f.1.2 b (by omega) (fun z => by
    have z' : hk (mK M b) = true := z
    rw [hk0] at z'
    cases z')).2.2.2.2.2.1
theorem SX9.mk {β : Type} {x : Option (Int32 × zM)} {y : zM → Option (β × zM)} {c s c' s' : Nat} (lx : LX n xs c s M G' G hp dl x) (ly : ∀ M1, CK n xs M1 G' G hp dl → LY n xs c' s' M1 G' G' (y M1)) (hx : WX G') (h9 : W9 G') (h7 : eS G' 7 ≤ eS G 7 + 1) (hc : c + c' ≤ 404) (hs : s + s' ≤ 1640) : SX9 n xs M G hp dl x y := by
  obtain ⟨v, M1, e1, k1, r1, r2⟩ := lx
  obtain ⟨hp2, dl2, w, M2, e2, k2, r3, r4⟩ := ly M1 k1
  exact ⟨v, M1, w, M2, G', hp2, dl2, e1, k1, e2, k2, ⟨hx, h9⟩, h7, by omega, by omega⟩
theorem SXN.of {β : Type} {cc : Nat} {x : Option (Int32 × zM)} {y : zM → Option (β × zM)} (h : CK n xs M G G hp dl) (s : SX9 n xs M G hp dl x y) (ke : EK cc M) (q1 : KF (FQ M) x) (t1 : KF (FTB M) x) (q2 : ∀ M1, KF (FQ M1) (y M1)) (t2 : ∀ M1 Gx, CK n xs M1 Gx G hp dl → KF (FTB M1) (y M1)) : SXN n xs cc M G x y := by
  obtain ⟨v, M1, w, M2, G2, hp2, dl2, e1, k1, e2, k2, ⟨x2, x9⟩, u⟩ := s
  exact ⟨v, M1, w, M2, G2, hp2, dl2, e1, k1.row, e2, k2, ⟨x2, x9, ((ke.fr h.x46 (q1 _ e1) (t1 _ e1)).fr k1.x46 (q2 M1 _ e2) (t2 M1 G2 k1 _ e2)).w⟩, u⟩
theorem u_pass (h : CK n xs M G G hp dl) (hx : WX G) (h9 : W9 G) (hr : eS G 7 < 2 ^ 20) : SX9 n xs M G hp dl (f_L_pass 1000 1045 M) (fun M1 => f_X7_pass 1026 M1) := by
  have hw := hx.f hr
  have kf := kc_X3_pass h.2.2.1.1 own1000 (FC.rf M)
  have kx := ke_X3_pass (L := ["java/lang/IllegalStateException"]) (fun E h => h) (a0 := 1000) (M := M)
  unfold f_L_pass f_L_pass_0
  rw [if_pos h.1.1.1]
  rcases q_pass (I := mI M) (J := mJ M) (A := mA M) h.1.1 h.1.2 hw with ⟨y, e⟩ | ⟨y, I', e, hc⟩
  · refine SX9.mk (LX.bd h kf e h.1.2 kx hh1) (fun M1 k1 => ?_) hx h9 (Nat.le_succ _) (c' := 0) (s' := 0) (by decide) (by decide)
    have r := r_pass (I := mI M1) (J := mJ M1) (A := mA M1) k1.2.1.1 k1.2.1.2 hw
    rw [if_neg y] at r
    exact LY.th k1 hw (kn_X7_pass k1.2.2.1.2.1 k1.fn) r 0 0
  · have hx' := hx.pass y
    have h9' : W9 (wS (wS G 5 ((eS G 5 + 1) % 4)) 4 0) := h9.of rfl rfl
    refine SX9.mk (LX.ok h kf e hc (fun w => w.toInt64)) (fun M1 k1 => ?_) hx' h9' (Nat.le_succ _) (c' := 0) (s' := 0) (by decide) (by decide)
    have r := r_pass (I := mI M1) (J := mJ M1) (A := mA M1) k1.2.1.1 k1.2.1.2 hw
    rw [if_pos y] at r
    obtain ⟨I2, r1, -, r2⟩ := r
    exact LY.rf k1 (hx'.f hr) (kn_X7_pass k1.2.2.1.2.1 k1.fn) r1 k1.2.1.1 r2 ⟨Nat.le_refl _, Nat.le_refl _⟩
theorem u_discard (h : CK n xs M G G hp dl) (hx : WX G) (h9 : W9 G) (hr : eS G 7 < 2 ^ 20) (i : Int32) : SX9 n xs M G hp dl (f_L_discard 1000 i 1045 M) (fun M1 => f_X7_discard 1026 i M1) := by
  have hw := hx.f hr
  have kf := kc_X3_discard h.2.2.1.1 own1000 (FC.rf M) (i1 := i)
  have kx := ke_X3_discard (L := ["java/lang/IllegalArgumentException", "java/lang/IllegalStateException"]) (fun E h => h) (a0 := 1000) (i1 := i) (M := M)
  have q := q_discard (I := mI M) (J := mJ M) (A := mA M) h.1.1 hw h.1.2 i
  unfold f_L_discard f_L_discard_0
  rw [if_pos h.1.1.1]
  by_cases y : oBad i
  · have eo : oDisc G i = some "java/lang/IllegalArgumentException" := if_pos y
    rw [eo] at q
    refine SX9.mk (LX.bd h kf q h.1.2 kx hh2') (fun M1 k1 => ?_) hx h9 (Nat.le_succ _) (c' := 0) (s' := 0) (by decide) (by decide)
    exact LY.th k1 hw (kn_X7_discard k1.2.2.1.2.1 k1.fn) (r_discard_bad (I := mI M1) (J := mJ M1) (A := mA M1) k1.2.1.1 y) 0 0
  · obtain ⟨c, hc25, rfl⟩ := oBad_no y
    have ecl : (nI c).toNatClampNeg = c := nI_cl (by omega)
    by_cases z : dOk G c
    · have eo : oDisc G (nI c) = none := by
        unfold oDisc
        rw [if_neg y, ecl]
        exact if_pos z
      rw [eo] at q
      obtain ⟨I', J', A', e, hc⟩ := q
      rw [ecl] at hc
      have hx' := hx.riv z.1 hc25 z.2.1
      have h9' : W9 (gRiv G c) := h9.of rfl rfl
      refine SX9.mk (LX.ok h kf e hc (fun w => w.toInt64)) (fun M1 k1 => ?_) hx' h9' (Nat.le_succ _) (c' := 1) (s' := 100) (by decide) (by decide)
      rcases r_discard (I := mI M1) (J := mJ M1) (A := mA M1) k1.2.1.1 k1.2.1.2 hw hx.2.2.2.2.2.2.2.1 hc25 with ⟨-, I2, J2, A2, M2, dl2, r1, r2, r3, -, r4⟩ | ⟨u, -⟩
      · exact LY.rf k1 (hx'.f hr) (kn_X7_discard k1.2.2.1.2.1 k1.fn) r1 r2 r3 r4
      · exact absurd z u
    · have eo : oDisc G (nI c) = some "java/lang/IllegalStateException" := by
        unfold oDisc
        rw [if_neg y, ecl]
        exact if_neg z
      rw [eo] at q
      refine SX9.mk (LX.bd h kf q h.1.2 kx hh2') (fun M1 k1 => ?_) hx h9 (Nat.le_succ _) (c' := 0) (s' := 0) (by decide) (by decide)
      rcases r_discard (I := mI M1) (J := mJ M1) (A := mA M1) k1.2.1.1 k1.2.1.2 hw hx.2.2.2.2.2.2.2.1 hc25 with ⟨u, -⟩ | ⟨-, r1⟩
      · exact absurd u z
      · exact LY.th k1 hw (kn_X7_discard k1.2.2.1.2.1 k1.fn) r1 0 0
theorem u_four (h : CK n xs M G G hp dl) (hx : WX G) (h9 : W9 G) (hr : eS G 7 < 2 ^ 20) (i : Int32) : SX9 n xs M G hp dl (f_L_four 1000 i 1045 M) (fun M1 => f_X7_four 1026 i M1) := by
  have hw := hx.f hr
  have kf := kc_X3_four h.2.2.1.1 own1000 (FC.rf M) (i1 := i)
  have kx := ke_X3_four (L := ["java/lang/IllegalArgumentException", "java/lang/IllegalStateException"]) (fun E h => h) (a0 := 1000) (i1 := i) (M := M)
  have q := q_four (I := mI M) (J := mJ M) (A := mA M) h.1.1 hw hx.z h.1.2 i
  unfold f_L_four f_L_four_0
  rw [if_pos h.1.1.1]
  by_cases y : oBad i
  · have eo : oFour G i = some "java/lang/IllegalArgumentException" := if_pos y
    rw [eo] at q
    refine SX9.mk (LX.bd h kf q h.1.2 kx hh2') (fun M1 k1 => ?_) hx h9 (Nat.le_succ _) (c' := 0) (s' := 0) (by decide) (by decide)
    exact LY.th k1 hw (kn_X7_four k1.2.2.1.2.1 k1.fn) (r_four_bad (I := mI M1) (J := mJ M1) (A := mA M1) k1.2.1.1 y) 0 0
  · obtain ⟨c, hc25, rfl⟩ := oBad_no y
    have ecl : (nI c).toNatClampNeg = c := nI_cl (by omega)
    by_cases z : fOk G c
    · have eo : oFour G (nI c) = none := by
        unfold oFour
        rw [if_neg y, ecl]
        exact if_pos z
      rw [eo] at q
      obtain ⟨I', J', A', e, hc⟩ := q
      rw [ecl] at hc
      have hx' := hx.four hc25 z
      have h9' : W9 (gDF (gSet G (eS G 5) 3 c)) := (h9.set (by decide) hc25 (fun z => absurd z (by decide))).df
      refine SX9.mk (LX.ok h kf e hc (fun w => w.toInt64)) (fun M1 k1 => ?_) hx' h9' (Nat.le_succ _) (c' := 2) (s' := 102) (by decide) (by decide)
      rcases r_four (I := mI M1) (J := mJ M1) (A := mA M1) k1.2.1.1 k1.2.1.2 hw hx.z hx.2.2.2.2.2.2.1 hc25 with ⟨-, I2, J2, A2, M2, dl2, r1, r2, r3, -, r4⟩ | ⟨u, -⟩
      · exact LY.rf k1 (hx'.f hr) (kn_X7_four k1.2.2.1.2.1 k1.fn) r1 r2 r3 r4
      · exact absurd z u
    · have eo : oFour G (nI c) = some "java/lang/IllegalStateException" := by
        unfold oFour
        rw [if_neg y, ecl]
        exact if_neg z
      rw [eo] at q
      refine SX9.mk (LX.bd h kf q h.1.2 kx hh2') (fun M1 k1 => ?_) hx h9 (Nat.le_succ _) (c' := 0) (s' := 0) (by decide) (by decide)
      rcases r_four (I := mI M1) (J := mJ M1) (A := mA M1) k1.2.1.1 k1.2.1.2 hw hx.z hx.2.2.2.2.2.2.1 hc25 with ⟨u, -⟩ | ⟨-, r1⟩
      · exact absurd u z
      · exact LY.th k1 hw (kn_X7_four k1.2.2.1.2.1 k1.fn) r1 0 0
theorem u_claim (h : CK n xs M G G hp dl) (hx : WX G) (h9 : W9 G) (hr : eS G 7 < 2 ^ 20) (i1 i2 i3 : Int32) : SX9 n xs M G hp dl (f_L_claim 1000 i1 i2 i3 1045 M) (fun M1 => f_X7_claim 1026 i1 i2 i3 M1) := by
  have hw := hx.f hr
  have hL := hx.2.2.2.2.2.1
  have kf := kc_X3_claim h.2.2.1.1 own1000 (FC.rf M) (i1 := i1) (i2 := i2) (i3 := i3)
  have kx := ke_X3_claim (L := ["java/lang/IllegalArgumentException", "java/lang/IllegalStateException", "java/lang/IndexOutOfBoundsException"]) (fun E h => h) (a0 := 1000) (i1 := i1) (i2 := i2) (i3 := i3) (M := M)
  have q := q_claim (I := mI M) (J := mJ M) (A := mA M) h.1.1 hw hL hx.t h.1.2 i1 i2 i3 (fun p w hp4 _ hm => (hx.may hp4 hm).2)
  unfold f_L_claim f_L_claim_0
  rw [if_pos h.1.1.1]
  by_cases y1 : i1 < 0 ∨ 4 ≤ i1.toNatClampNeg
  · have eo : oClaim G i1 i2 i3 = some "java/lang/IndexOutOfBoundsException" := if_pos y1
    rw [eo] at q
    refine SX9.mk (LX.bd h kf q h.1.2 kx hh3) (fun M1 k1 => ?_) hx h9 (Nat.le_succ _) (c' := 0) (s' := 0) (by decide) (by decide)
    exact LY.th k1 hw (kn_X7_claim k1.2.2.1.2.1 k1.fn) (r_claim_bad (I := mI M1) (J := mJ M1) (A := mA M1) k1.2.1.1 i2 i3 y1) 0 0
  · obtain ⟨p, hp4, rfl⟩ := cl_no y1
    have ep : (nI p).toNatClampNeg = p := nI_cl (by omega)
    by_cases y2 : i2 < 0 ∨ 3 ≤ i2.toNatClampNeg
    · have eo : oClaim G (nI p) i2 i3 = some "java/lang/IllegalArgumentException" := (if_neg y1).trans (if_pos y2)
      rw [eo] at q
      refine SX9.mk (LX.bd h kf q h.1.2 kx hh3) (fun M1 k1 => ?_) hx h9 (Nat.le_succ _) (c' := 0) (s' := 0) (by decide) (by decide)
      exact LY.th k1 hw (kn_X7_claim k1.2.2.1.2.1 k1.fn) (r_claim_bad2 (I := mI M1) (J := mJ M1) (A := mA M1) k1.2.1.1 hp4 i3 y2) 0 0
    · obtain ⟨w, hw3, rfl⟩ := cl_no y2
      have ew : (nI w).toNatClampNeg = w := nI_cl (by omega)
      have r := fun (M1 : zM) (k1 : ∃ Gc, CK n xs M1 Gc G hp dl) => r_claim (I := mI M1) (J := mJ M1) (A := mA M1) k1.choose_spec.2.1.1 k1.choose_spec.2.1.2 hw hx.2.2.2.2.2.2.1 hL hx.t hp4 (show w ≤ 2 by omega) i3 (fun hm => (hx.may hp4 hm).2)
      by_cases z : oMay G p w i3 = true
      · have eo : oClaim G (nI p) (nI w) i3 = none := by
          unfold oClaim
          rw [if_neg y1, if_neg y2, ep, ew, if_pos z]
        rw [eo] at q
        obtain ⟨I', A', e, hc⟩ := q
        rw [ep, ew] at hc
        have hx' := hx.clm hp4 (show w ≤ 2 by omega) z
        have h9' : W9 (gClm G p w i3) := h9.clm (show w ≤ 2 by omega) (hx.ls (hx.may hp4 z).1.1) z
        have e7 : eS (gClm G p w i3) 7 = eS G 7 := by
          unfold gClm
          split <;> rfl
        refine SX9.mk (LX.ok h kf e hc (fun w => w.toInt64)) (fun M1 k1 => ?_) hx' h9' (by rw [e7]; exact Nat.le_succ _) (c' := 2) (s' := 102) (by decide) (by decide)
        rcases r M1 ⟨_, k1⟩ with ⟨-, I2, J2, A2, M2, dl2, r1, r2, r3, -, r4⟩ | ⟨u, -⟩
        · exact LY.rf k1 (hx'.f (by rw [e7]; exact hr)) (kn_X7_claim k1.2.2.1.2.1 k1.fn) r1 r2 r3 r4
        · rw [z] at u
          cases u
      · have eo : oClaim G (nI p) (nI w) i3 = some "java/lang/IllegalStateException" := by
          unfold oClaim
          rw [if_neg y1, if_neg y2, ep, ew, if_neg z]
        rw [eo] at q
        refine SX9.mk (LX.bd h kf q h.1.2 kx hh3) (fun M1 k1 => ?_) hx h9 (Nat.le_succ _) (c' := 0) (s' := 0) (by decide) (by decide)
        rcases r M1 ⟨_, k1⟩ with ⟨u, -⟩ | ⟨-, r1⟩
        · exact absurd u z
        · exact LY.th k1 hw (kn_X7_claim k1.2.2.1.2.1 k1.fn) r1 0 0
theorem u_has (h : CK n xs M G G hp dl) (hx : WX G) (h9 : W9 G) (hr : eS G 7 < 2 ^ 20) (i1 i2 : Int32) : SX9 n xs M G hp dl (f_L_has 1000 i1 i2 1045 M) (fun M1 => f_X7_has 1026 i1 i2 M1) := by
  have hw := hx.f hr
  have hq := hx.q hr
  exact SX9.mk (l_has h hw i1 i2) (fun M1 k1 => (LX.rx k1 hw (kn_X7_has k1.2.2.1.2.1 k1.fn) (rx_has k1.2.1.1 k1.2.1.2 i1 i2)).y) hx h9 (Nat.le_succ _) (c' := 0) (s' := 0) (by decide) (by decide)
theorem u_ofPlayer (h : CK n xs M G G hp dl) (hx : WX G) (h9 : W9 G) (hr : eS G 7 < 2 ^ 20) (i1 i2 : Int32) : SX9 n xs M G hp dl (f_L_ofPlayer 1000 i1 i2 1045 M) (fun M1 => f_X7_ofPlayer 1026 i1 i2 M1) := by
  have hw := hx.f hr
  have hq := hx.q hr
  exact SX9.mk (l_ofPlayer h hw i1 i2) (fun M1 k1 => (LX.rx k1 hw (kn_X7_ofPlayer k1.2.2.1.2.1 k1.fn) (r_ofPlayer k1.2.1.1 k1.2.1.2 hq i1 i2)).y) hx h9 (Nat.le_succ _) (c' := 1) (s' := 4) (by decide) (by decide)
theorem u_ofSet (h : CK n xs M G G hp dl) (hx : WX G) (h9 : W9 G) (hr : eS G 7 < 2 ^ 20) (i1 i2 : Int32) : SX9 n xs M G hp dl (f_L_ofSet 1000 i1 i2 1045 M) (fun M1 => f_X7_ofSet 1026 i1 i2 M1) := by
  have hw := hx.f hr
  have hq := hx.q hr
  exact SX9.mk (l_ofSet h hw i1 i2) (fun M1 k1 => (LX.rx k1 hw (kn_X7_ofSet k1.2.2.1.2.1 k1.fn) (rx_ofSet k1.2.1.1 k1.2.1.2 hw hx.v i1 i2)).y) hx h9 (Nat.le_succ _) (c' := 0) (s' := 0) (by decide) (by decide)
theorem u_river (h : CK n xs M G G hp dl) (hx : WX G) (h9 : W9 G) (hr : eS G 7 < 2 ^ 20) (i1 i2 : Int32) : SX9 n xs M G hp dl (f_L_river 1000 i1 i2 1045 M) (fun M1 => f_X7_river 1026 i1 i2 M1) := by
  have hw := hx.f hr
  have hq := hx.q hr
  exact SX9.mk (l_river h hw i1 i2) (fun M1 k1 => (LX.rx k1 hw (kn_X7_river k1.2.2.1.2.1 k1.fn) (rx_river k1.2.1.1 k1.2.1.2 hw i1 i2)).y) hx h9 (Nat.le_succ _) (c' := 0) (s' := 0) (by decide) (by decide)
theorem u_waits (h : CK n xs M G G hp dl) (hx : WX G) (h9 : W9 G) (hr : eS G 7 < 2 ^ 20) (i1 : Int32) : SX9 n xs M G hp dl (f_L_waits 1000 i1 1045 M) (fun M1 => f_X7_waits 1026 i1 M1) := by
  have hw := hx.f hr
  have hq := hx.q hr
  exact SX9.mk (l_waits h hw i1) (fun M1 k1 => (LX.rx k1 hw (kn_X7_waits k1.2.2.1.2.1 k1.fn) (rx_waits k1.2.1.1 k1.2.1.2 hw i1)).y) hx h9 (Nat.le_succ _) (c' := 0) (s' := 0) (by decide) (by decide)
theorem u_seen (h : CK n xs M G G hp dl) (hx : WX G) (h9 : W9 G) (hr : eS G 7 < 2 ^ 20) (i1 : Int32) : SX9 n xs M G hp dl (f_L_seen 1000 i1 1045 M) (fun M1 => f_X7_seen 1026 i1 M1) := by
  have hw := hx.f hr
  have hq := hx.q hr
  exact SX9.mk (l_seen h hw i1) (fun M1 k1 => (LX.rx k1 hw (kn_X7_seen k1.2.2.1.2.1 k1.fn) (rx_seen k1.2.1.1 k1.2.1.2 hw hx.v i1)).y) hx h9 (Nat.le_succ _) (c' := 8) (s' := 32) (by decide) (by decide)
theorem u_many (h : CK n xs M G G hp dl) (hx : WX G) (h9 : W9 G) (hr : eS G 7 < 2 ^ 20) (i1 : Int32) : SX9 n xs M G hp dl (f_L_many 1000 i1 1045 M) (fun M1 => f_X7_many 1026 i1 M1) := by
  have hw := hx.f hr
  have hq := hx.q hr
  exact SX9.mk (l_many h hw i1) (fun M1 k1 => (LX.rx k1 hw (kn_X7_many k1.2.2.1.2.1 k1.fn) (r_many k1.2.1.1 k1.2.1.2 i1)).y) hx h9 (Nat.le_succ _) (c' := 1) (s' := 10) (by decide) (by decide)
theorem u_worth (h : CK n xs M G G hp dl) (hx : WX G) (h9 : W9 G) (hr : eS G 7 < 2 ^ 20) (i1 i2 : Int32) : SX9 n xs M G hp dl (f_L_worth 1000 i1 i2 1045 M) (fun M1 => f_X7_worth 1026 i1 i2 M1) := by
  have hw := hx.f hr
  have hq := hx.q hr
  exact SX9.mk (l_worth h hw i1 i2) (fun M1 k1 => (LX.rx k1 hw (kn_X7_worth k1.2.2.1.2.1 k1.fn) (r_worth k1.2.1.1 k1.2.1.2 hq i1 i2)).y) hx h9 (Nat.le_succ _) (c' := 29) (s' := 158) (by decide) (by decide)
theorem u_isSafe (h : CK n xs M G G hp dl) (hx : WX G) (h9 : W9 G) (hr : eS G 7 < 2 ^ 20) (i1 i2 : Int32) : SX9 n xs M G hp dl (f_L_isSafe 1000 i1 i2 1045 M) (fun M1 => f_X7_isSafe 1026 i1 i2 M1) := by
  have hw := hx.f hr
  have hq := hx.q hr
  exact SX9.mk (l_isSafe h hw i1 i2) (fun M1 k1 => (LX.rx k1 hw (kn_X7_isSafe k1.2.2.1.2.1 k1.fn) (rx_isSafe k1.2.1.1 k1.2.1.2 i1 i2)).y) hx h9 (Nat.le_succ _) (c' := 0) (s' := 0) (by decide) (by decide)
theorem u_outs (h : CK n xs M G G hp dl) (hx : WX G) (h9 : W9 G) (hr : eS G 7 < 2 ^ 20) (i1 : Int32) : SX9 n xs M G hp dl (f_L_outs 1000 i1 1045 M) (fun M1 => f_X7_outs 1026 i1 M1) := by
  have hw := hx.f hr
  have hq := hx.q hr
  exact SX9.mk (l_outs h hw i1) (fun M1 k1 => (LX.rx k1 hw (kn_X7_outs k1.2.2.1.2.1 k1.fn) (r_outs k1.2.1.1 k1.2.1.2 hq i1)).y) hx h9 (Nat.le_succ _) (c' := 400) (s' := 1600) (by decide) (by decide)
theorem u_hand (h : CK n xs M G G hp dl) (hx : WX G) (h9 : W9 G) (hr : eS G 7 < 2 ^ 20) (i1 : Int32) : SX9 n xs M G hp dl (f_L_hand 1000 i1 1045 M) (fun M1 => f_X7_hand 1026 i1 M1) := by
  have hw := hx.f hr
  have hq := hx.q hr
  exact SX9.mk (l_hand h hw hx.z i1) (fun M1 k1 => (LX.rx k1 hw (kn_X7_hand k1.2.2.1.2.1 k1.fn) (r_hand k1.2.1.1 k1.2.1.2 hw hx.z k1.2.2.1.2.2.2 i1)).y) hx h9 (Nat.le_succ _) (c' := 4) (s' := 40) (by decide) (by decide)
theorem u_lead (h : CK n xs M G G hp dl) (hx : WX G) (h9 : W9 G) (hr : eS G 7 < 2 ^ 20) (i1 : Int32) : SX9 n xs M G hp dl (f_L_lead 1000 i1 1045 M) (fun M1 => f_X7_lead 1026 i1 M1) := by
  have hw := hx.f hr
  have hq := hx.q hr
  exact SX9.mk (l_lead h i1) (fun M1 k1 => (LX.rx k1 hw (kn_X7_lead k1.2.2.1.2.1 k1.fn) (r_lead k1.2.1.1 k1.2.1.2 i1)).y) hx h9 (Nat.le_succ _) (c' := 0) (s' := 0) (by decide) (by decide)
theorem u_best (h : CK n xs M G G hp dl) (hx : WX G) (h9 : W9 G) (hr : eS G 7 < 2 ^ 20) : SX9 n xs M G hp dl (f_X3_best 1000 M) (fun M1 => f_X7_best 1026 M1) := by
  have hw := hx.f hr
  exact SX9.mk (l_best h hw) (fun M1 k1 => (LX.rx k1 hw (kn_X7_best k1.2.2.1.2.1 k1.fn) (r_best k1.2.1.1 k1.2.1.2 (hx.q hr))).y) hx h9 (Nat.le_succ _) (c' := 0) (s' := 0) (by decide) (by decide)
theorem kt_L_discard {i1 : Int32} (h : CK n xs M Gc Gr hp dl) : KF (FTB M) (f_L_discard 1000 i1 1045 M) := by
  unfold f_L_discard f_L_discard_0
  refine KF.i (KF.xc ((kc_X3_discard h.2.2.1.1 own1000 (FC.rf M)).fcT h) (fun E M1 h1 => ?_) (fun v M1 h1 => ?_)) KF.n
  · repeat' first | exact KF.n | exact KF.s h1 | refine KF.i ?_ ?_
  · exact KF.w (ft_pJ h1) fun M2 h2 => KF.s h2
theorem kt_L_claim {i1 i2 i3 : Int32} (h : CK n xs M Gc Gr hp dl) : KF (FTB M) (f_L_claim 1000 i1 i2 i3 1045 M) := by
  unfold f_L_claim f_L_claim_0
  refine KF.i (KF.xc ((kc_X3_claim h.2.2.1.1 own1000 (FC.rf M)).fcT h) (fun E M1 h1 => ?_) (fun v M1 h1 => ?_)) KF.n
  · repeat' first | exact KF.n | exact KF.s h1 | refine KF.i ?_ ?_
  · exact KF.w (ft_pJ h1) fun M2 h2 => KF.s h2
theorem kt_L_four {i1 : Int32} (h : CK n xs M Gc Gr hp dl) : KF (FTB M) (f_L_four 1000 i1 1045 M) := by
  unfold f_L_four f_L_four_0
  refine KF.i (KF.xc ((kc_X3_four h.2.2.1.1 own1000 (FC.rf M)).fcT h) (fun E M1 h1 => ?_) (fun v M1 h1 => ?_)) KF.n
  · repeat' first | exact KF.n | exact KF.s h1 | refine KF.i ?_ ?_
  · exact KF.w (ft_pJ h1) fun M2 h2 => KF.s h2
theorem kt_L_pass (h : CK n xs M Gc Gr hp dl) : KF (FTB M) (f_L_pass 1000 1045 M) := by
  unfold f_L_pass f_L_pass_0
  refine KF.i (KF.xc ((kc_X3_pass h.2.2.1.1 own1000 (FC.rf M)).fcT h) (fun E M1 h1 => ?_) (fun v M1 h1 => ?_)) KF.n
  · repeat' first | exact KF.n | exact KF.s h1 | refine KF.i ?_ ?_
  · exact KF.w (ft_pJ h1) fun M2 h2 => KF.s h2
theorem kt_L_has {i1 i2 : Int32} (h : CK n xs M Gc Gr hp dl) : KF (FTB M) (f_L_has 1000 i1 i2 1045 M) := by
  unfold f_L_has f_L_has_0
  refine KF.i (KF.xc ((kc_X3_has h.2.2.1.1 own1000 (FC.rf M)).fcT h) (fun E M1 h1 => ?_) (fun v M1 h1 => ?_)) KF.n
  · repeat' first | exact KF.n | exact KF.s h1 | refine KF.i ?_ ?_
  · exact KF.w (ft_pJ h1) fun M2 h2 => KF.s h2
theorem kt_L_ofPlayer {i1 i2 : Int32} (h : CK n xs M Gc Gr hp dl) : KF (FTB M) (f_L_ofPlayer 1000 i1 i2 1045 M) := by
  unfold f_L_ofPlayer f_L_ofPlayer_0
  refine KF.i (KF.xc ((kc_X3_ofPlayer h.2.2.1.1 own1000 (FC.rf M)).fcT h) (fun E M1 h1 => ?_) (fun v M1 h1 => ?_)) KF.n
  · repeat' first | exact KF.n | exact KF.s h1 | refine KF.i ?_ ?_
  · exact KF.w (ft_pJ h1) fun M2 h2 => KF.s h2
theorem kt_L_ofSet {i1 i2 : Int32} (h : CK n xs M Gc Gr hp dl) : KF (FTB M) (f_L_ofSet 1000 i1 i2 1045 M) := by
  unfold f_L_ofSet f_L_ofSet_0
  refine KF.i (KF.xc ((kc_X3_ofSet h.2.2.1.1 own1000 (FC.rf M)).fcT h) (fun E M1 h1 => ?_) (fun v M1 h1 => ?_)) KF.n
  · repeat' first | exact KF.n | exact KF.s h1 | refine KF.i ?_ ?_
  · exact KF.w (ft_pJ h1) fun M2 h2 => KF.s h2
theorem kt_L_river {i1 i2 : Int32} (h : CK n xs M Gc Gr hp dl) : KF (FTB M) (f_L_river 1000 i1 i2 1045 M) := by
  unfold f_L_river f_L_river_0
  refine KF.i (KF.xc ((kc_X3_river h.2.2.1.1 own1000 (FC.rf M)).fcT h) (fun E M1 h1 => ?_) (fun v M1 h1 => ?_)) KF.n
  · repeat' first | exact KF.n | exact KF.s h1 | refine KF.i ?_ ?_
  · exact KF.w (ft_pJ h1) fun M2 h2 => KF.s h2
theorem kt_L_waits {i1 : Int32} (h : CK n xs M Gc Gr hp dl) : KF (FTB M) (f_L_waits 1000 i1 1045 M) := by
  unfold f_L_waits f_L_waits_0
  refine KF.i (KF.xc ((kc_X3_waits h.2.2.1.1 own1000 (FC.rf M)).fcT h) (fun E M1 h1 => ?_) (fun v M1 h1 => ?_)) KF.n
  · repeat' first | exact KF.n | exact KF.s h1 | refine KF.i ?_ ?_
  · exact KF.w (ft_pJ h1) fun M2 h2 => KF.s h2
theorem kt_L_seen {i1 : Int32} (h : CK n xs M Gc Gr hp dl) : KF (FTB M) (f_L_seen 1000 i1 1045 M) := by
  unfold f_L_seen f_L_seen_0
  refine KF.i (KF.xc ((kc_X3_seen h.2.2.1.1 own1000 (FC.rf M)).fcT h) (fun E M1 h1 => ?_) (fun v M1 h1 => ?_)) KF.n
  · repeat' first | exact KF.n | exact KF.s h1 | refine KF.i ?_ ?_
  · exact KF.w (ft_pJ h1) fun M2 h2 => KF.s h2
theorem kt_L_hand {i1 : Int32} (h : CK n xs M Gc Gr hp dl) : KF (FTB M) (f_L_hand 1000 i1 1045 M) := by
  unfold f_L_hand f_L_hand_0
  refine KF.i (KF.xc ((kh_X3_hand (FH.rf M)).fhT h) (fun E M1 h1 => ?_) (fun v M1 h1 => ?_)) KF.n
  · repeat' first | exact KF.n | exact KF.s h1 | refine KF.i ?_ ?_
  · exact KF.w (ft_pR h1) fun M2 h2 => KF.s h2
theorem kt_L_many {i1 : Int32} (h : CK n xs M Gc Gr hp dl) : KF (FTB M) (f_L_many 1000 i1 1045 M) := by
  unfold f_L_many f_L_many_0
  refine KF.i (KF.xc ((kc_X3_many h.2.2.1.1 own1000 (FC.rf M)).fcT h) (fun E M1 h1 => ?_) (fun v M1 h1 => ?_)) KF.n
  · repeat' first | exact KF.n | exact KF.s h1 | refine KF.i ?_ ?_
  · exact KF.w (ft_pJ h1) fun M2 h2 => KF.s h2
theorem kt_L_lead {i1 : Int32} (h : CK n xs M Gc Gr hp dl) : KF (FTB M) (f_L_lead 1000 i1 1045 M) := by
  unfold f_L_lead f_L_lead_0
  refine KF.i (KF.xc ((kc_X3_lead h.2.2.1.1 own1000 (FC.rf M)).fcT h) (fun E M1 h1 => ?_) (fun v M1 h1 => ?_)) KF.n
  · repeat' first | exact KF.n | exact KF.s h1 | refine KF.i ?_ ?_
  · exact KF.w (ft_pD h1) fun M2 h2 => KF.s h2
theorem kt_L_worth {i1 i2 : Int32} (h : CK n xs M Gc Gr hp dl) : KF (FTB M) (f_L_worth 1000 i1 i2 1045 M) := by
  unfold f_L_worth f_L_worth_0
  refine KF.i (KF.xc ((kc_X3_worth h.2.2.1.1 own1000 (FC.rf M)).fcT h) (fun E M1 h1 => ?_) (fun v M1 h1 => ?_)) KF.n
  · repeat' first | exact KF.n | exact KF.s h1 | refine KF.i ?_ ?_
  · exact KF.w (ft_pJ h1) fun M2 h2 => KF.s h2
theorem kt_L_isSafe {i1 i2 : Int32} (h : CK n xs M Gc Gr hp dl) : KF (FTB M) (f_L_isSafe 1000 i1 i2 1045 M) := by
  unfold f_L_isSafe f_L_isSafe_0
  refine KF.i (KF.xc ((kc_X3_isSafe h.2.2.1.1 own1000 (FC.rf M)).fcT h) (fun E M1 h1 => ?_) (fun v M1 h1 => ?_)) KF.n
  · repeat' first | exact KF.n | exact KF.s h1 | refine KF.i ?_ ?_
  · unfold f_L_isSafe_15
    refine KF.i ?_ ?_
    · exact KF.w (ft_pJ h1) fun M2 h2 => KF.s h2
    · exact KF.w (ft_pJ h1) fun M2 h2 => KF.s h2
theorem kt_L_outs {i1 : Int32} (h : CK n xs M Gc Gr hp dl) : KF (FTB M) (f_L_outs 1000 i1 1045 M) := by
  unfold f_L_outs f_L_outs_0
  refine KF.i (KF.xc ((kc_X3_outs h.2.2.1.1 own1000 (FC.rf M)).fcT h) (fun E M1 h1 => ?_) (fun v M1 h1 => ?_)) KF.n
  · repeat' first | exact KF.n | exact KF.s h1 | refine KF.i ?_ ?_
  · exact KF.w (ft_pJ h1) fun M2 h2 => KF.s h2
theorem n_discard (h : CK n xs M G G hp dl) (hx : WX G) (h9 : W9 G) {cc : Nat} (ke : EK cc M) (hr : eS G 7 < 2 ^ 20) (i1 : Int32) : SXN n xs cc M G (f_L_discard 1000 i1 1045 M) (fun M1 => f_X7_discard 1026 i1 M1) :=
  SXN.of h (u_discard h hx h9 hr i1) ke (kq_L_discard (FQ.rf M)) (kt_L_discard h) (fun M1 => kq_X7_discard (FQ.rf M1)) fun M1 Gx k1 => (kn_X7_discard k1.2.2.1.2.1 k1.fn).fnT k1
theorem n_claim (h : CK n xs M G G hp dl) (hx : WX G) (h9 : W9 G) {cc : Nat} (ke : EK cc M) (hr : eS G 7 < 2 ^ 20) (i1 i2 i3 : Int32) : SXN n xs cc M G (f_L_claim 1000 i1 i2 i3 1045 M) (fun M1 => f_X7_claim 1026 i1 i2 i3 M1) :=
  SXN.of h (u_claim h hx h9 hr i1 i2 i3) ke (kq_L_claim (FQ.rf M)) (kt_L_claim h) (fun M1 => kq_X7_claim (FQ.rf M1)) fun M1 Gx k1 => (kn_X7_claim k1.2.2.1.2.1 k1.fn).fnT k1
theorem n_four (h : CK n xs M G G hp dl) (hx : WX G) (h9 : W9 G) {cc : Nat} (ke : EK cc M) (hr : eS G 7 < 2 ^ 20) (i1 : Int32) : SXN n xs cc M G (f_L_four 1000 i1 1045 M) (fun M1 => f_X7_four 1026 i1 M1) :=
  SXN.of h (u_four h hx h9 hr i1) ke (kq_L_four (FQ.rf M)) (kt_L_four h) (fun M1 => kq_X7_four (FQ.rf M1)) fun M1 Gx k1 => (kn_X7_four k1.2.2.1.2.1 k1.fn).fnT k1
theorem n_pass (h : CK n xs M G G hp dl) (hx : WX G) (h9 : W9 G) {cc : Nat} (ke : EK cc M) (hr : eS G 7 < 2 ^ 20) : SXN n xs cc M G (f_L_pass 1000 1045 M) (fun M1 => f_X7_pass 1026 M1) :=
  SXN.of h (u_pass h hx h9 hr) ke (kq_L_pass (FQ.rf M)) (kt_L_pass h) (fun M1 => kq_X7_pass (FQ.rf M1)) fun M1 Gx k1 => (kn_X7_pass k1.2.2.1.2.1 k1.fn).fnT k1
theorem n_has (h : CK n xs M G G hp dl) (hx : WX G) (h9 : W9 G) {cc : Nat} (ke : EK cc M) (hr : eS G 7 < 2 ^ 20) (i1 i2 : Int32) : SXN n xs cc M G (f_L_has 1000 i1 i2 1045 M) (fun M1 => f_X7_has 1026 i1 i2 M1) :=
  SXN.of h (u_has h hx h9 hr i1 i2) ke (kq_L_has (FQ.rf M)) (kt_L_has h) (fun M1 => kq_X7_has (FQ.rf M1)) fun M1 Gx k1 => (kn_X7_has k1.2.2.1.2.1 k1.fn).fnT k1
theorem n_ofPlayer (h : CK n xs M G G hp dl) (hx : WX G) (h9 : W9 G) {cc : Nat} (ke : EK cc M) (hr : eS G 7 < 2 ^ 20) (i1 i2 : Int32) : SXN n xs cc M G (f_L_ofPlayer 1000 i1 i2 1045 M) (fun M1 => f_X7_ofPlayer 1026 i1 i2 M1) :=
  SXN.of h (u_ofPlayer h hx h9 hr i1 i2) ke (kq_L_ofPlayer (FQ.rf M)) (kt_L_ofPlayer h) (fun M1 => kq_X7_ofPlayer (FQ.rf M1)) fun M1 Gx k1 => (kn_X7_ofPlayer k1.2.2.1.2.1 k1.fn).fnT k1
theorem n_ofSet (h : CK n xs M G G hp dl) (hx : WX G) (h9 : W9 G) {cc : Nat} (ke : EK cc M) (hr : eS G 7 < 2 ^ 20) (i1 i2 : Int32) : SXN n xs cc M G (f_L_ofSet 1000 i1 i2 1045 M) (fun M1 => f_X7_ofSet 1026 i1 i2 M1) :=
  SXN.of h (u_ofSet h hx h9 hr i1 i2) ke (kq_L_ofSet (FQ.rf M)) (kt_L_ofSet h) (fun M1 => kq_X7_ofSet (FQ.rf M1)) fun M1 Gx k1 => (kn_X7_ofSet k1.2.2.1.2.1 k1.fn).fnT k1
theorem n_river (h : CK n xs M G G hp dl) (hx : WX G) (h9 : W9 G) {cc : Nat} (ke : EK cc M) (hr : eS G 7 < 2 ^ 20) (i1 i2 : Int32) : SXN n xs cc M G (f_L_river 1000 i1 i2 1045 M) (fun M1 => f_X7_river 1026 i1 i2 M1) :=
  SXN.of h (u_river h hx h9 hr i1 i2) ke (kq_L_river (FQ.rf M)) (kt_L_river h) (fun M1 => kq_X7_river (FQ.rf M1)) fun M1 Gx k1 => (kn_X7_river k1.2.2.1.2.1 k1.fn).fnT k1
theorem n_waits (h : CK n xs M G G hp dl) (hx : WX G) (h9 : W9 G) {cc : Nat} (ke : EK cc M) (hr : eS G 7 < 2 ^ 20) (i1 : Int32) : SXN n xs cc M G (f_L_waits 1000 i1 1045 M) (fun M1 => f_X7_waits 1026 i1 M1) :=
  SXN.of h (u_waits h hx h9 hr i1) ke (kq_L_waits (FQ.rf M)) (kt_L_waits h) (fun M1 => kq_X7_waits (FQ.rf M1)) fun M1 Gx k1 => (kn_X7_waits k1.2.2.1.2.1 k1.fn).fnT k1
theorem n_seen (h : CK n xs M G G hp dl) (hx : WX G) (h9 : W9 G) {cc : Nat} (ke : EK cc M) (hr : eS G 7 < 2 ^ 20) (i1 : Int32) : SXN n xs cc M G (f_L_seen 1000 i1 1045 M) (fun M1 => f_X7_seen 1026 i1 M1) :=
  SXN.of h (u_seen h hx h9 hr i1) ke (kq_L_seen (FQ.rf M)) (kt_L_seen h) (fun M1 => kq_X7_seen (FQ.rf M1)) fun M1 Gx k1 => (kn_X7_seen k1.2.2.1.2.1 k1.fn).fnT k1
theorem n_hand (h : CK n xs M G G hp dl) (hx : WX G) (h9 : W9 G) {cc : Nat} (ke : EK cc M) (hr : eS G 7 < 2 ^ 20) (i1 : Int32) : SXN n xs cc M G (f_L_hand 1000 i1 1045 M) (fun M1 => f_X7_hand 1026 i1 M1) :=
  SXN.of h (u_hand h hx h9 hr i1) ke (kq_L_hand (FQ.rf M)) (kt_L_hand h) (fun M1 => kq_X7_hand (FQ.rf M1)) fun M1 Gx k1 => (kn_X7_hand k1.2.2.1.2.1 k1.fn).fnT k1
theorem n_many (h : CK n xs M G G hp dl) (hx : WX G) (h9 : W9 G) {cc : Nat} (ke : EK cc M) (hr : eS G 7 < 2 ^ 20) (i1 : Int32) : SXN n xs cc M G (f_L_many 1000 i1 1045 M) (fun M1 => f_X7_many 1026 i1 M1) :=
  SXN.of h (u_many h hx h9 hr i1) ke (kq_L_many (FQ.rf M)) (kt_L_many h) (fun M1 => kq_X7_many (FQ.rf M1)) fun M1 Gx k1 => (kn_X7_many k1.2.2.1.2.1 k1.fn).fnT k1
theorem n_lead (h : CK n xs M G G hp dl) (hx : WX G) (h9 : W9 G) {cc : Nat} (ke : EK cc M) (hr : eS G 7 < 2 ^ 20) (i1 : Int32) : SXN n xs cc M G (f_L_lead 1000 i1 1045 M) (fun M1 => f_X7_lead 1026 i1 M1) :=
  SXN.of h (u_lead h hx h9 hr i1) ke (kq_L_lead (FQ.rf M)) (kt_L_lead h) (fun M1 => kq_X7_lead (FQ.rf M1)) fun M1 Gx k1 => (kn_X7_lead k1.2.2.1.2.1 k1.fn).fnT k1
theorem n_worth (h : CK n xs M G G hp dl) (hx : WX G) (h9 : W9 G) {cc : Nat} (ke : EK cc M) (hr : eS G 7 < 2 ^ 20) (i1 i2 : Int32) : SXN n xs cc M G (f_L_worth 1000 i1 i2 1045 M) (fun M1 => f_X7_worth 1026 i1 i2 M1) :=
  SXN.of h (u_worth h hx h9 hr i1 i2) ke (kq_L_worth (FQ.rf M)) (kt_L_worth h) (fun M1 => kq_X7_worth (FQ.rf M1)) fun M1 Gx k1 => (kn_X7_worth k1.2.2.1.2.1 k1.fn).fnT k1
theorem n_isSafe (h : CK n xs M G G hp dl) (hx : WX G) (h9 : W9 G) {cc : Nat} (ke : EK cc M) (hr : eS G 7 < 2 ^ 20) (i1 i2 : Int32) : SXN n xs cc M G (f_L_isSafe 1000 i1 i2 1045 M) (fun M1 => f_X7_isSafe 1026 i1 i2 M1) :=
  SXN.of h (u_isSafe h hx h9 hr i1 i2) ke (kq_L_isSafe (FQ.rf M)) (kt_L_isSafe h) (fun M1 => kq_X7_isSafe (FQ.rf M1)) fun M1 Gx k1 => (kn_X7_isSafe k1.2.2.1.2.1 k1.fn).fnT k1
theorem n_outs (h : CK n xs M G G hp dl) (hx : WX G) (h9 : W9 G) {cc : Nat} (ke : EK cc M) (hr : eS G 7 < 2 ^ 20) (i1 : Int32) : SXN n xs cc M G (f_L_outs 1000 i1 1045 M) (fun M1 => f_X7_outs 1026 i1 M1) :=
  SXN.of h (u_outs h hx h9 hr i1) ke (kq_L_outs (FQ.rf M)) (kt_L_outs h) (fun M1 => kq_X7_outs (FQ.rf M1)) fun M1 Gx k1 => (kn_X7_outs k1.2.2.1.2.1 k1.fn).fnT k1
theorem n_best (h : CK n xs M G G hp dl) (hx : WX G) (h9 : W9 G) {cc : Nat} (ke : EK cc M) (hr : eS G 7 < 2 ^ 20) : SXN n xs cc M G (f_X3_best 1000 M) (fun M1 => f_X7_best 1026 M1) :=
  SXN.of h (u_best h hx h9 hr) ke (kq_X3_best (FQ.rf M)) ((kc_X3_best h.2.2.1.1 own1000 (FC.rf M)).fcT h) (fun M1 => kq_X7_best (FQ.rf M1)) fun M1 Gx k1 => (kn_X7_best k1.2.2.1.2.1 k1.fn).fnT k1
end JT
