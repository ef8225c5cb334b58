/-! ===== BOTH: the calls that only ask ===== -/
def LX {α : Type} (n : Nat) (xs : Nat → Int32) (c s : Nat) (M : zM) (Gc Gr : zG) (hp dl : Nat → Nat) (x : Option (α × zM)) : Prop := ∃ v M', x = some (v, M') ∧ CK n xs M' Gc Gr hp dl ∧ (mX M' ≤ mX M + c ∧ mS M' ≤ mS M + s)
theorem own1000 : own 1000 := ⟨by decide, by decide⟩
theorem hh1 {a : String} : ∀ (E : String) (M' : zM), E ∈ [a] → ∃ r : Int32, (if E = a then some ((1 : Int32), M') else none) = some (r, M') := fun E M' h => ⟨1, if_pos (List.mem_singleton.mp h)⟩
theorem hh2 {a b : String} : ∀ (E : String) (M' : zM), E ∈ [b, a] → ∃ r : Int32, (if E = a then some ((1 : Int32), M') else if E = b then some ((2 : Int32), M') else none) = some (r, M') := fun E M' h => by
  by_cases y : E = a
  · exact ⟨1, if_pos y⟩
  · rw [if_neg y]
    rcases List.mem_cons.mp h with z | z
    · exact ⟨2, if_pos z⟩
    · exact absurd (List.mem_singleton.mp z) y
section LCALLS
variable {n : Nat} {xs : Nat → Int32} {M M' : zM} {G G' Gc Gr : zG} {hp dl hp' dl' : Nat → Nat}
theorem LX.w {α : Type} {c s c' s' : Nat} {x : Option (α × zM)} (h : LX n xs c s M Gc Gr hp dl x) (hc : c ≤ c') (hs : s ≤ s') : LX n xs c' s' M Gc Gr hp dl x := by
  obtain ⟨v, M1, e, k, r1, r2⟩ := h
  exact ⟨v, M1, e, k, by omega, by omega⟩
theorem LX.wr (h : CK n xs M Gc Gr hp dl) (w : Int64) : LX n xs 0 0 M Gc Gr hp dl ((pJ 10 0 M 1045 w).bind fun M4 => some ((0 : Int32), M4)) := ⟨0, sJ M 320 1045 w, by rw [e_pJ 320 h.2.2.2.2]; rfl, h.sJ w, Nat.le_refl _, Nat.le_refl _⟩
theorem LX.of {α : Type} (h : CK n xs M G Gr hp dl) {x : Option ((String ⊕ α) × zM)} (kf : KF (FC M) x) (kp : KP (mI M) (mJ M) M G x) {L : List String} (kx : KX L x) {c : String → zM → Option (Int32 × zM)} {f : α → zM → Option (Int32 × zM)} (hc : ∀ E M', E ∈ L → ∃ r : Int32, c E M' = some (r, M')) (hf : ∀ v M', CK n xs M' G Gr hp dl → LX n xs 0 0 M' G Gr hp dl (f v M')) : LX n xs 1 6 M G Gr hp dl (xc x c f) := by
  rcases kp with ⟨v, A', e, hcr⟩ | ⟨E, A', e, hcr⟩
  · have fc : FC M (cs (mI M) (mJ M) A' M) := kf _ e
    have ck : CK n xs (cs (mI M) (mJ M) A' M) G Gr hp dl := h.c0 rfl rfl rfl rfl fc h.1.1 hcr
    subst e
    obtain ⟨w, M1, e1, k1, r1, r2⟩ := hf v _ ck
    exact ⟨w, M1, e1, k1, Nat.le_trans r1 (Nat.le_add_right _ _), Nat.le_trans r2 (Nat.le_add_right _ _)⟩
  · have fc : FC M (cs (mI M) (mJ M) A' (nE M)) := kf _ e
    have ck : CK n xs (cs (mI M) (mJ M) A' (nE M)) G Gr hp dl := h.c0 rfl rfl rfl rfl fc h.1.1 hcr
    obtain ⟨r, er⟩ := hc E (cs (mI M) (mJ M) A' (nE M)) (kx _ e E rfl)
    subst e
    exact ⟨r, _, er, ck, Nat.le_refl _, Nat.le_refl _⟩
theorem l_lead (h : CK n xs M G Gr hp dl) (i : Int32) : LX n xs 1 6 M G Gr hp dl (f_L_lead 1000 i 1045 M) := by
  unfold f_L_lead f_L_lead_0
  rw [if_pos h.1.1.1]
  have kf := kc_X3_lead h.2.2.1.1 own1000 (FC.rf M) (i1 := i)
  have kx := ke_X3_lead (L := ["java/lang/IndexOutOfBoundsException"]) (fun E h => h) (a0 := 1000) (i1 := i) (M := M)
  rcases q_lead (I := mI M) (J := mJ M) (A := mA M) h.1.1 i with ⟨v, e⟩ | ⟨E, e⟩
  · have e' : f_X3_lead 1000 i M = some (.inr v, M) := e
    rw [e']
    refine ⟨0, sD M 321 1045 v, ?_, h.sD v, Nat.le_add_right _ _, Nat.le_add_right _ _⟩
    have : pD 10 1 M 1045 v = some (sD M 321 1045 v) := if_pos h.2.2.2.2
    show (pD 10 1 M 1045 v).bind _ = _
    rw [this]
    rfl
  · have e' : f_X3_lead 1000 i M = some (.inl E, nE M) := e
    have ck : CK n xs (nE M) G Gr hp dl := h.c0 rfl rfl rfl rfl (kf _ e') h.1.1 h.1.2
    obtain ⟨r, er⟩ := hh1 E (nE M) (kx _ e' E rfl)
    rw [e']
    exact ⟨r, nE M, er, ck, Nat.le_refl _, Nat.le_refl _⟩
theorem l_hand (h : CK n xs M G Gr hp dl) (hw : WF G) (hz : WZ G) (i : Int32) : LX n xs 4 40 M G Gr hp dl (f_L_hand 1000 i 1045 M) := by
  unfold f_L_hand f_L_hand_0
  rw [if_pos h.1.1.1]
  have hX := h.2.1.1.2.2.2.2.2.2.2
  have kx := ke_X3_hand (L := ["java/lang/IndexOutOfBoundsException"]) (fun E h => h) (a0 := 1000) (i1 := i) (M := M)
  rcases q_hand h.1.1 hw hz h.1.2 h.2.2.1.2.2.2 (by omega) i with ⟨v, M1, e, k⟩ | ⟨E, e⟩
  · have fg : FG M M1 := (kg_X3_hand (M0 := M) (a0 := 1000) (i1 := i) (M := M) (fun q a v _ z => z)) _ e
    have ck := h.km hw k fg
    rw [e]
    refine ⟨0, sR M1 322 1045 (some v), ?_, ck.sR _, k.1.2.1, k.1.2.2⟩
    show (pR 10 2 M1 1045 v).bind _ = _
    rw [e_pR 322 ck.2.2.2.2]
    rfl
  · have fc : FC M (nE M) := ⟨(FX.rf _ M).nE, fun _ _ => ⟨fun _ => rfl, rfl⟩⟩
    have ck : CK n xs (nE M) G Gr hp dl := h.c0 rfl rfl rfl rfl fc h.1.1 h.1.2
    obtain ⟨r, er⟩ := hh1 E (nE M) (kx _ e E rfl)
    rw [e]
    exact ⟨r, nE M, er, ck, Nat.add_le_add_left (by decide) _, Nat.add_le_add_left (by decide) _⟩
theorem l_best (h : CK n xs M G Gr hp dl) (hw : WF G) : LX n xs 0 0 M G Gr hp dl (f_X3_best 1000 M) := by
  obtain ⟨z, A', e, hc⟩ := q_best (I := mI M) (J := mJ M) (A := mA M) (fun _ => h.1.1.2.2.2.2.2.2.2.2) h.1.1 hw h.1.2
  have fc : FC M (cs (mI M) (mJ M) A' M) := (kc_X3_best h.2.2.1.1 own1000 (FC.rf M)) _ e
  exact ⟨z, _, e, h.c0 rfl rfl rfl rfl fc h.1.1 hc, Nat.le_refl _, Nat.le_refl _⟩
theorem l_digest (h : CK n xs M G Gr hp dl) (hw : WF G) : ∃ v M', f_X3_digest 1000 M = some (.inr v, M') ∧ CK n xs M' G Gr hp dl ∧ (mX M' ≤ mX M ∧ mS M' ≤ mS M) := by
  rcases q_digest (I := mI M) (J := mJ M) (A := mA M) (fun _ => h.1.1.2.2.2.2.2.2.2.2) h.1.1 hw h.1.2 with ⟨v, A', e, hc⟩ | ⟨E, A', e, hc⟩
  · have fc : FC M (cs (mI M) (mJ M) A' M) := (kc_X3_digest h.2.2.1.1 own1000 (FC.rf M)) _ e
    exact ⟨v, _, e, h.c0 rfl rfl rfl rfl fc h.1.1 hc, Nat.le_refl _, Nat.le_refl _⟩
  · exact absurd (kx_digest _ e E rfl) List.not_mem_nil
/-- the reference asked -/
theorem LX.rx {α : Type} {c s : Nat} (h : CK n xs M Gc Gr hp dl) (hw : WF Gc) {x : Option (α × zM)} (kn : KF (FN M) x) (rx : RX c s M Gr hp dl x) : LX n xs c s M Gc Gr hp dl x := by
  obtain ⟨v, M1, e, r1, r2, r3⟩ := rx
  exact ⟨v, M1, e, h.ref hw (kn _ e) r1 r2, r3⟩
theorem CK.fn (h : CK n xs M Gc Gr hp dl) : FN M M := ⟨⟨FX.rf _ M, h.2.2.1.2.2.1⟩, fun _ _ => rfl, fun _ => rfl⟩
theorem rb0 (h : RS M hp dl) {I' : Nat → Nat → Int32} {A' : Nat → Nat → Int32} (f : RN I' (mJ M) A' M G hp dl) : RB 0 0 M (cs I' (mJ M) A' M) G hp dl := ⟨h, f, Nat.le_refl _, Nat.le_refl _⟩
theorem rx_has (h : RS M hp dl) (hn : RN (mI M) (mJ M) (mA M) M G hp dl) (i1 i2 : Int32) : RX 0 0 M G hp dl (f_X7_has 1026 i1 i2 M) := by
  by_cases y : pBad i1
  · exact ⟨_, _, r_has_bad (I := mI M) (J := mJ M) (A := mA M) h i2 y, rb0 h (hn.th 1)⟩
  · obtain ⟨p, hp4, rfl⟩ := pBad_no y
    by_cases z : oBad i2
    · exact ⟨_, _, r_has_bad2 (I := mI M) (J := mJ M) (A := mA M) h hp4 z, rb0 h (hn.th 2)⟩
    · obtain ⟨k, hk, rfl⟩ := oBad_no z
      exact ⟨_, _, r_has h hn hp4 hk, rb0 h (hn.th 0)⟩
theorem rx_isSafe (h : RS M hp dl) (hn : RN (mI M) (mJ M) (mA M) M G hp dl) (i1 i2 : Int32) : RX 0 0 M G hp dl (f_X7_isSafe 1026 i1 i2 M) := by
  by_cases y : pBad i1
  · exact ⟨_, _, r_isSafe_bad (I := mI M) (J := mJ M) (A := mA M) h i2 y, rb0 h (hn.th 1)⟩
  · obtain ⟨p, hp4, rfl⟩ := pBad_no y
    by_cases z : oBad i2
    · exact ⟨_, _, r_isSafe_bad2 (I := mI M) (J := mJ M) (A := mA M) h hp4 z, rb0 h (hn.th 2)⟩
    · obtain ⟨k, hk, rfl⟩ := oBad_no z
      exact ⟨_, _, r_isSafe h hn hp4 hk, rb0 h (hn.th 0)⟩
theorem rx_waits (h : RS M hp dl) (hn : RN (mI M) (mJ M) (mA M) M G hp dl) (hw : WF G) (i1 : Int32) : RX 0 0 M G hp dl (f_X7_waits 1026 i1 M) := by
  by_cases y : pBad i1
  · exact ⟨_, _, r_waits_bad (I := mI M) (J := mJ M) (A := mA M) h y, rb0 h (hn.th 1)⟩
  · obtain ⟨p, hp4, rfl⟩ := pBad_no y
    obtain ⟨A', e, f⟩ := r_waitsA (I := mI M) (J := mJ M) (A := mA M) h hn hw hp4
    exact ⟨_, _, e, rb0 h f⟩
theorem rx_ofSet (h : RS M hp dl) (hn : RN (mI M) (mJ M) (mA M) M G hp dl) (hw : WF G) (hv : WV G) (i1 i2 : Int32) : RX 0 0 M G hp dl (f_X7_ofSet 1026 i1 i2 M) := by
  by_cases y : pBad i1
  · exact ⟨_, _, r_ofSet_bad (I := mI M) (J := mJ M) (A := mA M) h i2 y, rb0 h (hn.th 1)⟩
  · obtain ⟨p, hp4, rfl⟩ := pBad_no y
    rcases r_ofSet (I := mI M) (J := mJ M) (A := mA M) h hn hw hv hp4 i2 with ⟨j, -, -, e⟩ | ⟨-, e⟩
    · exact ⟨_, _, e, rb0 h (hn.th 0)⟩
    · exact ⟨_, _, e, rb0 h (hn.th 1)⟩
theorem rx_river (h : RS M hp dl) (hn : RN (mI M) (mJ M) (mA M) M G hp dl) (hw : WF G) (i1 i2 : Int32) : RX 0 0 M G hp dl (f_X7_river 1026 i1 i2 M) := by
  by_cases y : pBad i1
  · exact ⟨_, _, r_river_bad (I := mI M) (J := mJ M) (A := mA M) h i2 y, rb0 h (hn.th 1)⟩
  · obtain ⟨p, hp4, rfl⟩ := pBad_no y
    rcases r_river (I := mI M) (J := mJ M) (A := mA M) h hn hw hp4 i2 with ⟨j, -, -, e⟩ | ⟨-, e⟩
    · exact ⟨_, _, e, rb0 h (hn.th 0)⟩
    · exact ⟨_, _, e, rb0 h (hn.th 1)⟩
theorem rx_seen (h : RS M hp dl) (hn : RN (mI M) (mJ M) (mA M) M G hp dl) (hw : WF G) (hv : WV G) (i : Int32) : RX 8 32 M G hp dl (f_X7_seen 1026 i M) := by
  by_cases y : oBad i
  · exact ⟨_, _, r_seen_bad (I := mI M) (J := mJ M) (A := mA M) h y, (rb0 h (hn.th 1)).w (by decide) (by decide)⟩
  · obtain ⟨k, hk, rfl⟩ := oBad_no y
    obtain ⟨M1, e, km⟩ := r_seen (I := mI M) (J := mJ M) (A := mA M) h hn hw hv hk
    have hb := rb0 h (hn.th 0)
    exact ⟨_, _, e, (hb.tr (RB.km hb.1 hb.2.1 km)).w (by decide) (by decide)⟩
theorem l_has (h : CK n xs M G Gr hp dl) (hw : WF G) (i1 i2 : Int32) : LX n xs 1 6 M G Gr hp dl (f_L_has 1000 i1 i2 1045 M) := by
  have hA : AT (mA M) M := h.1.1.2.2.2.2.2.2.2.2
  unfold f_L_has f_L_has_0
  rw [if_pos h.1.1.1]
  exact LX.of h (kc_X3_has h.2.2.1.1 own1000 (FC.rf M)) (q_has h.1.1 h.1.2 i1 i2) (ke_X3_has (fun E h => h)) hh2 (fun v M1 k => LX.wr k _)
theorem l_ofPlayer (h : CK n xs M G Gr hp dl) (hw : WF G) (i1 i2 : Int32) : LX n xs 1 6 M G Gr hp dl (f_L_ofPlayer 1000 i1 i2 1045 M) := by
  have hA : AT (mA M) M := h.1.1.2.2.2.2.2.2.2.2
  unfold f_L_ofPlayer f_L_ofPlayer_0
  rw [if_pos h.1.1.1]
  exact LX.of h (kc_X3_ofPlayer h.2.2.1.1 own1000 (FC.rf M)) (q_ofPlayer hA h.1.1 hw h.1.2 i1 i2) (ke_X3_ofPlayer (fun E h => h)) hh2 (fun v M1 k => LX.wr k _)
theorem l_ofSet (h : CK n xs M G Gr hp dl) (hw : WF G) (i1 i2 : Int32) : LX n xs 1 6 M G Gr hp dl (f_L_ofSet 1000 i1 i2 1045 M) := by
  have hA : AT (mA M) M := h.1.1.2.2.2.2.2.2.2.2
  unfold f_L_ofSet f_L_ofSet_0
  rw [if_pos h.1.1.1]
  exact LX.of h (kc_X3_ofSet h.2.2.1.1 own1000 (FC.rf M)) (q_ofSet h.1.1 h.1.2 i1 i2) (ke_X3_ofSet (fun E h => h)) hh1 (fun v M1 k => LX.wr k _)
theorem l_river (h : CK n xs M G Gr hp dl) (hw : WF G) (i1 i2 : Int32) : LX n xs 1 6 M G Gr hp dl (f_L_river 1000 i1 i2 1045 M) := by
  have hA : AT (mA M) M := h.1.1.2.2.2.2.2.2.2.2
  unfold f_L_river f_L_river_0
  rw [if_pos h.1.1.1]
  exact LX.of h (kc_X3_river h.2.2.1.1 own1000 (FC.rf M)) (q_river h.1.1 h.1.2 i1 i2) (ke_X3_river (fun E h => h)) hh1 (fun v M1 k => LX.wr k _)
theorem l_waits (h : CK n xs M G Gr hp dl) (hw : WF G) (i1 : Int32) : LX n xs 1 6 M G Gr hp dl (f_L_waits 1000 i1 1045 M) := by
  have hA : AT (mA M) M := h.1.1.2.2.2.2.2.2.2.2
  unfold f_L_waits f_L_waits_0
  rw [if_pos h.1.1.1]
  exact LX.of h (kc_X3_waits h.2.2.1.1 own1000 (FC.rf M)) (q_waits h.1.1 hw h.1.2 i1) (ke_X3_waits (fun E h => h)) hh1 (fun v M1 k => LX.wr k _)
theorem l_seen (h : CK n xs M G Gr hp dl) (hw : WF G) (i1 : Int32) : LX n xs 1 6 M G Gr hp dl (f_L_seen 1000 i1 1045 M) := by
  have hA : AT (mA M) M := h.1.1.2.2.2.2.2.2.2.2
  unfold f_L_seen f_L_seen_0
  rw [if_pos h.1.1.1]
  exact LX.of h (kc_X3_seen h.2.2.1.1 own1000 (FC.rf M)) (q_seen h.1.1 hw h.1.2 i1) (ke_X3_seen (fun E h => h)) hh1 (fun v M1 k => LX.wr k _)
theorem l_many (h : CK n xs M G Gr hp dl) (hw : WF G) (i1 : Int32) : LX n xs 1 6 M G Gr hp dl (f_L_many 1000 i1 1045 M) := by
  have hA : AT (mA M) M := h.1.1.2.2.2.2.2.2.2.2
  unfold f_L_many f_L_many_0
  rw [if_pos h.1.1.1]
  exact LX.of h (kc_X3_many h.2.2.1.1 own1000 (FC.rf M)) (q_many h.1.1 hw h.1.2 i1) (ke_X3_many (fun E h => h)) hh1 (fun v M1 k => LX.wr k _)
theorem l_worth (h : CK n xs M G Gr hp dl) (hw : WF G) (i1 i2 : Int32) : LX n xs 1 6 M G Gr hp dl (f_L_worth 1000 i1 i2 1045 M) := by
  have hA : AT (mA M) M := h.1.1.2.2.2.2.2.2.2.2
  unfold f_L_worth f_L_worth_0
  rw [if_pos h.1.1.1]
  exact LX.of h (kc_X3_worth h.2.2.1.1 own1000 (FC.rf M)) (q_worth h.1.1 hw h.1.2 i1 i2) (ke_X3_worth (fun E h => h)) hh2 (fun v M1 k => LX.wr k _)
theorem l_isSafe (h : CK n xs M G Gr hp dl) (hw : WF G) (i1 i2 : Int32) : LX n xs 1 6 M G Gr hp dl (f_L_isSafe 1000 i1 i2 1045 M) := by
  have hA : AT (mA M) M := h.1.1.2.2.2.2.2.2.2.2
  unfold f_L_isSafe f_L_isSafe_0
  rw [if_pos h.1.1.1]
  exact LX.of h (kc_X3_isSafe h.2.2.1.1 own1000 (FC.rf M)) (q_isSafe h.1.1 h.1.2 i1 i2) (ke_X3_isSafe (fun E h => h)) hh2 (fun v M1 k => by
    unfold f_L_isSafe_15
    split
    · exact LX.wr k _
    · exact LX.wr k _)
theorem l_outs (h : CK n xs M G Gr hp dl) (hw : WF G) (i1 : Int32) : LX n xs 1 6 M G Gr hp dl (f_L_outs 1000 i1 1045 M) := by
  have hA : AT (mA M) M := h.1.1.2.2.2.2.2.2.2.2
  unfold f_L_outs f_L_outs_0
  rw [if_pos h.1.1.1]
  exact LX.of h (kc_X3_outs h.2.2.1.1 own1000 (FC.rf M)) (q_outs (fun _ => hA) h.1.1 hw h.1.2 i1) (kx_outs) hh1 (fun v M1 k => LX.wr k _)
end LCALLS
