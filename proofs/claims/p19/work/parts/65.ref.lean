/-! ===== PURE, THE REFERENCE: what is asked ===== -/
/-- it comes to an answer, what is thrown apart all is as it was, but for some cells more -/
def RQ {α : Type} (c s : Nat) (I : Nat → Nat → Int32) (J : Nat → Nat → Int64) (A : Nat → Nat → Int32) (M : zM) (x : Option (α × zM)) : Prop := ∃ v w M', x = some (v, M') ∧ KM c s (cs (th w I) J A M) M'
theorem RQ.of {α : Type} {I : Nat → Nat → Int32} {J : Nat → Nat → Int64} {A : Nat → Nat → Int32} {M : zM} {x : Option (α × zM)} {v : α} (w : Int32) (e : x = some (v, cs (th w I) J A M)) : RQ 0 0 I J A M x := ⟨v, w, _, e, KM.rf _⟩
theorem RQ.w {α : Type} {c s c' s' : Nat} {I : Nat → Nat → Int32} {J : Nat → Nat → Int64} {A : Nat → Nat → Int32} {M : zM} {x : Option (α × zM)} (h : RQ c s I J A M x) (hc : c ≤ c') (hs : s ≤ s') : RQ c' s' I J A M x := by
  obtain ⟨v, w, M', e, k⟩ := h
  exact ⟨v, w, M', e, k.w hc hs⟩
section RASK
variable {I : Nat → Nat → Int32} {J : Nat → Nat → Int64} {A : Nat → Nat → Int32} {M : zM} {G : zG} {hp dl : Nat → Nat}
theorem s10 (h : RS M hp dl) : f_X7_start 1026 0 1 (cs I J A M) = some (0, cs (th 0 I) J A M) := r_start (I := I) (J := J) (A := A) h false 1 (by decide) (by decide)
theorem s11 (h : RS M hp dl) : f_X7_start 1026 1 1 (cs I J A M) = some (1, cs (th 1 I) J A M) := r_start (I := I) (J := J) (A := A) h true 1 (by decide) (by decide)
theorem f20 (h : RS M hp dl) : f_X7_refuse 1026 0 2 (cs (th 0 I) J A M) = some (0, cs (th 0 I) J A M) := r_refuse (I := I) (J := J) (A := A) h false 2 (by decide) (by decide)
theorem f21 (h : RS M hp dl) : f_X7_refuse 1026 1 2 (cs (th 0 I) J A M) = some (1, cs (th 2 I) J A M) := r_refuse (I := I) (J := J) (A := A) h true 2 (by decide) (by decide)
/-- no player -/
abbrev pBad (i : Int32) : Prop := i < 0 ∨ 4 ≤ i.toNatClampNeg
theorem pBad_no {i : Int32} (h : ¬ pBad i) : ∃ p, p < 4 ∧ i = nI p := by
  rcases nI_all i with z | ⟨n, z1, z2⟩
  · exact absurd (Or.inl z) h
  · refine ⟨n, Nat.lt_of_not_le fun q => h (Or.inr ?_), z2⟩
    rw [z2, nI_cl z1]
    exact q
theorem r_has_bad (h : RS M hp dl) {i1 : Int32} (i2 : Int32) (y : pBad i1) : f_X7_has 1026 i1 i2 (cs I J A M) = some (0, cs (th 1 I) J A M) := by
  unfold f_X7_has f_X7_has_0
  rw [r_noPl_bad y, Option.bind_some]
  dsimp only
  rw [if_pos (show mK (cs I J A M) 1026 = 13 from h.1.1), s11 h, Option.bind_some]
  dsimp only
  rw [if_neg (show ¬ (1 : Int32) = 0 by decide)]
theorem r_has_bad2 (h : RS M hp dl) {p : Nat} (hp4 : p < 4) {i2 : Int32} (y : oBad i2) : f_X7_has 1026 (nI p) i2 (cs I J A M) = some (0, cs (th 2 I) J A M) := by
  unfold f_X7_has f_X7_has_0
  rw [r_noPl_ok hp4, Option.bind_some]
  dsimp only
  rw [if_pos (show mK (cs I J A M) 1026 = 13 from h.1.1), s10 h, Option.bind_some]
  dsimp only
  rw [if_pos rfl, r_kind_bad y, Option.bind_some]
  dsimp only
  rw [if_pos rfl]
  unfold f_X7_has_25
  rw [if_pos (show mK (cs (th 0 I) J A M) 1026 = 13 from h.1.1), f21 h, Option.bind_some]
  dsimp only
  rw [if_neg (show ¬ (1 : Int32) = 0 by decide)]
theorem r_has (h : RS M hp dl) (hn : RN I J A M G hp dl) {p k : Nat} (hp4 : p < 4) (hk : k < 25) : f_X7_has 1026 (nI p) (nI k) (cs I J A M) = some (nI (eH G p k), cs (th 0 I) J A M) := by
  have hs := h.2.1 p hp4
  have hh := h.2.2.1 p hp4
  unfold f_X7_has f_X7_has_0
  rw [r_noPl_ok hp4, Option.bind_some]
  dsimp only
  rw [if_pos (show mK (cs I J A M) 1026 = 13 from h.1.1), s10 h, Option.bind_some]
  dsimp only
  rw [if_pos rfl, r_kind_ok hk, Option.bind_some]
  dsimp only
  rw [if_neg (show ¬ (1 : Int32) = 0 by decide)]
  unfold f_X7_has_25
  rw [if_pos (show mK (cs (th 0 I) J A M) 1026 = 13 from h.1.1), f20 h, Option.bind_some]
  dsimp only
  rw [if_pos rfl, gR_cs 417 h.1.1 h.1.2.1, Option.bind_some, h.pl hp4, Option.bind_some, gR_cs 386 hs.1 hs.2.1, Option.bind_some, lA_cs hh.1 (by rw [hh.2.1]; exact hk) (by rw [hh.2.1]; decide), Option.bind_some, (hn.2.1 p hp4).1 k hk]
theorem r_waits_bad (h : RS M hp dl) {i1 : Int32} (y : pBad i1) : f_X7_waits 1026 i1 (cs I J A M) = some (0, cs (th 1 I) J A M) := by
  unfold f_X7_waits f_X7_waits_0
  rw [r_noPl_bad y, Option.bind_some]
  dsimp only
  rw [if_pos (show mK (cs I J A M) 1026 = 13 from h.1.1), s11 h, Option.bind_some]
  dsimp only
  rw [if_neg (show ¬ (1 : Int32) = 0 by decide)]
theorem r_waitsA (h : RS M hp dl) (hn : RN I J A M G hp dl) (hw : WF G) {p : Nat} (hp4 : p < 4) : ∃ A', f_X7_waits 1026 (nI p) (cs I J A M) = some (gW G p, cs (th 0 I) J A' M) ∧ RN (th 0 I) J A' M G hp dl := by
  have hs := h.2.1 p hp4
  obtain ⟨A', e, f⟩ := r_waitsG (I := th 0 I) h (hn.th 0) hw hp4
  refine ⟨A', ?_, f⟩
  unfold f_X7_waits f_X7_waits_0
  rw [r_noPl_ok hp4, Option.bind_some]
  dsimp only
  rw [if_pos (show mK (cs I J A M) 1026 = 13 from h.1.1), s10 h, Option.bind_some]
  dsimp only
  rw [if_pos rfl, gR_cs 417 h.1.1 h.1.2.1, Option.bind_some, h.pl hp4, Option.bind_some, if_pos (show mK (cs (th 0 I) J A M) (1028 + 4 * p) = 12 from hs.1), e, Option.bind_some]
/-- whether a discard of a kind is safe against those from i on -/
def sfN (G : zG) (p k : Nat) : Nat → Nat → Bool
  | 0, _ => true
  | d + 1, i => if i = p then sfN G p k d (i + 1) else if eC G i = false then sfN G p k d (i + 1) else if (eD G i >>> ((nI k).toInt64 &&& 63)) &&& 1 = 0 then false else sfN G p k d (i + 1)
theorem r_isSafe_36 (h : RS M hp dl) (hn : RN I J A M G hp dl) {p k : Nat} (hp4 : p < 4) : ∀ (d n i : Nat), i + d = 4 → d < n → f_X7_isSafe_36 n 1026 (nI p) (nI k) (nI i) (cs I J A M) = some (b32 (sfN G p k d i), cs I J A M) := by
  intro d
  induction d with
  | zero =>
    intro n i hi hn'
    obtain ⟨n, rfl⟩ : ∃ m, n = m + 1 := ⟨n - 1, by omega⟩
    rw [f_X7_isSafe_36, if_pos (le_t (x := 4) 4 i (by omega) (by omega))]
    rfl
  | succ d ih =>
    intro n i hi hn'
    obtain ⟨n, rfl⟩ : ∃ m, n = m + 1 := ⟨n - 1, by omega⟩
    have hi4 : i < 4 := by omega
    have hs := h.2.1 i hi4
    obtain ⟨-, -, -, n4, n5⟩ := hn.2.1 i hi4
    have e := ih n (i + 1) (by omega) (by omega)
    rw [f_X7_isSafe_36, if_neg (le_f (x := 4) 4 i (by omega) (by decide)), nI_1, sfN]
    by_cases y : i = p
    · rw [if_pos (congrArg nI y), if_pos y]
      exact e
    · rw [if_neg (eq_f i p y (by omega) (by omega)), if_neg y, gR_cs 417 h.1.1 h.1.2.1, Option.bind_some, h.pl hi4, Option.bind_some, gI_cs 390 hs.1, Option.bind_some, n5]
      by_cases z : eC G i = false
      · rw [if_pos ((b32_0 _).mpr z), if_pos z]
        exact e
      · rw [if_neg (fun q => z ((b32_0 _).mp q)), if_neg z, Option.bind_some, h.pl hi4, Option.bind_some, gJ_cs 389 hs.1, Option.bind_some, n4]
        by_cases u : (eD G i >>> ((nI k).toInt64 &&& 63)) &&& 1 = 0
        · rw [if_pos ((lg_cmp_0 _ _).mpr u), if_pos u]
          rfl
        · rw [if_neg (fun q => u ((lg_cmp_0 _ _).mp q)), if_neg u]
          exact e
theorem r_isSafe_bad (h : RS M hp dl) {i1 : Int32} (i2 : Int32) (y : pBad i1) : f_X7_isSafe 1026 i1 i2 (cs I J A M) = some (0, cs (th 1 I) J A M) := by
  unfold f_X7_isSafe f_X7_isSafe_0
  rw [r_noPl_bad y, Option.bind_some]
  dsimp only
  rw [if_pos (show mK (cs I J A M) 1026 = 13 from h.1.1), s11 h, Option.bind_some]
  dsimp only
  rw [if_neg (show ¬ (1 : Int32) = 0 by decide)]
theorem r_isSafe_bad2 (h : RS M hp dl) {p : Nat} (hp4 : p < 4) {i2 : Int32} (y : oBad i2) : f_X7_isSafe 1026 (nI p) i2 (cs I J A M) = some (0, cs (th 2 I) J A M) := by
  unfold f_X7_isSafe f_X7_isSafe_0
  rw [r_noPl_ok hp4, Option.bind_some]
  dsimp only
  rw [if_pos (show mK (cs I J A M) 1026 = 13 from h.1.1), s10 h, Option.bind_some]
  dsimp only
  rw [if_pos rfl, r_kind_bad y, Option.bind_some]
  dsimp only
  rw [if_pos rfl]
  unfold f_X7_isSafe_25
  rw [if_pos (show mK (cs (th 0 I) J A M) 1026 = 13 from h.1.1), f21 h, Option.bind_some]
  dsimp only
  rw [if_neg (show ¬ (1 : Int32) = 0 by decide)]
theorem r_isSafe (h : RS M hp dl) (hn : RN I J A M G hp dl) {p k : Nat} (hp4 : p < 4) (hk : k < 25) : f_X7_isSafe 1026 (nI p) (nI k) (cs I J A M) = some (b32 (sfN G p k 4 0), cs (th 0 I) J A M) := by
  unfold f_X7_isSafe f_X7_isSafe_0
  rw [r_noPl_ok hp4, Option.bind_some]
  dsimp only
  rw [if_pos (show mK (cs I J A M) 1026 = 13 from h.1.1), s10 h, Option.bind_some]
  dsimp only
  rw [if_pos rfl, r_kind_ok hk, Option.bind_some]
  dsimp only
  rw [if_neg (show ¬ (1 : Int32) = 0 by decide)]
  unfold f_X7_isSafe_25
  rw [if_pos (show mK (cs (th 0 I) J A M) 1026 = 13 from h.1.1), f20 h, Option.bind_some]
  dsimp only
  rw [if_pos rfl]
  exact r_isSafe_36 (I := th 0 I) h (hn.th 0) hp4 4 zN 0 rfl (by decide)
/-- an element of a list of sets, of kinds -/
theorem r_get {l d n j o : Nat} (hk : mK M l = 5) (hn : I 162 l = nI n) (hd : mR M 161 l = some d) (kd : mK M d = 110) (ld : n ≤ mL M d) (ld2 : mL M d ≤ 1000) (hj : j < n) (ho : mQ M d j = some o) : f_Jx4a65c_get_915e3 l (nI j) (cs I J A M) = some (o, cs I J A M) := by
  have ec : f_J15_checkIndex_7cf53 (nI j) (nI n) (cs I J A M) = some (nI j, cs I J A M) := by
    unfold f_J15_checkIndex_7cf53 f_J15_checkIndex_7cf53_0 f_J3_checkIndex_8e157 f_J3_checkIndex_8e157_0
    rw [if_neg (nI_nn (by omega)), if_pos (lt_t j n hj (by omega)), Option.bind_some]
  unfold f_Jx4a65c_get_915e3 f_Jx4a65c_get_915e3_0 f_Jx4a65c_elementData_915e3 f_Jx4a65c_elementData_915e3_0
  rw [gI_cs 162 hk, Option.bind_some, hn, ec, Option.bind_some]
  dsimp only
  rw [if_pos (show mK (cs I J A M) l = 5 from hk), gR_cs 161 hk hd, Option.bind_some, lQ_cs (t := 0) (by decide) kd (by omega) (by omega) ho, Option.bind_some, Option.bind_some]
/-- within a list, or not -/
theorem r_in_n (i : Int32) {n : Nat} (hn : n ≤ 64) (M : zM) : (∃ j, j < n ∧ i = nI j ∧ f_X7_isIn i 0 (nI n - 1) M = some (1, M)) ∨ ((i < 0 ∨ n ≤ i.toNatClampNeg) ∧ f_X7_isIn i 0 (nI n - 1) M = some (0, M)) := by
  rw [r_isIn]
  rcases nI_all i with z | ⟨j, z1, rfl⟩
  · exact Or.inr ⟨Or.inl z, by rw [if_pos z]⟩
  · by_cases y : n = 0
    · subst y
      refine Or.inr ⟨Or.inr (Nat.zero_le _), ?_⟩
      have e : nI 0 - 1 < nI j := Int32.lt_of_lt_of_le (b := 0) (by decide) (le_t (x := 0) 0 j (Nat.zero_le _) z1)
      rw [if_neg (nI_nn z1), if_pos e]
    · have em : nI n - 1 = nI (n - 1) := pk_sub (a := n) (b := 1) (by omega)
      rw [if_neg (nI_nn z1), em]
      by_cases u : j < n
      · exact Or.inl ⟨j, u, rfl, by rw [if_neg (lt_f (n - 1) j (by omega) (by omega))]⟩
      · exact Or.inr ⟨Or.inr (by rw [nI_cl z1]; omega), by rw [if_pos (lt_t (n - 1) j (by omega) z1)]⟩
theorem r_ofSet_30 (h : RS M hp dl) (i1 i2 : Int32) : f_X7_ofSet_30 1026 i1 i2 1026 (cs I J A M) = some (0, cs (th 1 I) J A M) := by
  unfold f_X7_ofSet_30 f_X7_ofSet_35
  rw [if_pos (show mK (cs I J A M) 1026 = 13 from h.1.1), s11 h, Option.bind_some]
  dsimp only
  rw [if_neg (show ¬ (1 : Int32) = 0 by decide)]
theorem r_ofSet_bad (h : RS M hp dl) {i1 : Int32} (i2 : Int32) (y : pBad i1) : f_X7_ofSet 1026 i1 i2 (cs I J A M) = some (0, cs (th 1 I) J A M) := by
  unfold f_X7_ofSet f_X7_ofSet_0
  rw [r_noPl_bad y, Option.bind_some]
  dsimp only
  rw [if_neg (show ¬ (1 : Int32) = 0 by decide)]
  exact r_ofSet_30 h i1 i2
theorem r_ofSet (h : RS M hp dl) (hn : RN I J A M G hp dl) (hw : WF G) (hv : WV G) {p : Nat} (hp4 : p < 4) (i2 : Int32) : (∃ j, j < eN G p ∧ i2 = nI j ∧ f_X7_ofSet 1026 (nI p) i2 (cs I J A M) = some (nI (eV G p j), cs (th 0 I) J A M)) ∨ ((i2 < 0 ∨ eN G p ≤ i2.toNatClampNeg) ∧ f_X7_ofSet 1026 (nI p) i2 (cs I J A M) = some (0, cs (th 1 I) J A M)) := by
  have hs := h.2.1 p hp4
  obtain ⟨⟨l1, l2, l3, l4, l5⟩, l6, l7⟩ := h.lv hn hw hp4
  have start : f_X7_ofSet 1026 (nI p) i2 (cs I J A M) = (f_X7_isIn i2 0 (nI (eN G p) - 1) (cs I J A M)).bind fun r7 => if r7.1 = 0 then f_X7_ofSet_30 1026 (nI p) i2 1026 r7.2 else f_X7_ofSet_35 1026 (nI p) i2 0 1026 r7.2 := by
    unfold f_X7_ofSet f_X7_ofSet_0
    rw [r_noPl_ok hp4, Option.bind_some]
    dsimp only
    rw [if_pos rfl, gR_cs 417 h.1.1 h.1.2.1, Option.bind_some, h.pl hp4, Option.bind_some, gR_cs 387 hs.1 hs.2.2.1, Option.bind_some, if_pos (show mK (cs I J A M) (1030 + 4 * p) = 5 from l1), r_size (I := I) (J := J) (A := A) (M := M) l1 l3, Option.bind_some]
  rw [start]
  rcases r_in_n i2 l5 (cs I J A M) with ⟨j, j1, rfl, e⟩ | ⟨j1, e⟩
  · refine Or.inl ⟨j, j1, rfl, ?_⟩
    obtain ⟨o, o1, o2, o3, o4, o5⟩ := l7 j j1
    obtain ⟨d1, d2, d3, d4⟩ := l6 (by omega)
    have hv9 := hv p hp4 j j1
    have eg := r_get (I := th 0 I) (J := J) (A := A) (M := M) l1 (show th 0 I 162 (1030 + 4 * p) = _ from l3) l2 d1 d2 d3 j1 o1
    rw [e, Option.bind_some]
    dsimp only
    rw [if_neg (show ¬ (1 : Int32) = 0 by decide)]
    unfold f_X7_ofSet_35
    rw [if_pos (show mK (cs I J A M) 1026 = 13 from h.1.1), s10 h, Option.bind_some]
    dsimp only
    rw [if_pos rfl, gR_cs 417 h.1.1 h.1.2.1, Option.bind_some, h.pl hp4, Option.bind_some, gR_cs 387 hs.1 hs.2.2.1, Option.bind_some, if_pos (show mK (cs (th 0 I) J A M) (1030 + 4 * p) = 5 from l1), eg, Option.bind_some]
    dsimp only
    rw [if_pos (Or.inl (show mK (cs (th 0 I) J A M) o = 11 from o2))]
    unfold f_X7_ofSetNow f_X7_ofSetNow_0
    have e100 : (100 : Int32) * nI (eV G p j / 100) = nI (100 * (eV G p j / 100)) := pk_mul 100 _
    have o2' : mK M o = 11 := o2
    rw [gI_cs 352 o2', Option.bind_some, gI_cs 353 o2', Option.bind_some, show th 0 I 352 o = nI (eV G p j % 100) from o4, show th 0 I 353 o = nI (eV G p j / 100) from o5, e100, nI_add, Option.bind_some]
    exact congrArg some (congrArg (·, cs (th 0 I) J A M) (congrArg nI (by omega)))
  · refine Or.inr ⟨j1, ?_⟩
    rw [e, Option.bind_some]
    dsimp only
    rw [if_pos rfl]
    exact r_ofSet_30 h _ _
theorem r_river_30 (h : RS M hp dl) (i1 i2 : Int32) : f_X7_river_30 1026 i1 i2 1026 (cs I J A M) = some (0, cs (th 1 I) J A M) := by
  unfold f_X7_river_30 f_X7_river_35
  rw [if_pos (show mK (cs I J A M) 1026 = 13 from h.1.1), s11 h, Option.bind_some]
  dsimp only
  rw [if_neg (show ¬ (1 : Int32) = 0 by decide)]
theorem r_river_bad (h : RS M hp dl) {i1 : Int32} (i2 : Int32) (y : pBad i1) : f_X7_river 1026 i1 i2 (cs I J A M) = some (0, cs (th 1 I) J A M) := by
  unfold f_X7_river f_X7_river_0
  rw [r_noPl_bad y, Option.bind_some]
  dsimp only
  rw [if_neg (show ¬ (1 : Int32) = 0 by decide)]
  exact r_river_30 h i1 i2
theorem e_hI {M : zM} {c k a : Nat} (q : Nat) (hk : mK M a = c ∨ mK M a = 300 + c) (hq : 32 * c + k = q := by rfl) : hI c k M a = some (mI M q a) := by
  subst hq
  exact if_pos hk
theorem r_river (h : RS M hp dl) (hn : RN I J A M G hp dl) (hw : WF G) {p : Nat} (hp4 : p < 4) (i2 : Int32) : (∃ j, j < eM G p ∧ i2 = nI j ∧ f_X7_river 1026 (nI p) i2 (cs I J A M) = some (nI (eR G p j), cs (th 0 I) J A M)) ∨ ((i2 < 0 ∨ eM G p ≤ i2.toNatClampNeg) ∧ f_X7_river 1026 (nI p) i2 (cs I J A M) = some (0, cs (th 1 I) J A M)) := by
  have hs := h.2.1 p hp4
  obtain ⟨⟨l1, l2, l3, l4, l5⟩, l6, l7⟩ := h.lr hn hw hp4
  have start : f_X7_river 1026 (nI p) i2 (cs I J A M) = (f_X7_isIn i2 0 (nI (eM G p) - 1) (cs I J A M)).bind fun r7 => if r7.1 = 0 then f_X7_river_30 1026 (nI p) i2 1026 r7.2 else f_X7_river_35 1026 (nI p) i2 0 1026 r7.2 := by
    unfold f_X7_river f_X7_river_0
    rw [r_noPl_ok hp4, Option.bind_some]
    dsimp only
    rw [if_pos rfl, gR_cs 417 h.1.1 h.1.2.1, Option.bind_some, h.pl hp4, Option.bind_some, gR_cs 388 hs.1 hs.2.2.2.1, Option.bind_some, if_pos (show mK (cs I J A M) (1031 + 4 * p) = 5 from l1), r_size (I := I) (J := J) (A := A) (M := M) l1 l3, Option.bind_some]
  rw [start]
  rcases r_in_n i2 l5 (cs I J A M) with ⟨j, j1, rfl, e⟩ | ⟨j1, e⟩
  · refine Or.inl ⟨j, j1, rfl, ?_⟩
    obtain ⟨o, o1, o2, o3, o4⟩ := l7 j j1
    obtain ⟨d1, d2, d3, d4⟩ := l6 (by omega)
    have eg := r_get (I := th 0 I) (J := J) (A := A) (M := M) l1 (show th 0 I 162 (1031 + 4 * p) = _ from l3) l2 d1 d2 d3 j1 o1
    have k303 : mK (cs (th 0 I) J A M) o = 3 ∨ mK (cs (th 0 I) J A M) o = 303 := Or.inr o2
    rw [e, Option.bind_some]
    dsimp only
    rw [if_neg (show ¬ (1 : Int32) = 0 by decide)]
    unfold f_X7_river_35
    rw [if_pos (show mK (cs I J A M) 1026 = 13 from h.1.1), s10 h, Option.bind_some]
    dsimp only
    rw [if_pos rfl, gR_cs 417 h.1.1 h.1.2.1, Option.bind_some, h.pl hp4, Option.bind_some, gR_cs 388 hs.1 hs.2.2.2.1, Option.bind_some, if_pos (show mK (cs (th 0 I) J A M) (1031 + 4 * p) = 5 from l1), eg, Option.bind_some]
    dsimp only
    rw [if_pos k303, if_pos k303]
    unfold f_J6_intValue_8abf5 f_J6_intValue_8abf5_0
    rw [e_hI 96 k303, Option.bind_some, Option.bind_some]
    exact congrArg some (congrArg (·, cs (th 0 I) J A M) o4)
  · refine Or.inr ⟨j1, ?_⟩
    rw [e, Option.bind_some]
    dsimp only
    rw [if_pos rfl]
    exact r_river_30 h _ _
end RASK
