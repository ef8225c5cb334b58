/-! ===== BOTH: the component, the reference, the result, the calls, in one memory ===== -/
def RH (M : zM) : Prop := ∀ a v, mR M 386 a = some v ∨ mR M 418 a = some v → hi v
def CK (n : Nat) (xs : Nat → Int32) (M : zM) (Gc Gr : zG) (hp dl : Nat → Nat) : Prop :=
  (CSH M ∧ CR (mI M) (mJ M) (mA M) Gc) ∧ (RS M hp dl ∧ RN (mI M) (mJ M) (mA M) M Gr hp dl) ∧ (RG M ∧ KD M ∧ RH M ∧ TX M) ∧ (mK M 0 = 200 ∧ mL M 0 = n ∧ ∀ i, i < n → mA M 0 i = xs i) ∧ mK M 1045 = 10
section JOINT
variable {n : Nat} {xs : Nat → Int32} {M M' : zM} {G G' Gc Gr : zG} {hp dl hp' dl' : Nat → Nat}
theorem RN.wo {I I' : Nat → Nat → Int32} {J J' : Nat → Nat → Int64} {A A' : Nat → Nat → Int32} (h : RN I J A M G hp dl) (g : RS M hp dl) (s : ST M M') (kd : KD M) (k10 : mK M 1045 = 10) (hI : ∀ k b, b < mX M → ¬ own b → b ≠ 1045 → I' k b = I k b) (hJ : ∀ k b, b < mX M → ¬ own b → b ≠ 1045 → J' k b = J k b) (hA : ∀ b, b < mX M → ¬ own b → b ≠ 1045 → ∀ i, i < mL M b → A' b i = A b i) : RN I' J' A' M' G hp dl := by
  obtain ⟨sX, sb⟩ := s
  have hX := g.2.2.2.2.2.2.2
  obtain ⟨⟨s1, s2, s3, s4, s5, s6, s7, s8⟩, q, v⟩ := h
  have no : ∀ b, b < 1000 ∨ 1026 ≤ b → ¬ own b := fun b hb z => by unfold own at z; omega
  have e : ∀ k b, (b < 1000 ∨ 1026 ≤ b) → b ≠ 1045 → b < 1046 → I' k b = I k b := fun k b h1 h2 h3 => hI k b (by omega) (no b h1) h2
  refine ⟨⟨(e _ _ (by decide) (by decide) (by decide)).trans s1, (e _ _ (by decide) (by decide) (by decide)).trans s2, by rw [e _ _ (by decide) (by decide) (by decide)]; exact s3, (e _ _ (by decide) (by decide) (by decide)).trans s4, (e _ _ (by decide) (by decide) (by decide)).trans s5, fun z => ?_, fun z => by rw [e _ _ (by decide) (by decide) (by decide)]; exact s7 z, fun z => (e _ _ (by decide) (by decide) (by decide)).trans (s8 z)⟩, fun c hc => ?_, fun i hi => (e _ _ (by omega) (by omega) (by omega)).trans (v i hi)⟩
  · obtain ⟨a, b, c, k, hk, d⟩ := s6 z
    exact ⟨(e _ _ (by decide) (by decide) (by decide)).trans a, (e _ _ (by decide) (by decide) (by decide)).trans b, fun t ht => (hA 1044 (by omega) (no _ (by decide)) (by decide) t (by rw [g.1.2.2.2.2.2.2.2]; exact ht)).trans (c t ht), k, hk, (e _ _ (by decide) (by decide) (by decide)).trans d⟩
  · obtain ⟨a, ⟨b1, b2, b3, b4⟩, ⟨c1, c2, c3, c4⟩, d1, d2⟩ := q c hc
    have hh := g.2.2.1 c hc
    have hn : hp c ≠ 1045 := fun z => by
      have := hh.1
      rw [z, k10] at this
      exact absurd this (by decide)
    have l1 : isL (1030 + 4 * c) := ⟨c, hc, Or.inl rfl⟩
    have l2 : isL (1031 + 4 * c) := ⟨c, hc, Or.inr rfl⟩
    refine ⟨fun k hk => (hA _ hh.2.2.2.2 (no _ (by have := hh.2.2.1; omega)) hn k (by rw [hh.2.1]; exact hk)).trans (a k hk), ⟨(e _ _ (by omega) (by omega) (by omega)).trans b1, b2, fun z => by rw [(sb _ (g.d_lt l1)).2.1]; exact b3 z, fun j hj => ?_⟩, ⟨(e _ _ (by omega) (by omega) (by omega)).trans c1, c2, fun z => by rw [(sb _ (g.d_lt l2)).2.1]; exact c3 z, fun j hj => by rw [(sb _ (g.d_lt l2)).2.2.2]; exact c4 j hj⟩, (hJ _ _ (by omega) (no _ (by omega)) (by omega)).trans d1, (e _ _ (by omega) (by omega) (by omega)).trans d2⟩
    obtain ⟨o, o1, o2, o3, o4, o5⟩ := b4 j hj
    have ho : 1026 ≤ o := Nat.le_of_not_lt fun z => by
      have := kd.2 o z
      rw [o2] at this
      cases this
    have ho2 : o ≠ 1045 := fun z => by
      rw [z, k10] at o2
      exact absurd o2 (by decide)
    exact ⟨o, by rw [(sb _ (g.d_lt l1)).2.2.2]; exact o1, (sb o o3).1.trans o2, by omega, (hI _ _ o3 (no _ (Or.inr ho)) ho2).trans o4, (hI _ _ o3 (no _ (Or.inr ho)) ho2).trans o5⟩
/-- after a call of the component -/
theorem CK.c0 (h : CK n xs M G Gr hp dl) (eK : mK M' = mK M) (eL : mL M' = mL M) (eR : mR M' = mR M) (eQ : mQ M' = mQ M) (f : FC M M') (hC : CSH M') (hc : CR (mI M') (mJ M') (mA M') G') : CK n xs M' G' Gr hp dl := by
  obtain ⟨-, ⟨r1, r2⟩, ⟨g1, g2, g3, g4⟩, ⟨l1, l2, l3⟩, k10⟩ := h
  have hX := r1.2.2.2.2.2.2.2
  have st : ST M M' := ⟨f.1.1.1, fun b _ => ⟨by rw [eK], by rw [eL], fun k => by rw [eR], by rw [eQ]⟩⟩
  have no0 : ¬ own 0 := fun z => by unfold own at z; omega
  refine ⟨⟨hC, hc⟩, ⟨r1.st st, r2.wo r1 st g2 k10 (fun k b hb ho _ => (f.1.2 b hb ho).2.2.1 k) (fun k b hb ho _ => (f.1.2 b hb ho).2.2.2.1 k) (fun b hb ho _ i _ => congrFun (f.1.2 b hb ho).2.2.2.2.2.1 i)⟩, ⟨⟨Nat.le_trans g1.1 f.1.1.1, by rw [eR]; exact g1.2.1, by rw [eQ]; exact g1.2.2⟩, ⟨Nat.le_trans g2.1 f.1.1.1, by rw [eK]; exact g2.2⟩, by unfold RH; rw [eR]; exact g3, ⟨by rw [eK, eL]; exact g4.1, fun x hx => ?_⟩⟩, ⟨by rw [eK]; exact l1, by rw [eL]; exact l2, fun i hi => (congrFun (f.1.2 0 (by omega) no0).2.2.2.2.2.1 i).trans (l3 i hi)⟩, by rw [eK]; exact k10⟩
  obtain ⟨t1, t2, t3, t4, t5⟩ := g4.2 x hx
  rw [eK, eL, eR]
  exact ⟨t1, t2, ((f.1.2 x (by omega) (fun z => by unfold own at z; omega)).2.2.1 33).trans t3, t4, t5⟩
/-- after a text was made -/
theorem CK.km {c s : Nat} (h : CK n xs M G Gr hp dl) (hw : WF G) (k : KM c s M M') (f : FG M M') : CK n xs M' G Gr hp dl := by
  obtain ⟨⟨c1, c2⟩, ⟨r1, r2⟩, ⟨g1, g2, g3, g4⟩, ⟨l1, l2, l3⟩, k10⟩ := h
  have hX := r1.2.2.2.2.2.2.2
  have lo := LO.km k (by omega)
  have k0 := k.2 0 (by omega)
  refine ⟨⟨c1.lo lo, c2.lo c1 hw lo⟩, ⟨r1.st (ST.km k), r2.km r1 k⟩, ⟨⟨Nat.le_trans g1.1 k.1.1, fun q a v ha hv => g1.2.1 q a v ha (((k.2 a (by have := ha.2; omega)).2.2.2.2.1 q).symm.trans hv), fun a i v ha hv => g1.2.2 a i v ha ((congrFun (k.2 a (by have := ha.2; omega)).2.2.2.2.2.2 i).symm.trans hv)⟩, ⟨Nat.le_trans g2.1 k.1.1, fun a ha => by rw [(k.2 a (by omega)).1]; exact g2.2 a ha⟩, fun a v hv => g3 a v (hv.elim (fun z => Or.inl (f 386 a v (Or.inl rfl) z)) (fun z => Or.inr (f 418 a v (Or.inr rfl) z))), g4.lo lo⟩, ⟨k0.1.trans l1, k0.2.1.trans l2, fun i hi => (k0.2.2.2.2.2.1 i (by omega)).trans (l3 i hi)⟩, ((k.2 1045 (by omega)).1).trans k10⟩
/-- after a call of the reference -/
theorem CK.ref (h : CK n xs M Gc Gr hp dl) (hw : WF Gc) (f : FN M M') (r1 : RS M' hp' dl') (r2 : RN (mI M') (mJ M') (mA M') M' G' hp' dl') : CK n xs M' Gc G' hp' dl' := by
  obtain ⟨⟨c1, c2⟩, ⟨q1, -⟩, ⟨g1, g2, g3, g4⟩, ⟨l1, l2, l3⟩, k10⟩ := h
  have hX := q1.2.2.2.2.2.2.2
  have no : ∀ b, b < 1026 → ¬ hi b := fun b hb z => by unfold hi at z; omega
  have lo : LO M M' := ⟨f.1.1.1.1, fun b hb => (f.1.1.2 b (by omega) (no b hb)).sr⟩
  have k0 := lo.2 0 (by decide)
  refine ⟨⟨c1.lo lo, c2.lo c1 hw lo⟩, ⟨r1, r2⟩, ⟨⟨Nat.le_trans g1.1 lo.1, fun q a v ha hv => g1.2.1 q a v ha (((lo.2 a ha.2).2.2.2.2.1 q).symm.trans hv), fun a i v ha hv => g1.2.2 a i v ha ((congrFun (lo.2 a ha.2).2.2.2.2.2.2 i).symm.trans hv)⟩, ⟨Nat.le_trans g2.1 lo.1, fun a ha => by rw [(lo.2 a ha).1]; exact g2.2 a ha⟩, f.1.2, g4.lo lo⟩, ⟨k0.1.trans l1, k0.2.1.trans l2, fun i hi => (k0.2.2.2.2.2.1 i (by omega)).trans (l3 i hi)⟩, (f.2.1 1045 (by omega)).trans k10⟩
/-- the result is written -/
theorem CK.sJ (h : CK n xs M Gc Gr hp dl) (v : Int64) : CK n xs (sJ M 320 1045 v) Gc Gr hp dl := by
  obtain ⟨⟨c1, c2⟩, ⟨r1, r2⟩, g, l, k10⟩ := h
  have e : ∀ k b, k ≠ 320 → u2 (mJ M) 320 1045 v k b = mJ M k b := fun k b hk => if_neg (fun z => hk z.1)
  refine ⟨⟨c1, c2.1, fun p hp => ?_⟩, ⟨r1, r2.1, fun p hp => ?_, r2.2.2⟩, g, l, k10⟩
  · obtain ⟨d1, d2, d3, d4, d5, d6, d7⟩ := c2.2 p hp
    exact ⟨d1, d2, d3, d4, d5, (e 227 _ (by decide)).trans d6, d7⟩
  · obtain ⟨d1, d2, d3, d4, d5⟩ := r2.2.1 p hp
    exact ⟨d1, d2, d3, (e 389 _ (by decide)).trans d4, d5⟩
theorem CK.sD (h : CK n xs M Gc Gr hp dl) (v : UInt64) : CK n xs (sD M 321 1045 v) Gc Gr hp dl := h
theorem CK.sR (h : CK n xs M Gc Gr hp dl) (v : Option Nat) : CK n xs (sR M 322 1045 v) Gc Gr hp dl := by
  obtain ⟨⟨c1, c2⟩, ⟨r1, r2⟩, ⟨g1, g2, g3, g4⟩, l, k10⟩ := h
  have e : ∀ k b, k ≠ 322 → u2 (mR M) 322 1045 v k b = mR M k b := fun k b hk => if_neg (fun z => hk z.1)
  have eb : ∀ k b, b ≠ 1045 → u2 (mR M) 322 1045 v k b = mR M k b := fun k b hk => if_neg (fun z => hk z.2)
  refine ⟨⟨?_, c2⟩, ⟨?_, r2⟩, ⟨⟨g1.1, fun q a w ha hw => g1.2.1 q a w ha ((eb q a (by have := ha.2; omega)).symm.trans hw), g1.2.2⟩, g2, fun a w hw => g3 a w (hw.elim (fun z => Or.inl ((e 386 a (by decide)).symm.trans z)) (fun z => Or.inr ((e 418 a (by decide)).symm.trans z))), ⟨g4.1, fun x hx => ?_⟩⟩, l, k10⟩
  · obtain ⟨h1, h2, h3, h4, h5, ⟨p1, p2, p3, p4, p5, p6, p7⟩, ⟨h8, h9, h10⟩, h12, h13⟩ := c1
    exact ⟨h1, (e _ _ (by decide)).trans h2, (e _ _ (by decide)).trans h3, (e _ _ (by decide)).trans h4, h5, ⟨p1, (e _ _ (by decide)).trans p2, (e _ _ (by decide)).trans p3, (e _ _ (by decide)).trans p4, (e _ _ (by decide)).trans p5, (e _ _ (by decide)).trans p6, p7⟩, ⟨h8, (e _ _ (by decide)).trans h9, h10⟩, fun p hp => by
      obtain ⟨a1, a2, a3, a4, a5⟩ := h12 p hp
      exact ⟨a1, (e _ _ (by decide)).trans a2, (e _ _ (by decide)).trans a3, (e _ _ (by decide)).trans a4, a5⟩, h13⟩
  · obtain ⟨⟨m1, m2, m3, m4⟩, hpl, hh, hinj, hd, hz⟩ := r1
    exact ⟨⟨m1, (e _ _ (by decide)).trans m2, (e _ _ (by decide)).trans m3, m4⟩, fun p hp => by
      obtain ⟨a1, a2, a3, a4, a5⟩ := hpl p hp
      exact ⟨a1, (e _ _ (by decide)).trans a2, (e _ _ (by decide)).trans a3, (e _ _ (by decide)).trans a4, a5⟩, hh, hinj, fun l hl => ⟨(e _ _ (by decide)).trans (hd l hl).1, (hd l hl).2⟩, hz⟩
  · obtain ⟨t1, t2, t3⟩ := g4.2 x hx
    exact ⟨t1, (e _ _ (by decide)).trans t2, t3⟩
end JOINT
