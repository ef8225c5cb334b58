/-! ===== THE LAW: what comes out; the whole ===== -/
theorem otf_b {g s : Nat → Nat} {F : Nat → Int32} {f : Int32} : ∀ (d i a : Nat), i + d = 25 → (∀ k, i ≤ k → k < 25 → g k + s k ≤ 4) → ∃ r, otf g s F f d i (nI a) = nI r ∧ r ≤ a + sn (fun k => 4 - (g k + s k)) i d := by
  intro d
  induction d with
  | zero => exact fun i a _ _ => ⟨a, rfl, Nat.le_add_right _ _⟩
  | succ d ih =>
    intro i a hi h
    have hb := h i (Nat.le_refl _) (by omega)
    rw [otf, sn]
    by_cases y : 4 - nI (g i) - nI (s i) ≤ 0 ∨ f ≤ F i
    · rw [if_pos y]
      obtain ⟨r, r1, r2⟩ := ih (i + 1) a (by omega) fun k k1 k2 => h k (by omega) k2
      exact ⟨r, r1, by omega⟩
    · have e : (4 : Int32) - nI (g i) - nI (s i) = nI (4 - (g i + s i)) := by
        show nI 4 - nI (g i) - nI (s i) = _
        rw [pk_sub (by omega), pk_sub (by omega), Nat.sub_sub]
      rw [if_neg y, e, nI_add]
      obtain ⟨r, r1, r2⟩ := ih (i + 1) _ (by omega) fun k k1 k2 => h k (by omega) k2
      exact ⟨r, r1, by omega⟩
theorem sn_c (v : Nat) : ∀ d i, sn (fun _ => v) i d = v * d := by
  intro d
  induction d with
  | zero => exact fun _ => rfl
  | succ d ih =>
    intro i
    rw [sn, ih, Nat.mul_succ]
    omega
section LAWS
variable {n : Nat} {xs : Nat → Int32} {c C k rr : Nat} {M : zM} {G : zG} {e : zPt}
theorem outs_b (g : GI k rr G e) (h7 : eS G 7 ≠ 0) {p : Nat} (hp : p < 4) : ∃ r, otv G p = nI r ∧ r ≤ 90 := by
  have le4 : ∀ q, q < 25 → eH G p q + snA G q 4 0 ≤ 4 := fun q hq => by
    have t4 := g.1.1.tt h7 hq
    have te := TT_e G q
    rcases (show p = 0 ∨ p = 1 ∨ p = 2 ∨ p = 3 by omega) with rfl | rfl | rfl | rfl <;> omega
  unfold otv
  by_cases y : sn (eH G p) 0 25 + 3 * eN G p ≤ 10
  · rw [if_pos y]
    obtain ⟨r, r1, r2⟩ := otf_b (g := eH G p) (s := fun q => snA G q 4 0) (F := fun i => frw G p i (eH G p i + 1)) (f := frv (eN G p) (eH G p)) 25 0 0 rfl fun q _ hq => le4 q hq
    refine ⟨r, r1, ?_⟩
    have s1 := sn_sub (g := fun _ => 4) (h := fun q => eH G p q + snA G q 4 0) 25 0 fun q _ hq => le4 q (by omega)
    rw [sn_c] at s1
    have s2 : sn (fun q => pc G q p) 0 25 ≤ sn (fun q => eH G p q + snA G q 4 0) 0 25 := sn_lef 25 0 fun q _ _ => by
      show eH G p q + snP G p q ≤ eH G p q + (snP G 0 q + (snP G 1 q + (snP G 2 q + (snP G 3 q + 0))))
      rcases (show p = 0 ∨ p = 1 ∨ p = 2 ∨ p = 3 by omega) with rfl | rfl | rfl | rfl <;> omega
    rw [pc_sn g.1.1 g.1.2 hp, ptl_e] at s2
    have s3 : sn (fun _ => 3) 0 (eN G p) ≤ sn (fun j => st34 (eV G p j)) 0 (eN G p) := sn_lef _ 0 fun j _ _ => by
      unfold st34
      split <;> omega
    rw [sn_c] at s3
    have s4 : 10 ≤ sn (eH G p) 0 25 + 3 * eN G p := by
      have z : sz G p = sn (eH G p) 0 25 + 3 * eN G p := rfl
      rcases sz_1 g h7 hp with w | ⟨w, -⟩ <;> omega
    omega
  · rw [if_neg y]
    exact ⟨0, rfl, Nat.zero_le _⟩
/-- what the law comes to -/
def ND (x : Option (Unit × zM)) : Prop := ∃ M', x = some ((), M') ∧ BD 5300 M'
theorem QK.lo (h : QK n xs c M G e) (g : GI k rr G e) {M1 : zM} {c' : Nat} (lo : LO M M1) (bd : BD c' M1) : QK n xs c' M1 G e := by
  have hX := h.X
  obtain ⟨a1, a2, a3, a4, a5, a6, a7, b1, b2⟩ := h
  refine ⟨a1.lo lo, a2.lo a1 g.f lo, a3.lo (fun q b hb => (lo.2 b hb).2.2.1 q), fun q hq => ?_, a5.lo lo, ⟨by have := lo.1; omega, fun q a v ha e => ?_, fun a i v ha e => ?_⟩, ⟨(lo.2 0 (by decide)).1.trans a7.1, (lo.2 0 (by decide)).2.1.trans a7.2.1, fun i hi => ((lo.2 0 (by decide)).2.2.2.2.2.1 i (by rw [a7.2.1]; exact hi)).trans (a7.2.2 i hi)⟩, bd⟩
  · obtain ⟨t1, t2, t3⟩ := a4 q hq
    have hl : ∀ b, 1 ≤ b → b ≤ 3 → mL M b = 5 := fun b x y => (a1.2.2.2.2.2.2.2.2 b x y).2
    exact ⟨((lo.2 1 (by decide)).2.2.2.2.2.1 q (by rw [hl 1 (by decide) (by decide)]; exact hq)).trans t1, ((lo.2 2 (by decide)).2.2.2.2.2.1 q (by rw [hl 2 (by decide) (by decide)]; exact hq)).trans t2, ((lo.2 3 (by decide)).2.2.2.2.2.1 q (by rw [hl 3 (by decide) (by decide)]; exact hq)).trans t3⟩
  · exact a6.2.1 q a v ha (((lo.2 a ha.2).2.2.2.2.1 q).symm.trans e)
  · exact a6.2.2 a i v ha ((congrFun (lo.2 a ha.2).2.2.2.2.2.2 i).symm.trans e)
theorem w_304 (h : QK n xs c M G e) (g : GI k rr G e) (h7 : eS G 7 ≠ 0) {K : Nat → Nat → Int32 → Int32 → zM → Option (Unit × zM)} {i2 i3 : Int32} (kk : ∀ M1, QK n xs (c + 4) M1 G e → ND (K 0 1000 i2 (i3 + 1) M1)) : ND (f_L_law_304 K 0 1000 i2 i3 M) := by
  unfold f_L_law_304
  refine (w_areWell h g h7).b fun v M1 G1 e1 m1 q => ?_
  dsimp only
  obtain ⟨q1, q2, q3⟩ := q
  subst q2 q3
  rw [if_neg (show ¬ v = 0 by rw [q1]; decide)]
  exact kk M1 m1
/-- a wall is laid: the four numbers -/
theorem w_ones (h : QK n xs c M G e) (g : GI k rr G e) {f : zM → Option (Unit × zM)} (kk : ∀ M1, QK n xs (c + 1) M1 G e → mK M1 (mX M) = 100 → mL M1 (mX M) = 4 → mA M1 (mX M) 0 = 1 → mA M1 (mX M) 1 = 3 → mA M1 (mX M) 2 = 7 → mA M1 (mX M) 3 = 9 → ND (f M1)) : ND ((tA (nA M 0 4) (mX M) (0 : Int32) (1 : Int32)).bind fun M2 => (tA M2 (mX M) (1 : Int32) (3 : Int32)).bind fun M3 => (tA M3 (mX M) (2 : Int32) (7 : Int32)).bind fun M4 => (tA M4 (mX M) (3 : Int32) (9 : Int32)).bind f) := by
  have hX := h.X
  have t : ∀ (M9 : zM) (i : Nat) (v : Int32), i < 4 → mK M9 (mX M) = 100 → mL M9 (mX M) = 4 → tA M9 (mX M) (nI i) v = some (sA M9 (mX M) i v) := fun M9 i v hi h1 h2 => by
    unfold tA
    rw [if_pos ⟨h1, nI_oob (by rw [h2]; exact hi) (by rw [h2]; decide)⟩, nI_cl (by omega)]
  have k0 : mK (nA M 0 4) (mX M) = 100 := if_pos rfl
  have l0 : mL (nA M 0 4) (mX M) = 4 := if_pos rfl
  rw [show tA (nA M 0 4) (mX M) (0 : Int32) (1 : Int32) = _ from t _ 0 1 (by decide) k0 l0, Option.bind_some, show tA (sA (nA M 0 4) (mX M) 0 1) (mX M) (1 : Int32) (3 : Int32) = _ from t _ 1 3 (by decide) k0 l0, Option.bind_some, show tA (sA (sA (nA M 0 4) (mX M) 0 1) (mX M) 1 3) (mX M) (2 : Int32) (7 : Int32) = _ from t _ 2 7 (by decide) k0 l0, Option.bind_some, show tA (sA (sA (sA (nA M 0 4) (mX M) 0 1) (mX M) 1 3) (mX M) 2 7) (mX M) (3 : Int32) (9 : Int32) = _ from t _ 3 9 (by decide) k0 l0, Option.bind_some]
  have fx : FX (fun _ => False) M (sA (sA (sA (sA (nA M 0 4) (mX M) 0 1) (mX M) 1 3) (mX M) 2 7) (mX M) 3 9) := (((((FX.rf _ M).nA 0 4).sA (Or.inr (Nat.le_refl _)) 0 1).sA (Or.inr (Nat.le_refl _)) 1 3).sA (Or.inr (Nat.le_refl _)) 2 7).sA (Or.inr (Nat.le_refl _)) 3 9
  have lo : LO M (sA (sA (sA (sA (nA M 0 4) (mX M) 0 1) (mX M) 1 3) (mX M) 2 7) (mX M) 3 9) := ⟨fx.1.1, fun b hb => (fx.2 b (by omega) (fun z => z)).sr⟩
  refine kk _ (h.lo g lo ?_) k0 l0 ?_ ?_ ?_ ?_
  · obtain ⟨b1, b2⟩ := h.2.2.2.2.2.2.2
    constructor
    · show mX M + 1 ≤ _
      omega
    · show mS M + 4 ≤ _
      omega
  all_goals
    simp [sA, mA, u2]
end LAWS
