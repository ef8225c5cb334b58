/-! ===== BOTH, with what lies, and points, wins, pot, lucky kind, winner ===== -/
/-- the table's rows are as they were -/
def FTB (M0 M : zM) : Prop := ∀ b, 1 ≤ b → b ≤ 3 → mA M b = mA M0 b
/-- after so many calls points and pot are no greater than so -/
def EB (c : Nat) (e : zPt) : Prop := c ≤ 600 → (∀ p, p < 4 → ∃ z : Int, e.1 p = Int32.ofInt z ∧ z.natAbs ≤ 250 + 10000 * c) ∧ ∃ z : Int, e.2.2.1 = Int32.ofInt z ∧ 0 ≤ z ∧ z ≤ 10 * (c : Int)
theorem EB.w {c : Nat} {e : zPt} (h : EB c e) : EB (c + 1) e := fun hc => by
  obtain ⟨a, b, b1, b2, b3⟩ := h (by omega)
  refine ⟨fun p hp => ?_, b, b1, b2, by omega⟩
  obtain ⟨z, z1, z2⟩ := a p hp
  exact ⟨z, z1, by omega⟩
theorem nI_int (n : Nat) : nI n = Int32.ofInt (n : Int) := Int32.ofInt_eq_ofNat.symm
theorem EB.draw {c : Nat} {e : zPt} (h : EB c e) (G : zG) : EB (c + 1) (eDraw G e) := by
  unfold eDraw
  split
  · exact h.w
  · intro hc
    obtain ⟨a, b, b1, b2, b3⟩ := h (by omega)
    refine ⟨fun p hp => ?_, b, b1, b2, by omega⟩
    obtain ⟨z, z1, z2⟩ := a p hp
    have hR : crd G 0 4 ≤ 1 * 4 := sn_le _ 1 4 0 (fun _ _ _ => by split <;> omega)
    show ∃ z, ewP G (crd G 0 4) 0 e.1 p = Int32.ofInt z ∧ _
    generalize crd G 0 4 = R at *
    unfold ewP
    rw [if_pos ⟨Nat.zero_le _, hp⟩, z1, nI_int]
    split
    · refine ⟨z + 10 * (4 - (R : Int)), ?_, by omega⟩
      rw [Int32.ofInt_add, Int32.ofInt_mul, Int32.ofInt_sub]
      rfl
    · refine ⟨z + 10 * -(R : Int), ?_, by omega⟩
      rw [Int32.ofInt_add, Int32.ofInt_mul, Int32.ofInt_neg]
      rfl
theorem EB.cal {c : Nat} {e : zPt} (h : EB c e) (t : Nat) : EB (c + 1) (eCal e t) := fun hc => by
  obtain ⟨a, b, b1, b2, b3⟩ := h (by omega)
  refine ⟨fun p hp => ?_, b + 10, ?_, by omega, by omega⟩
  · obtain ⟨z, z1, z2⟩ := a p hp
    show ∃ z, u1 e.1 t (e.1 t - 10) p = Int32.ofInt z ∧ _
    by_cases y : p = t
    · rw [← y, u1_at, z1]
      refine ⟨z - 10, ?_, by omega⟩
      rw [Int32.ofInt_sub]
      rfl
    · rw [u1_ne _ _ y]
      exact ⟨z, z1, by omega⟩
  · show e.2.2.1 + 10 = _
    rw [b1, Int32.ofInt_add]
    rfl
theorem EB.lay {c : Nat} {e : zPt} (h : EB c e) (k : Nat) : EB (c + 1) (eLay e k) := h.w
theorem EB.win {c : Nat} {e : zPt} (h : EB c e) {p : Nat} (hp4 : p < 4) (t : Nat) (al : Bool) {x : Nat} (hx : x ≤ 12) : EB (c + 1) (eWin e p t al (nI x)) := fun hc => by
  obtain ⟨a, b, b1, b2, b3⟩ := h (by omega)
  refine ⟨fun q hq => ?_, 0, rfl, by decide, by omega⟩
  obtain ⟨z, z1, z2⟩ := a q hq
  obtain ⟨w, w1, w2⟩ := a p hp4
  show ∃ z, (if q = p then e.1 p + 12 * nI x + e.2.2.1 else if al = true then e.1 q - 4 * nI x else if q = t then e.1 q - 12 * nI x else e.1 q) = Int32.ofInt z ∧ _
  rw [nI_int, b1, z1, w1]
  split
  · refine ⟨w + 12 * (x : Int) + b, ?_, by omega⟩
    rw [Int32.ofInt_add, Int32.ofInt_add, Int32.ofInt_mul]
    rfl
  · split
    · refine ⟨z - 4 * (x : Int), ?_, by omega⟩
      rw [Int32.ofInt_sub, Int32.ofInt_mul]
      rfl
    · split
      · refine ⟨z - 12 * (x : Int), ?_, by omega⟩
        rw [Int32.ofInt_sub, Int32.ofInt_mul]
        rfl
      · exact ⟨z, rfl, by omega⟩
theorem KF.mono {α : Type} {Φ Ψ : zM → Prop} {x : Option (α × zM)} (h : KF Φ x) (f : ∀ M, Φ M → Ψ M) : KF Ψ x := fun r e => f _ (h r e)
theorem CE.lo {I I' : Nat → Nat → Int32} {e : zPt} (h : CE I e) (f : ∀ k b, b < 1026 → I' k b = I k b) : CE I' e := ⟨fun p hp => ⟨(f _ _ (by omega)).trans (h.1 p hp).1, (f _ _ (by omega)).trans (h.1 p hp).2⟩, (f _ _ (by omega)).trans h.2.1, (f _ _ (by omega)).trans h.2.2.1, (f _ _ (by omega)).trans h.2.2.2⟩
theorem FTB.rf (M : zM) : FTB M M := fun _ _ _ => rfl
theorem FTB.tr {M0 M1 M2 : zM} (h : FTB M0 M1) (g : FTB M1 M2) : FTB M0 M2 := fun b h1 h2 => (g b h1 h2).trans (h b h1 h2)
theorem TB.ft {M0 M : zM} (h : TB (mA M0)) (g : FTB M0 M) : TB (mA M) := fun f hf => by
  rw [g 1 (by decide) (by decide), g 2 (by decide) (by decide), g 3 (by decide) (by decide)]
  exact h f hf
theorem ft_pJ {M0 M : zM} {c k a : Nat} {v : Int64} (h : FTB M0 M) (M' : zM) (e : pJ c k M a v = some M') : FTB M0 M' := by
  obtain ⟨-, e⟩ := ox e
  cases e
  exact h
theorem ft_pD {M0 M : zM} {c k a : Nat} {v : UInt64} (h : FTB M0 M) (M' : zM) (e : pD c k M a v = some M') : FTB M0 M' := by
  obtain ⟨-, e⟩ := ox e
  cases e
  exact h
theorem ft_pR {M0 M : zM} {c k a : Nat} {v : Nat} (h : FTB M0 M) (M' : zM) (e : pR c k M a v = some M') : FTB M0 M' := by
  obtain ⟨-, e⟩ := ox e
  cases e
  exact h
section JT
variable {n : Nat} {xs : Nat → Int32} {M M' : zM} {G G' Gc Gr : zG} {hp dl hp' dl' : Nat → Nat}
end JT

/-! ===== BOTH: draw, call, win, lay, with code and answer, and all that is carried ===== -/
theorem dl_eq {x : Int32} {D : Nat} (h : x + 1 = nI (D + 1)) : x = nI D := by
  have e := nI_1 D
  rw [← e] at h
  grind
section XCALLN
variable {I : Nat → Nat → Int32} {J : Nat → Nat → Int64} {A : Nat → Nat → Int32} {M : zM} {G : zG} {hp dl : Nat → Nat}
end XCALLN
section JTE
variable {n cc : Nat} {xs : Nat → Int32} {M M' : zM} {G G' Gc Gr : zG} {hp dl hp' dl' : Nat → Nat}
theorem wOk_7 (hx : WX G) {p : Nat} (z : wOk G p = true) : eS G 7 ≠ 0 := by
  refine hx.2.2.2.2.2.2.2.2.2 fun y => ?_
  unfold wOk at z
  rw [if_neg (by omega)] at z
  unfold oByDis at z
  rw [Bool.and_eq_true] at z
  have := of_decide_eq_true z.1
  omega
end JTE

/-! ===== BOTH: many, with code and answer ===== -/
section ASKT
variable {n : Nat} {xs : Nat → Int32} {M M' : zM} {G G' Gc Gr : zG} {hp dl hp' dl' : Nat → Nat}
end ASKT
def lft (G : zG) : Nat := if eS G 7 = 0 then 0 else 60 - eS G 2 - eS G 3
/-- the ten numbers of the table -/
def mny (G : zG) (e : zPt) : Nat → Int32
  | 0 => nI (eS G 4)
  | 1 => if eS G 4 = 3 then -1 else nI (eS G 5)
  | 2 => nI (lft G)
  | 3 => e.2.2.2.1
  | 4 => if eS G 4 = 2 then nI (lst G) else -1
  | 5 => nI (eS G 3)
  | 6 => e.2.2.1
  | 7 => nI (eS G 7)
  | 8 => nI (eS G 6) - 1
  | _ => e.2.2.2.2
theorem dl_m1 {x : Int32} {y : Int32} (h : x + 1 = y) : x = y - 1 := by grind
theorem mb_ne {i : Int32} (y : i < 0 ∨ 10 ≤ i.toNatClampNeg) {j : Nat} (hj : j < 10) : ¬ i = nI j := fun z => by
  subst z
  rcases y with y | y
  · exact nI_nn (by omega) y
  · rw [nI_cl (by omega)] at y
    omega
section XMANY
variable {I : Nat → Nat → Int32} {J : Nat → Nat → Int64} {A : Nat → Nat → Int32} {M : zM} {G : zG} {hp dl : Nat → Nat}
theorem q_many_bad {i : Int32} (y : i < 0 ∨ 10 ≤ i.toNatClampNeg) (M : zM) : f_X3_many 1000 i M = some (.inl "java/lang/IllegalArgumentException", nE M) := by
  unfold f_X3_many f_X3_many_0
  rw [if_neg (show ¬ i = 0 from mb_ne y (j := 0) (by decide)), if_neg (show ¬ i = 1 from mb_ne y (j := 1) (by decide)), if_neg (show ¬ i = 2 from mb_ne y (j := 2) (by decide)), if_neg (show ¬ i = 3 from mb_ne y (j := 3) (by decide)), if_neg (show ¬ i = 4 from mb_ne y (j := 4) (by decide)), if_neg (show ¬ i = 5 from mb_ne y (j := 5) (by decide)), if_neg (show ¬ i = 6 from mb_ne y (j := 6) (by decide)), if_neg (show ¬ i = 7 from mb_ne y (j := 7) (by decide)), if_neg (show ¬ i = 8 from mb_ne y (j := 8) (by decide)), if_neg (show ¬ i = 9 from mb_ne y (j := 9) (by decide))]
theorem x_many (h : CSH M) (hw : WF G) (hL : WL G) (hc : CR I J A G) {e : zPt} (he : CE I e) {j : Nat} (hj : j < 10) : f_X3_many 1000 (nI j) (cs I J A M) = some (.inr (mny G e j), cs I J A M) := by
  have hs := hc.1
  obtain ⟨w0, w1, w2, w3, w4, ht, w6, w7, w8, w9, w10⟩ := hw
  have hse := h.2.2.2.2.2.2.2.1 _ ht
  obtain ⟨c1, c2, c3, c4, c5, c6, c7⟩ := hc.2 _ ht
  have hm := (w10 _ ht).2.2.1
  unfold f_X3_many f_X3_many_0
  rcases (show j = 0 ∨ j = 1 ∨ j = 2 ∨ j = 3 ∨ j = 4 ∨ j = 5 ∨ j = 6 ∨ j = 7 ∨ j = 8 ∨ j = 9 by omega) with rfl | rfl | rfl | rfl | rfl | rfl | rfl | rfl | rfl | rfl
  · rw [if_pos (show nI 0 = 0 from rfl), gI_cs 295 h.1, Option.bind_some, hs.2.2.2.2.1]
    rfl
  · rw [if_neg (show ¬ nI 1 = 0 by decide), if_pos (show nI 1 = 1 from rfl), gI_cs 295 h.1, Option.bind_some, hs.2.2.2.2.1]
    show _ = some (Sum.inr (if eS G 4 = 3 then -1 else nI (eS G 5)), _)
    by_cases y : eS G 4 = 3
    · rw [if_pos (show nI (eS G 4) = 3 by rw [y]; rfl), if_pos y]
    · rw [if_neg (eq_f (y := 3) (eS G 4) 3 y (by omega) (by decide)), if_neg y, gI_cs 296 h.1, Option.bind_some, hs.2.2.2.2.2.1]
  · rw [if_neg (show ¬ nI 2 = 0 by decide), if_neg (show ¬ nI 2 = 1 by decide), if_pos (show nI 2 = 2 from rfl), if_pos (show mK (cs I J A M) 1000 = 9 from h.1), q_tilesLeft h hs.2.2.2.2.2.2.2.1 (by omega) hs.2.2.1 hs.2.2.2.1 w2]
    rfl
  · rw [if_neg (show ¬ nI 3 = 0 by decide), if_neg (show ¬ nI 3 = 1 by decide), if_neg (show ¬ nI 3 = 2 by decide), if_pos (show nI 3 = 3 from rfl), gI_cs 300 h.1, Option.bind_some, he.2.2.1]
    rfl
  · rw [if_neg (show ¬ nI 4 = 0 by decide), if_neg (show ¬ nI 4 = 1 by decide), if_neg (show ¬ nI 4 = 2 by decide), if_neg (show ¬ nI 4 = 3 by decide), if_pos (show nI 4 = 4 from rfl), gI_cs 295 h.1, Option.bind_some, hs.2.2.2.2.1]
    show _ = some (Sum.inr (if eS G 4 = 2 then nI (lst G) else -1), _)
    by_cases y : eS G 4 = 2
    · have hm0 := hL y
      rw [if_pos (show nI (eS G 4) = 2 by rw [y]; rfl), if_pos y, if_pos (show mK (cs I J A M) 1000 = 9 from h.1), q_seatInTurn h ht hs.2.2.2.2.2.1, Option.bind_some, if_pos (show mK (cs I J A M) (1010 + 4 * eS G 5) = 7 from hse.1), q_latest hse c4 (by omega), if_neg (show ¬ eM G (eS G 5) = 0 by omega), c5 _ (by omega)]
      rfl
    · rw [if_neg (eq_f (y := 2) (eS G 4) 2 y (by omega) (by decide)), if_neg y]
  · rw [if_neg (show ¬ nI 5 = 0 by decide), if_neg (show ¬ nI 5 = 1 by decide), if_neg (show ¬ nI 5 = 2 by decide), if_neg (show ¬ nI 5 = 3 by decide), if_neg (show ¬ nI 5 = 4 by decide), if_pos (show nI 5 = 5 from rfl), gI_cs 294 h.1, Option.bind_some, hs.2.2.2.1]
    rfl
  · rw [if_neg (show ¬ nI 6 = 0 by decide), if_neg (show ¬ nI 6 = 1 by decide), if_neg (show ¬ nI 6 = 2 by decide), if_neg (show ¬ nI 6 = 3 by decide), if_neg (show ¬ nI 6 = 4 by decide), if_neg (show ¬ nI 6 = 5 by decide), if_pos (show nI 6 = 6 from rfl), gI_cs 299 h.1, Option.bind_some, he.2.1]
    rfl
  · rw [if_neg (show ¬ nI 7 = 0 by decide), if_neg (show ¬ nI 7 = 1 by decide), if_neg (show ¬ nI 7 = 2 by decide), if_neg (show ¬ nI 7 = 3 by decide), if_neg (show ¬ nI 7 = 4 by decide), if_neg (show ¬ nI 7 = 5 by decide), if_neg (show ¬ nI 7 = 6 by decide), if_pos (show nI 7 = 7 from rfl), gI_cs 298 h.1, Option.bind_some, hs.2.2.2.2.2.2.2.1]
    rfl
  · rw [if_neg (show ¬ nI 8 = 0 by decide), if_neg (show ¬ nI 8 = 1 by decide), if_neg (show ¬ nI 8 = 2 by decide), if_neg (show ¬ nI 8 = 3 by decide), if_neg (show ¬ nI 8 = 4 by decide), if_neg (show ¬ nI 8 = 5 by decide), if_neg (show ¬ nI 8 = 6 by decide), if_neg (show ¬ nI 8 = 7 by decide), if_pos (show nI 8 = 8 from rfl), gI_cs 297 h.1, Option.bind_some, dl_m1 hs.2.2.2.2.2.2.1]
    rfl
  · rw [if_neg (show ¬ nI 9 = 0 by decide), if_neg (show ¬ nI 9 = 1 by decide), if_neg (show ¬ nI 9 = 2 by decide), if_neg (show ¬ nI 9 = 3 by decide), if_neg (show ¬ nI 9 = 4 by decide), if_neg (show ¬ nI 9 = 5 by decide), if_neg (show ¬ nI 9 = 6 by decide), if_neg (show ¬ nI 9 = 7 by decide), if_neg (show ¬ nI 9 = 8 by decide), if_pos (show nI 9 = 9 from rfl), gI_cs 301 h.1, Option.bind_some, he.2.2.2]
    rfl
end XMANY
section XMANYR
variable {M : zM} {G : zG} {hp dl : Nat → Nat}
end XMANYR
section ASKM
variable {n : Nat} {xs : Nat → Int32} {M : zM} {G : zG} {hp dl : Nat → Nat}
end ASKM

/-! ===== BOTH: ofPlayer, with code and answer ===== -/
/-- the most that sets and a pair are worth -/
noncomputable def fvl (n : Nat) (g : Nat → Nat) : Nat := Classical.epsilon fun v => MB n 1 0 25 g v
theorem fvl_eq {n : Nat} {g : Nat → Nat} {v : Nat} (h : MB n 1 0 25 g v) : fvl n g = v := MB.uq (Classical.epsilon_spec (p := fun v => MB n 1 0 25 g v) ⟨v, h⟩) h
/-- how far it is -/
noncomputable def frv (N : Nat) (g : Nat → Nat) : Int32 := 6 - nI (2 * N + fvl (3 - N) g)
/-- the ten numbers of a player -/
noncomputable def opl (G : zG) (e : zPt) (p : Nat) : Nat → Int32
  | 0 => e.1 p
  | 1 => nI (eN G p)
  | 2 => nI (opN G p)
  | 3 => nI (sn (eH G p) 0 25)
  | 4 => nI (eM G p)
  | 5 => b32 (eC G p)
  | 6 => frv (eN G p) (eH G p)
  | 7 => if eS G 7 = 0 then -1 else nI ((p + 4 - (eS G 6 - 1)) % 4)
  | 8 => e.2.1 p
  | _ => b32 (decide (gW G p &&& eD G p ≠ 0))
theorem b32_if (b : Bool) {α : Type} (x : Int32 → α) : (if b32 b = 0 then x 0 else x 1) = x (b32 b) := by
  cases b
  · exact if_pos rfl
  · exact if_neg (by decide)
theorem lg_b (x : Int64) {α : Type} (f : Int32 → α) : (if lg_cmp x 0 = 0 then f 0 else f 1) = f (b32 (decide (x ≠ 0))) := by
  by_cases y : x = 0
  · rw [if_pos ((lg_cmp_0 x 0).mpr y), decide_eq_false (fun z => z y)]
    rfl
  · rw [if_neg (fun z => y ((lg_cmp_0 x 0).mp z)), decide_eq_true y]
    rfl
theorem WD.d {G : zG} (hd : WD G) : (eS G 7 = 0 ∧ eS G 6 = 0) ∨ (eS G 7 ≠ 0 ∧ eS G 6 - 1 < 4 ∧ eS G 6 - 1 + 1 = eS G 6) := by
  rcases hd with z | ⟨z, w⟩
  · exact Or.inl z
  · exact Or.inr ⟨z, by omega, by omega⟩
theorem dl_no {x : Int32} (h : x + 1 = nI 0) : x = -1 := by
  have e : nI 0 = (0 : Int32) := rfl
  rw [e] at h
  grind
section XOFP
variable {I : Nat → Nat → Int32} {J : Nat → Nat → Int64} {A : Nat → Nat → Int32} {M : zM} {G : zG} {hp dl : Nat → Nat}
theorem q_ofPl_bad2 (h : CSH M) {p : Nat} (hp4 : p < 4) {i : Int32} (y : i < 0 ∨ 10 ≤ i.toNatClampNeg) : f_X3_ofPlayer 1000 (nI p) i M = some (.inl "java/lang/IllegalArgumentException", nE M) := by
  have sq : lQ 1 M 1001 (nI p) = some (1010 + 4 * p) := CSH.seat (I := mI M) (J := mJ M) (A := mA M) h hp4
  unfold f_X3_ofPlayer f_X3_ofPlayer_0
  rw [q_pl_ok hp4]
  show (gR 9 0 M 1000).bind _ = _
  rw [e_gR 288 h.1 h.2.1, Option.bind_some, sq, Option.bind_some, if_neg (show ¬ i = 0 from mb_ne y (j := 0) (by decide)), if_neg (show ¬ i = 1 from mb_ne y (j := 1) (by decide)), if_neg (show ¬ i = 2 from mb_ne y (j := 2) (by decide)), if_neg (show ¬ i = 3 from mb_ne y (j := 3) (by decide)), if_neg (show ¬ i = 4 from mb_ne y (j := 4) (by decide)), if_neg (show ¬ i = 5 from mb_ne y (j := 5) (by decide)), if_neg (show ¬ i = 6 from mb_ne y (j := 6) (by decide)), if_neg (show ¬ i = 7 from mb_ne y (j := 7) (by decide)), if_neg (show ¬ i = 8 from mb_ne y (j := 8) (by decide)), if_neg (show ¬ i = 9 from mb_ne y (j := 9) (by decide))]
theorem x_wdC (h : CSH M) (hc : CR I J A G) (hd : WD G) {p : Nat} (hp4 : p < 4) : f_X3_windOf 1000 (nI p) (cs I J A M) = some (if eS G 7 = 0 then -1 else nI ((p + 4 - (eS G 6 - 1)) % 4), cs I J A M) := by
  have s6 := hc.1.2.2.2.2.2.2.1
  rcases hd.d with ⟨z, w⟩ | ⟨z, w, u⟩
  · rw [w] at s6
    unfold f_X3_windOf f_X3_windOf_0
    rw [gI_cs 297 h.1, Option.bind_some, dl_no s6, if_pos rfl, if_pos z]
  · rw [← u] at s6
    rw [if_neg z]
    exact x_windOf h (dl_eq s6) w hp4
theorem x_ofPlayer (hA : AT A M) (hT : TB A) (h : CSH M) (hw : WF G) (hv : WV G) (hd : WD G) (hc : CR I J A G) {e : zPt} (he : CE I e) {p j : Nat} (hp : p < 4) (hj : j < 10) : ∃ A', f_X3_ofPlayer 1000 (nI p) (nI j) (cs I J A M) = some (.inr (opl G e p j), cs I J A' M) ∧ CR I J A' G := by
  unfold f_X3_ofPlayer f_X3_ofPlayer_0
  rw [q_pl_ok hp]
  have hsp := h.2.2.2.2.2.2.2.1 _ hp
  obtain ⟨d1, d2, d3, d4, d5, d6, d7⟩ := hc.2 _ hp
  obtain ⟨v1, v2, v3, v4⟩ := hw.2.2.2.2.2.2.2.2.2.2 _ hp
  show ∃ A', (gR 9 0 (cs I J A M) 1000).bind _ = _ ∧ _
  rw [gR_cs 288 h.1 h.2.1, Option.bind_some, h.seat hp, Option.bind_some]
  rcases (show j = 0 ∨ j = 1 ∨ j = 2 ∨ j = 3 ∨ j = 4 ∨ j = 5 ∨ j = 6 ∨ j = 7 ∨ j = 8 ∨ j = 9 by omega) with rfl | rfl | rfl | rfl | rfl | rfl | rfl | rfl | rfl | rfl
  · rw [if_pos (show nI 0 = 0 from rfl), gI_cs 231 hsp.1, Option.bind_some, (he.1 p hp).1]
    exact ⟨A, rfl, hc⟩
  · rw [if_neg (show ¬ nI 1 = 0 by decide), if_pos (show nI 1 = 1 from rfl), gI_cs 228 hsp.1, Option.bind_some, d2]
    exact ⟨A, rfl, hc⟩
  · rw [if_neg (show ¬ nI 2 = 0 by decide), if_neg (show ¬ nI 2 = 1 by decide), if_pos (show nI 2 = 2 from rfl), if_pos (show mK (cs I J A M) (1010 + 4 * p) = 7 from hsp.1), q_open h hv hw hc hp, Option.bind_some]
    exact ⟨A, rfl, hc⟩
  · rw [if_neg (show ¬ nI 3 = 0 by decide), if_neg (show ¬ nI 3 = 1 by decide), if_neg (show ¬ nI 3 = 2 by decide), if_pos (show nI 3 = 3 from rfl), if_pos (show mK (cs I J A M) (1010 + 4 * p) = 7 from hsp.1), q_inHand hsp, Option.bind_some, sm_nI (A (1011 + 4 * p)) (eH G p) _ _ (fun k _ hk => d1 k (by omega))]
    exact ⟨A, rfl, hc⟩
  · rw [if_neg (show ¬ nI 4 = 0 by decide), if_neg (show ¬ nI 4 = 1 by decide), if_neg (show ¬ nI 4 = 2 by decide), if_neg (show ¬ nI 4 = 3 by decide), if_pos (show nI 4 = 4 from rfl), gI_cs 229 hsp.1, Option.bind_some, d4]
    exact ⟨A, rfl, hc⟩
  · rw [if_neg (show ¬ nI 5 = 0 by decide), if_neg (show ¬ nI 5 = 1 by decide), if_neg (show ¬ nI 5 = 2 by decide), if_neg (show ¬ nI 5 = 3 by decide), if_neg (show ¬ nI 5 = 4 by decide), if_pos (show nI 5 = 5 from rfl), gI_cs 230 hsp.1, Option.bind_some, d7]
    exact ⟨A, b32_if (eC G p) (fun z => some (Sum.inr z, cs I J A M)), hc⟩
  · obtain ⟨v, A2, e2, f2, m2⟩ := x_far (I := I) (J := J) hA h.2.2.2.2.2.1 (t := 1011 + 4 * p) (N := eN G p) hsp.2.2.2.2.1 (by omega) v2 (g := eH G p) (fun k hk => by have := v1 k hk; omega) hT d1
    rw [if_neg (show ¬ nI 6 = 0 by decide), if_neg (show ¬ nI 6 = 1 by decide), if_neg (show ¬ nI 6 = 2 by decide), if_neg (show ¬ nI 6 = 3 by decide), if_neg (show ¬ nI 6 = 4 by decide), if_neg (show ¬ nI 6 = 5 by decide), if_pos (show nI 6 = 6 from rfl), gR_cs 289 h.1 h.2.2.1, Option.bind_some, gR_cs 224 hsp.1 hsp.2.1, Option.bind_some, gI_cs 228 hsp.1, Option.bind_some, if_pos (show mK (cs I J A M) 1002 = 6 from h.2.2.2.2.2.1.1), d2, e2, Option.bind_some]
    refine ⟨A2, ?_, hc.own (own_frm f2)⟩
    show _ = some (Sum.inr (6 - nI (2 * eN G p + fvl (3 - eN G p) (eH G p))), _)
    rw [fvl_eq m2, ← far_eq v2]
  · rw [if_neg (show ¬ nI 7 = 0 by decide), if_neg (show ¬ nI 7 = 1 by decide), if_neg (show ¬ nI 7 = 2 by decide), if_neg (show ¬ nI 7 = 3 by decide), if_neg (show ¬ nI 7 = 4 by decide), if_neg (show ¬ nI 7 = 5 by decide), if_neg (show ¬ nI 7 = 6 by decide), if_pos (show nI 7 = 7 from rfl), if_pos (show mK (cs I J A M) 1000 = 9 from h.1), x_wdC h hc hd hp, Option.bind_some]
    exact ⟨A, rfl, hc⟩
  · rw [if_neg (show ¬ nI 8 = 0 by decide), if_neg (show ¬ nI 8 = 1 by decide), if_neg (show ¬ nI 8 = 2 by decide), if_neg (show ¬ nI 8 = 3 by decide), if_neg (show ¬ nI 8 = 4 by decide), if_neg (show ¬ nI 8 = 5 by decide), if_neg (show ¬ nI 8 = 6 by decide), if_neg (show ¬ nI 8 = 7 by decide), if_pos (show nI 8 = 8 from rfl), gI_cs 232 hsp.1, Option.bind_some, (he.1 p hp).2]
    exact ⟨A, rfl, hc⟩
  · obtain ⟨A1, e1, f1⟩ := q_waitsG h hc hw hp
    rw [if_neg (show ¬ nI 9 = 0 by decide), if_neg (show ¬ nI 9 = 1 by decide), if_neg (show ¬ nI 9 = 2 by decide), if_neg (show ¬ nI 9 = 3 by decide), if_neg (show ¬ nI 9 = 4 by decide), if_neg (show ¬ nI 9 = 5 by decide), if_neg (show ¬ nI 9 = 6 by decide), if_neg (show ¬ nI 9 = 7 by decide), if_neg (show ¬ nI 9 = 8 by decide), if_pos (show nI 9 = 9 from rfl), if_pos (show mK (cs I J A M) 1000 = 9 from h.1), e1, Option.bind_some, gJ_cs 227 hsp.1, Option.bind_some, d6]
    exact ⟨A1, lg_b (gW G p &&& eD G p) (fun z => some (Sum.inr z, cs I J A1 M)), hc.own f1⟩
end XOFP
section XOFPR
variable {M : zM} {G : zG} {hp dl : Nat → Nat}
end XOFPR
section ASKO
variable {n : Nat} {xs : Nat → Int32} {M : zM} {G : zG} {hp dl : Nat → Nat}
end ASKO

/-! ===== BOTH: worth, with code and answer ===== -/
/-- what a tile is worth -/
noncomputable def wth (G : zG) (p k lk : Nat) : Int32 := if btk (gW G p) k = 0 then -1 else nI (VLG false (wH G p k (eH G p k + 1)) p lk (eS G 6 - 1))
theorem wH_H (G : zG) (p k v : Nat) : eH (wH G p k v) p = u1 (eH G p) k v := by
  funext j
  show u2 (eH G) p k v p j = _
  unfold u2 u1
  by_cases z : j = k
  · rw [if_pos ⟨rfl, z⟩, if_pos z]
  · rw [if_neg (fun q => z q.2), if_neg z]
theorem wth_ok {G : zG} (hx : WX G) {p k : Nat} (hp : p < 4) (hk : k < 25) (y : btk (gW G p) k ≠ 0) : eS G 7 ≠ 0 ∧ sn (eH G p) 0 25 + 3 * eN G p = 10 ∧ cmp 25 0 (u1 (eH G p) k (eH G p k + 1)) = true := by
  unfold gW at y
  rw [bt_wts hk] at y
  have c : sn (eH G p) 0 25 + 3 * eN G p = 10 ∧ cmp 25 0 (u1 (eH G p) k (eH G p k + 1)) = true := by
    by_cases z : sn (eH G p) 0 25 + 3 * eN G p = 10 ∧ cmp 25 0 (u1 (eH G p) k (eH G p k + 1)) = true
    · exact z
    · rw [if_neg z] at y
      exact absurd rfl y
  refine ⟨fun z => ?_, c⟩
  have := (hx.2.2.1 p hp).2.2 z
  unfold sz at this
  omega
section XWORTH
variable {I : Nat → Nat → Int32} {J : Nat → Nat → Int64} {A : Nat → Nat → Int32} {M : zM} {G : zG} {hp dl : Nat → Nat}
theorem x_worth (h : CSH M) (hx : WX G) (hw : WF G) (hc : CR I J A G) {e : zPt} (he : CE I e) {p k lk : Nat} (hp : p < 4) (hk : k < 25) (hlk : eS G 7 ≠ 0 → lk < 25 ∧ e.2.2.2.1 = nI lk) : ∃ A', f_X3_worth 1000 (nI p) (nI k) (cs I J A M) = some (.inr (wth G p k lk), cs I J A' M) ∧ CR I J A' G := by
  unfold f_X3_worth f_X3_worth_0
  rw [q_pl_ok hp]
  show ∃ A', xb (f_X3_requireKind (nI k) (cs I J A M)) _ = _ ∧ _
  rw [q_requireKind_ok hk]
  have hsp := h.2.2.2.2.2.2.2.1 _ hp
  have hva : VA M 1008 1009 := h.2.2.2.2.2.2.1
  obtain ⟨A1, e1, f1⟩ := q_waitsG h hc hw hp
  have hc1 := hc.own f1
  obtain ⟨d1, d2, d3, d4, d5, d6, d7⟩ := hc1.2 _ hp
  obtain ⟨v1, v2, v3, v4⟩ := hw.2.2.2.2.2.2.2.2.2.2 _ hp
  show ∃ A', (gR 9 0 (cs I J A M) 1000).bind _ = _ ∧ _
  rw [gR_cs 288 h.1 h.2.1, Option.bind_some, h.seat hp, Option.bind_some, if_pos (show mK (cs I J A M) 1000 = 9 from h.1), e1, Option.bind_some]
  by_cases y : btk (gW G p) k = 0
  · have y' : (gW G p >>> ((nI k).toInt64 &&& 63)) &&& 1 = 0 := y
    rw [if_pos ((lg_cmp_0 _ _).mpr y')]
    refine ⟨A1, ?_, hc1⟩
    unfold wth
    rw [if_pos y]
  · have y' : ¬ (gW G p >>> ((nI k).toInt64 &&& 63)) &&& 1 = 0 := y
    obtain ⟨h7, o1, o2⟩ := wth_ok hx hp hk y
    obtain ⟨lk1, lk2⟩ := hlk h7
    have s6 := hc.1.2.2.2.2.2.2.1
    have hd : eS G 6 - 1 < 4 ∧ eS G 6 - 1 + 1 = eS G 6 := by
      rcases hx.2.2.2.2.2.2.1 with ⟨z, -⟩ | ⟨-, z⟩
      · exact absurd z h7
      · omega
    rw [← hd.2] at s6
    have hD := dl_eq s6
    have hH : ∀ j, j < 25 → u2 A1 (1011 + 4 * p) k (nI (eH G p k + 1)) (1011 + 4 * p) j = nI (u1 (eH G p) k (eH G p k + 1) j) := fun j hj => by
      by_cases z : j = k
      · rw [z, u2_rs, u1_at]
      · rw [u2_ro _ _ z, u1_ne _ _ z, d1 j hj]
    obtain ⟨w', e4⟩ := x_value (J := J) (A := u2 A1 (1011 + 4 * p) k (nI (eH G p k + 1))) hva hsp ⟨by omega, by omega⟩ d2 v2 hH (fun j hj => by
      by_cases z : j = k
      · rw [z, u1_at]; have := v1 k hk; omega
      · rw [u1_ne _ _ z]; have := v1 j hj; omega) (fun j hj => by rw [u2_rw _ _ _ (by omega)]; exact d3 j hj) (fun j hj => hx.v p hp j hj) d7 false lk1 (wd := (p + 4 - (eS G 6 - 1)) % 4) (Nat.mod_lt _ (by decide))
    have e4' : f_X2_value 1008 (1010 + 4 * p) 0 (nI lk) (nI ((p + 4 - (eS G 6 - 1)) % 4)) (cs I J (u2 A1 (1011 + 4 * p) k (nI (eH G p k + 1))) M) = some (nI (VLG false (wH G p k (eH G p k + 1)) p lk (eS G 6 - 1)), cs I J (ur (u2 A1 (1011 + 4 * p) k (nI (eH G p k + 1))) 1009 w') M) := by
      unfold VLG
      rw [wH_H]
      exact e4
    have c1 : A1 (1011 + 4 * p) k + 1 = nI (eH G p k + 1) := by rw [d1 k hk, nI_1]
    rw [if_neg (fun q => y' ((lg_cmp_0 _ _).mp q)), if_pos (show mK (cs I J A1 M) (1010 + 4 * p) = 7 from hsp.1), q_change hsp hk 1, Option.bind_some, c1, gR_cs 290 h.1 h.2.2.2.1, Option.bind_some, gI_cs 300 h.1, Option.bind_some, if_pos (show mK (cs I J _ M) 1000 = 9 from h.1), x_windOf h hD hd.1 hp, Option.bind_some, if_pos (show mK (cs I J _ M) 1008 = 8 from hva.1), he.2.2.1, lk2, e4', Option.bind_some, if_pos (show mK (cs I J _ M) (1010 + 4 * p) = 7 from hsp.1), q_change hsp hk (-1), Option.bind_some]
    have e5 : ur (u2 A1 (1011 + 4 * p) k (nI (eH G p k + 1))) 1009 w' (1011 + 4 * p) k + -1 = A1 (1011 + 4 * p) k := by
      have e6 : ur (u2 A1 (1011 + 4 * p) k (nI (eH G p k + 1))) 1009 w' (1011 + 4 * p) k = nI (eH G p k + 1) := (ur_ne _ k w' (by omega)).trans (if_pos ⟨rfl, rfl⟩)
      rw [e6, ← c1]
      grind
    rw [e5, u2_ur_ne _ k _ w' (by omega), u2_back A1 (1011 + 4 * p) k _ _ rfl]
    refine ⟨_, ?_, hc1.own (own_ur A1 w' (q := 1009) (Or.inr rfl))⟩
    unfold wth
    rw [if_neg y]
end XWORTH
section XWORTHR
variable {M : zM} {G : zG} {hp dl : Nat → Nat}
end XWORTHR
section ASKWO
variable {n : Nat} {xs : Nat → Int32} {M : zM} {G : zG} {hp dl : Nat → Nat}
end ASKWO

