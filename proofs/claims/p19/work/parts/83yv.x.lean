/-! ===== BOTH: outs, with code and answer ===== -/
/-- the tiles that bring one nearer -/
def otf (g s : Nat → Nat) (F : Nat → Int32) (f : Int32) : Nat → Nat → Int32 → Int32
  | 0, _, a => a
  | d + 1, i, a => if 4 - nI (g i) - nI (s i) ≤ 0 ∨ f ≤ F i then otf g s F f d (i + 1) a else otf g s F f d (i + 1) (a + (4 - nI (g i) - nI (s i)))
noncomputable def otv (G : zG) (p : Nat) : Int32 := if sn (eH G p) 0 25 + 3 * eN G p ≤ 10 then otf (eH G p) (fun k => snA G k 4 0) (fun i => frw G p i (eH G p i + 1)) (frv (eN G p) (eH G p)) 25 0 0 else 0
section XOUTS
variable {I : Nat → Nat → Int32} {J : Nat → Nat → Int64} {A : Nat → Nat → Int32} {M : zM} {G : zG} {hp dl : Nat → Nat}
theorem x_outs_44 (hA : ∀ A, AT A M) (h : CSH M) (hw : WF G) (hv : WV G) {p : Nat} (hp : p < 4) (x : Int32) : ∀ (d n i : Nat) (v : Int32) (A : Nat → Nat → Int32), i + d = 25 → d < n → CR I J A G → TB A → ∃ A', f_X3_outs_44 n 1000 (1010 + 4 * p) x v (nI i) (cs I J A M) = some (.inr (otf (eH G p) (fun k => snA G k 4 0) (fun i => frw G p i (eH G p i + 1)) x d i v), cs I J A' M) ∧ CR I J A' G := by
  have hsp := h.2.2.2.2.2.2.2.1 _ hp
  intro d
  induction d with
  | zero =>
    intro n i v A hi hn hc hT
    obtain ⟨n, rfl⟩ : ∃ m, n = m + 1 := ⟨n - 1, by omega⟩
    rw [f_X3_outs_44, if_pos (le_t (x := 25) 25 i (by omega) (by omega))]
    exact ⟨A, rfl, hc⟩
  | succ d ih =>
    intro n i v A hi hn hc hT
    obtain ⟨n, rfl⟩ : ∃ m, n = m + 1 := ⟨n - 1, by omega⟩
    have hk : i < 25 := by omega
    obtain ⟨d1, -⟩ := hc.2 _ hp
    have e2 := q_seen8x (M := cs I J A M) h hw hv hc hk 4 zN 0 0 rfl (by decide)
    rw [Nat.zero_add] at e2
    have e3 : f_X3_seen 1000 (nI i) (cs I J A M) = some (.inr (nI (snA G i 4 0)), cs I J A M) := by
      unfold f_X3_seen f_X3_seen_0
      rw [q_requireKind_ok hk]
      exact e2
    obtain ⟨A1, e1, hc1, hT1⟩ := x_farWithC (hA A) hT h hw hc hp hk (x := 1) (y := eH G p i + 1) (nI_1 _) (Nat.le_refl _)
    rw [f_X3_outs_44, if_neg (le_f (x := 25) 25 i (by omega) (by decide)), if_pos (show mK (cs I J A M) (1010 + 4 * p) = 7 from hsp.1), q_count hsp hk, Option.bind_some, if_pos (show mK (cs I J A M) 1000 = 9 from h.1), e3, nI_1 i, d1 i hk, otf]
    show ∃ A', (if 4 - nI (eH G p i) - nI (snA G i 4 0) ≤ (0 : Int32) then _ else _) = _ ∧ _
    by_cases y : 4 - nI (eH G p i) - nI (snA G i 4 0) ≤ (0 : Int32)
    · rw [if_pos y, if_pos (Or.inl y)]
      exact ih n (i + 1) v A (by omega) (by omega) hc hT
    · rw [if_neg y, if_pos (show mK (cs I J A M) 1000 = 9 from h.1), e1, Option.bind_some]
      dsimp only
      by_cases z : x ≤ frw G p i (eH G p i + 1)
      · rw [if_pos z, if_pos (Or.inr z)]
        exact ih n (i + 1) v A1 (by omega) (by omega) hc1 hT1
      · rw [if_neg z, if_neg (fun q => q.elim y z)]
        exact ih n (i + 1) _ A1 (by omega) (by omega) hc1 hT1
theorem x_outs (hA : ∀ A, AT A M) (hT : TB A) (h : CSH M) (hw : WF G) (hv : WV G) (hz : WZ G) (hc : CR I J A G) {p : Nat} (hp : p < 4) : ∃ A', f_X3_outs 1000 (nI p) (cs I J A M) = some (.inr (otv G p), cs I J A' M) ∧ CR I J A' G := by
  have hsp := h.2.2.2.2.2.2.2.1 _ hp
  obtain ⟨d1, d2, d3, d4, d5, d6, d7⟩ := hc.2 _ hp
  obtain ⟨v1, v2, v3, v4⟩ := hw.2.2.2.2.2.2.2.2.2.2 _ hp
  have hz := hz p hp
  unfold f_X3_outs f_X3_outs_0
  rw [q_pl_ok hp]
  show ∃ A', (gR 9 0 (cs I J A M) 1000).bind _ = _ ∧ _
  rw [gR_cs 288 h.1 h.2.1, Option.bind_some, h.seat hp, Option.bind_some, if_pos (show mK (cs I J A M) (1010 + 4 * p) = 7 from hsp.1), q_sizeN hsp d1 d2, Option.bind_some]
  dsimp only
  unfold otv
  by_cases y : sn (eH G p) 0 25 + 3 * eN G p ≤ 10
  · obtain ⟨v, A2, e2, f2, m2⟩ := x_far (I := I) (J := J) (hA A) h.2.2.2.2.2.1 (t := 1011 + 4 * p) (N := eN G p) hsp.2.2.2.2.1 (by omega) v2 (g := eH G p) (fun k hk => by have := v1 k hk; omega) hT d1
    have ev : nI (2 * (3 - eN G p)) - nI v = frv (eN G p) (eH G p) := by
      unfold frv
      rw [fvl_eq m2, far_eq v2]
    rw [ev] at e2
    rw [if_pos y, if_pos (le_t (y := 10) (sn (eH G p) 0 25 + 3 * eN G p) 10 y (by omega)), gR_cs 289 h.1 h.2.2.1, Option.bind_some, gR_cs 224 hsp.1 hsp.2.1, Option.bind_some, gI_cs 228 hsp.1, Option.bind_some, if_pos (show mK (cs I J A M) 1002 = 6 from h.2.2.2.2.2.1.1), d2, e2, Option.bind_some]
    exact x_outs_44 hA h hw hv hp _ 25 zN 0 0 A2 rfl (by decide) (hc.own (own_frm f2)) (hT.eq fun b hb => f2 b (Or.inl (by omega)))
  · rw [if_neg y, if_neg (le_f (y := 10) (sn (eH G p) 0 25 + 3 * eN G p) 10 (by omega) (by omega))]
    exact ⟨A, rfl, hc⟩
end XOUTS
section XOUTSR
variable {M M0 : zM} {G : zG} {hp dl : Nat → Nat}
theorem x_unseen (h : RS M hp dl) (hn : RN (mI M) (mJ M) (mA M) M G hp dl) (hq : WQ G) {p k : Nat} (hp4 : p < 4) (hk : k < 25) : ∃ M', f_X7_unseen 1026 (nI p) (nI k) M = some (4 - nI (eH G p k) - nI (snA G k 4 0), M') ∧ RB 8 32 M M' G hp dl ∧ mI M' 416 1026 = mI M 416 1026 := by
  have hX := h.2.2.2.2.2.2.2
  obtain ⟨q1, q2⟩ := r_players h hp4
  have hh := h.2.2.1 p hp4
  obtain ⟨M1, e1, k1⟩ := r_seenNow (I := mI M) (J := mJ M) (A := mA M) h hn hq.1 hq.2.1 hk
  have e1' : f_X7_seenNow 1026 (nI k) M = some (nI (snA G k 4 0), M1) := e1
  refine ⟨M1, ?_, RB.km h hn k1, (k1.2 1026 (by show 1026 < mX M; omega)).2.2.1 416⟩
  unfold f_X7_unseen f_X7_unseen_0
  rw [q1, Option.bind_some, q2, Option.bind_some, e_gR 386 (h.2.1 p hp4).1 (h.2.1 p hp4).2.1, Option.bind_some, e_lA hh.1 (by rw [hh.2.1]; exact hk) (by rw [hh.2.1]; decide), Option.bind_some, if_pos h.1.1, e1', Option.bind_some, (hn.2.1 p hp4).1 k hk]
theorem x_outs_41 (hq : WQ G) {p : Nat} (hp4 : p < 4) (f : Int32) : ∀ (d n i : Nat) (a : Int32) (M : zM), i + d = 25 → d < n → RB (16 * i) (64 * i) M0 M G hp dl → mI M 416 1026 = 0 → ∃ M', f_X7_outs_41 n 1026 (nI p) f a (nI i) M = some (otf (eH G p) (fun k => snA G k 4 0) (fun i => frw G p i (eH G p i + 1)) f d i a, M') ∧ RB 400 1600 M0 M' G hp dl ∧ mI M' 416 1026 = 0 := by
  intro d
  induction d with
  | zero =>
    intro n i a M hi hn hb h0
    obtain ⟨n, rfl⟩ : ∃ m, n = m + 1 := ⟨n - 1, by omega⟩
    rw [f_X7_outs_41, if_pos (le_t (x := 25) 25 i (by omega) (by omega))]
    exact ⟨M, rfl, hb.w (by omega) (by omega), h0⟩
  | succ d ih =>
    intro n i a M hi hn hb h0
    obtain ⟨n, rfl⟩ : ∃ m, n = m + 1 := ⟨n - 1, by omega⟩
    have hi25 : i < 25 := by omega
    obtain ⟨M1, e1, b1, c1⟩ := x_unseen hb.1 hb.2.1 hq hp4 hi25
    have b1' := hb.tr b1
    have a0 : a + 0 = a := Int32.add_zero a
    rw [f_X7_outs_41, if_neg (le_f (x := 25) 25 i (by omega) (by decide)), if_pos hb.1.1.1, e1, Option.bind_some, nI_1 i, a0, otf]
    dsimp only
    by_cases y : 4 - nI (eH G p i) - nI (snA G i 4 0) ≤ (0 : Int32)
    · rw [if_pos y, if_pos (Or.inl y)]
      exact ih n (i + 1) _ M1 (by omega) (by omega) (b1'.w (by omega) (by omega)) (c1.trans h0)
    · obtain ⟨q1, q2⟩ := r_players b1.1 hp4
      obtain ⟨A2, e2, b2⟩ := x_farWithR b1.1 b1.2.1 hq hp4 hi25 (x := 1) (y := eH G p i + 1) (nI_1 _) (Nat.le_refl _)
      have c2 : mI (cs (mI M1) (mJ M1) A2 M1) 416 1026 = 0 := c1.trans h0
      generalize cs (mI M1) (mJ M1) A2 M1 = M2 at *
      have b2' := b1'.tr b2
      rw [if_neg y, q1, Option.bind_some, q2, Option.bind_some, if_pos (b1.1.2.1 p hp4).1, e2, Option.bind_some]
      dsimp only
      by_cases z : f ≤ frw G p i (eH G p i + 1)
      · rw [if_pos z, if_pos (Or.inr z)]
        exact ih n (i + 1) _ M2 (by omega) (by omega) (b2'.w (by omega) (by omega)) c2
      · obtain ⟨M3, e3, b3, c3⟩ := x_unseen b2.1 b2.2.1 hq hp4 hi25
        have b3' := b2'.tr b3
        rw [if_neg z, if_pos b2.1.1.1, e3, Option.bind_some, if_neg (fun q => q.elim y z)]
        exact ih n (i + 1) _ M3 (by omega) (by omega) (b3'.w (by omega) (by omega)) (c3.trans c2)
theorem r_outs_bad (h : RS M hp dl) {i1 : Int32} (y : pBad i1) : f_X7_outs 1026 i1 M = some (0, cs (th 1 (mI M)) (mJ M) (mA M) M) := by
  unfold f_X7_outs f_X7_outs_0
  rw [r_noPl_bad y, Option.bind_some]
  dsimp only
  rw [if_pos h.1.1, m11 h, Option.bind_some]
  dsimp only
  rw [if_neg (show ¬ (1 : Int32) = 0 by decide)]
theorem x_outsR (h : RS M hp dl) (hn : RN (mI M) (mJ M) (mA M) M G hp dl) (hq : WQ G) {p : Nat} (hp4 : p < 4) : ∃ M', f_X7_outs 1026 (nI p) M = some (otv G p, M') ∧ RB 400 1600 M M' G hp dl ∧ mI M' 416 1026 = 0 := by
  have hb := RB.th h hn 0
  have hs := h.2.1 p hp4
  have hz := hq.2.2.2.2 p hp4
  unfold f_X7_outs f_X7_outs_0
  rw [r_noPl_ok hp4, Option.bind_some]
  dsimp only
  rw [if_pos h.1.1, m10 h, Option.bind_some]
  dsimp only
  rw [if_pos rfl]
  have h416 : mI (cs (th 0 (mI M)) (mJ M) (mA M) M) 416 1026 = 0 := u2_at (mI M) 416 1026 0
  generalize cs (th 0 (mI M)) (mJ M) (mA M) M = M1 at *
  have hs1 := hb.1.2.1 p hp4
  obtain ⟨q1, q2⟩ := r_players hb.1 hp4
  have hlv := hb.1.lv (I := mI M1) (J := mJ M1) (A := mA M1) hb.2.1 hq.1 hp4
  have kl1 : mK M1 (1030 + 4 * p) = 5 := hs1.2.2.2.2.1
  have z1 : f_Jx4a65c_size_8abf5 (1030 + 4 * p) M1 = some (nI (eN G p), M1) := r_size (I := mI M1) (J := mJ M1) (A := mA M1) kl1 hlv.1.2.2.1
  have et : f_X6_tiles (1028 + 4 * p) M1 = some (nI (sn (eH G p) 0 25), M1) := r_tiles (I := mI M1) (J := mJ M1) (A := mA M1) (hb.1.ps hp4) (hb.2.1.2.1 p hp4).1
  have e3 : (3 : Int32) * nI (eN G p) = nI (3 * eN G p) := pk_mul 3 (eN G p)
  have em : f_X6_hasTooMany (1028 + 4 * p) M1 = some (if sn (eH G p) 0 25 + 3 * eN G p ≤ 10 then 0 else 1, M1) := by
    unfold f_X6_hasTooMany f_X6_hasTooMany_0
    rw [if_pos hs1.1, et, Option.bind_some]
    dsimp only
    rw [e_gR 387 hs1.1 hs1.2.2.1, Option.bind_some, if_pos kl1, z1, Option.bind_some]
    dsimp only
    rw [e3, nI_add]
    by_cases y : sn (eH G p) 0 25 + 3 * eN G p ≤ 10
    · rw [if_pos y, if_pos (le_t (y := 10) (sn (eH G p) 0 25 + 3 * eN G p) 10 y (by omega))]
    · rw [if_neg y, if_neg (le_f (y := 10) (sn (eH G p) 0 25 + 3 * eN G p) 10 (by omega) (by omega))]
  rw [q1, Option.bind_some, q2, Option.bind_some, if_pos hs1.1, em, Option.bind_some]
  dsimp only
  unfold otv
  by_cases y : sn (eH G p) 0 25 + 3 * eN G p ≤ 10
  · obtain ⟨A2, e2, b2⟩ := x_farR hb.1 hb.2.1 hq hp4
    have c2 : mI (cs (mI M1) (mJ M1) A2 M1) 416 1026 = 0 := h416
    generalize cs (mI M1) (mJ M1) A2 M1 = M2 at *
    rw [if_pos y, if_pos y, if_pos rfl, q1, Option.bind_some, q2, Option.bind_some, if_pos hs1.1, e2, Option.bind_some]
    exact x_outs_41 hq hp4 _ 25 zN 0 0 M2 rfl (by decide) (hb.tr b2) c2
  · rw [if_neg y, if_neg y, if_neg (show ¬ (1 : Int32) = 0 by decide)]
    exact ⟨_, rfl, hb.w (by decide) (by decide), h416⟩
end XOUTSR
section ASKOU
variable {n : Nat} {xs : Nat → Int32} {M : zM} {G : zG} {hp dl : Nat → Nat}
theorem tj_outs (h : CK n xs M G G hp dl) (hx : WX G) (h9 : W9 G) {cc : Nat} (ke : EK cc M) (hr : eS G 7 < 2 ^ 20) (i1 : Int32) : SET n xs cc M G (f_L_outs 1000 i1 1045 M) (fun M1 => f_X7_outs 1026 i1 M1) := by
  have hw := hx.f hr
  have kf := kc_X3_outs h.2.2.1.1 own1000 (FC.rf M) (i1 := i1)
  have kn := fun (M1 : zM) (k1 : CK n xs M1 G G hp dl) => kn_X7_outs k1.2.2.1.2.1 k1.fn (i1 := i1) (a0 := 1026)
  have hA : ∀ A, AT A M := fun _ => h.1.1.2.2.2.2.2.2.2.2
  unfold f_L_outs f_L_outs_0
  rw [if_pos h.1.1.1]
  by_cases y1 : pBad i1
  · have e : f_X3_outs 1000 i1 M = some (.inl "java/lang/IndexOutOfBoundsException", nE M) := by
      unfold f_X3_outs f_X3_outs_0
      rw [q_pl_bad y1]
      rfl
    exact SET.bd h hx h9 ke hw kf e h.1.2 (k := 1) (by decide) (fun _ => if_pos rfl) kn (fun M1 k1 => thr_et (k := k1) (r_outs_bad k1.2.1.1 y1))
  · obtain ⟨p, hp4, rfl⟩ := pBad_no y1
    obtain ⟨A', e, hc⟩ := x_outs (I := mI M) (J := mJ M) hA ke.1 h.1.1 hw hx.v hx.z h.1.2 hp4
    refine SET.ask h hx h9 ke hw kf e hc kn (fun M1 => kq_X7_outs (FQ.rf M1)) (fun M1 k1 _ _ => ?_)
    obtain ⟨M2, r1, r2, r3⟩ := x_outsR k1.2.1.1 k1.2.1.2 (hx.q hr) hp4
    exact ⟨M2, r1, r2, r3⟩
end ASKOU
