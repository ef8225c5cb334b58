/-! ===== PURE: points, wins, pot, lucky kind, winner: the reference's lay ===== -/
section XLAYR
variable {I : Nat → Nat → Int32} {J : Nat → Nat → Int64} {A : Nat → Nat → Int32} {M : zM} {G : zG} {hp dl : Nat → Nat}
theorem x_lay_120 : ∀ (d n p : Nat) (I : Nat → Nat → Int32) (J : Nat → Nat → Int64) (A : Nat → Nat → Int32) (M : zM) (G : zG) (hp : Nat → Nat) (e : zPt), RE I e → p + d = 4 → d < n → RS M hp dl → RNQ I J A M G hp dl → (∀ c, c < 4 → eN G c ≤ 3 ∧ eM G c ≤ 60) → (∀ t, t < 100 → A 1044 t = nI (gK G t)) → ∃ I' J' A' M' hp', f_X7_lay_120 n 1026 (nI p) (cs I J A M) = layT (cs I' J' A' M') ∧ RE I' e ∧ RS M' hp' dl ∧ RNQ I' J' A' M' (gAll d p G) hp' dl ∧ (∀ k, I' k 1026 = I k 1026) ∧ (∀ t, A' 1044 t = A 1044 t) ∧ (mX M' ≤ mX M + d ∧ mS M' ≤ mS M + 25 * d) := by
  intro d
  induction d with
  | zero =>
    intro n p I J A M G hp e he hi hn h hq hb hwl
    obtain ⟨n, rfl⟩ : ∃ m, n = m + 1 := ⟨n - 1, by omega⟩
    refine ⟨I, J, A, M, hp, ?_, he, h, hq, fun _ => rfl, fun _ => rfl, by omega, by omega⟩
    rw [f_X7_lay_120, if_pos (le_t (x := 4) 4 p (by omega) (by omega))]
    rfl
  | succ d ih =>
    intro n p I J A M G hp e he hi hn h hq hb hwl
    obtain ⟨n, rfl⟩ : ∃ m, n = m + 1 := ⟨n - 1, by omega⟩
    have hp4 : p < 4 := by omega
    have k := h.1.1
    have hs := h.2.1 p hp4
    obtain ⟨I1, J1, A1, M1, q1, q2, q3, q4, q5, q6, q7⟩ := r_begin h hq hp4 (hb p hp4).1 (hb p hp4).2
    obtain ⟨A2, t1, t2, t3⟩ := r_lay_137 (I := I1) (J := J1) q2 hp4 (f_X7_lay_120 n) 10 zN 0 A1 (gClr G p) rfl (by decide) q3 (fun t ht => by rw [q5, hwl t ht, gClr_gK])
    have hNM := gDeal_NM p 10 0 (gClr G p)
    have he1 := he.fq h.2.2.2.2.2.2.2 (kq_X6_begin (FQ.rf _)) q1
    obtain ⟨I', J', A', M', hp', u1', ue', u2', u3', u4', u5', u6'⟩ := ih n (p + 1) I1 J1 A2 M1 (gDeal p 10 0 (gClr G p)) _ e he1 (by omega) (by omega) q2 t2 (fun c hc => by
      rw [hNM.1, hNM.2]
      show u1 (eN G) p 0 c ≤ 3 ∧ u1 (eM G) p 0 c ≤ 60
      by_cases y : c = p
      · rw [y, u1_at, u1_at]; omega
      · rw [u1_ne _ _ y, u1_ne _ _ y]; exact hb c hc) (fun t ht => by rw [t3, q5, hwl t ht, gDeal_gK, gClr_gK])
    refine ⟨I', J', A', M', hp', ?_, ue', u2', u3', fun k => (u4' k).trans (q4 k), fun t => (u5' t).trans ((t3 t).trans (q5 t)), by omega, by omega⟩
    rw [f_X7_lay_120, if_neg (le_f (x := 4) 4 p (by omega) (by decide)), gR_cs 417 k h.1.2.1, Option.bind_some, h.pl hp4, Option.bind_some, if_pos (show mK (cs I J A M) (1028 + 4 * p) = 12 from hs.1), q1, Option.bind_some]
    exact t1.trans u1'
theorem x_layR (h : RS M hp dl) (hn : RN I J A M G hp dl) (hw : WF G) (hd : WD G) {st sh : Nat} (h0 : st ≠ 0) (hst : st < 100) (h2 : st % 2 ≠ 0) (h5 : st % 5 ≠ 0) (hsh : sh < 100) (y : eS G 4 = 3) {e0 : zPt} (he : RE I e0) : ∃ v M', f_X7_lay 1026 (nI st) (nI sh) (cs I J A M) = some (v, M') ∧ RE (mI M') (eLay e0 (gK (gBeg G st sh) 95)) := by
  have k := h.1.1
  have hw4 : eS G 4 < 4 := hw.2.2.2.2.1
  have hn1 := hn.th 0
  have e := r_start (I := I) (J := J) (A := A) h false 1 (by decide) (by decide)
  have e' : f_X7_start 1026 0 1 (cs I J A M) = some (0, cs (th 0 I) J A M) := e
  have em2 : zmd (nI st) 2 = nI (st % 2) := pk_rem (a := st) (d := 2) (by omega) (by decide) (by decide)
  have em5 : zmd (nI st) 5 = nI (st % 5) := pk_rem (a := st) (d := 5) (by omega) (by decide) (by decide)
  have start : f_X7_lay 1026 (nI st) (nI sh) (cs I J A M) = (if nI (eS G 4) = 3 then f_X7_lay_59 1026 (nI st) (nI sh) 0 1026 (cs (th 0 I) J A M) else f_X7_lay_59 1026 (nI st) (nI sh) 1 1026 (cs (th 0 I) J A M)) := by
    unfold f_X7_lay f_X7_lay_0
    rw [r_isIn, if_neg (lt_f (y := 1) st 1 (by omega) (by omega)), if_neg (lt_f (x := 99) 99 st (by omega) (by decide)), Option.bind_some]
    dsimp only
    rw [if_neg (show ¬ (1 : Int32) = 0 by decide), em2, if_neg (eq_f (y := 0) (st % 2) 0 h2 (by omega) (by decide)), em5, if_neg (eq_f (y := 0) (st % 5) 0 h5 (by omega) (by decide)), r_isIn, if_neg (nI_nn (by omega)), if_neg (lt_f (x := 99) 99 sh (by omega) (by decide)), Option.bind_some]
    dsimp only
    rw [if_neg (show ¬ (1 : Int32) = 0 by decide)]
    unfold f_X7_lay_38
    rw [if_pos (show mK (cs I J A M) 1026 = 13 from k), e', Option.bind_some]
    dsimp only
    rw [if_pos rfl, gI_cs 422 k, Option.bind_some, hn1.1.1]
  rw [start]
  have er := r_refuse (I := I) (J := J) (A := A) h false 2 (by decide) (by decide)
  have er' : f_X7_refuse 1026 0 2 (cs (th 0 I) J A M) = some (0, cs (th 0 I) J A M) := er
  rw [if_pos (show nI (eS G 4) = 3 by rw [y]; rfl)]
  unfold f_X7_lay_59
  rw [if_pos (show mK (cs (th 0 I) J A M) 1026 = 13 from k), er', Option.bind_some]
  dsimp only
  rw [if_pos rfl]
  obtain ⟨w, q1, q2⟩ := r_lay_70 (I := th 0 I) (J := J) (A := A) h hst hsh 100 zN 0 (A 1044) rfl (by decide) (fun t ht => absurd ht (Nat.not_lt_zero _))
  rw [ur_self] at q1
  have q1' : f_X7_lay_70 zN 1026 (nI st) (nI sh) 0 (cs (th 0 I) J A M) = f_X7_lay_70 1 1026 (nI st) (nI sh) (nI 100) (cs (th 0 I) J (ur A 1044 w) M) := q1
  rw [q1', f_X7_lay_70, if_pos (le_t (x := 100) 100 100 (by omega) (by omega)), gI_cs 425 k, Option.bind_some, hn1.1.2.2.2.1]
  have w7 := hw.2.2.2.2.2.2.2.1
  have w6 := hw.2.2.2.2.2.2.1
  have ed : zmd (nI (eS G 7)) 4 = nI (eS G 6 % 4) := (pk_rem (a := eS G 7) (d := 4) (by omega) (by decide) (by decide)).trans (congrArg nI (by
    rcases hd with ⟨d1, d2⟩ | ⟨d1, d2⟩
    · rw [d1, d2]
    · rw [d2]; omega))
  rw [ed, pI_cs 424 k, Option.bind_some, gI_cs 425 k, Option.bind_some, show u2 (th 0 I) 424 1026 (nI (eS G 6 % 4)) 425 1026 = nI (eS G 7) from hn1.1.2.2.2.1, nI_1, pI_cs 425 k, Option.bind_some]
  have hQ0 : RNQ (u2 (u2 (th 0 I) 424 1026 (nI (eS G 6 % 4))) 425 1026 (nI (eS G 7 + 1))) J (ur A 1044 w) M (gBeg G st sh) hp dl := by
    obtain ⟨q, v⟩ := hn1.2
    refine ⟨fun c hc => ?_, v⟩
    obtain ⟨a, b⟩ := q c hc
    exact ⟨fun j hj => (ur_ne _ _ _ (h.2.2.1 c hc).2.2.2.1).trans (a j hj), b⟩
  have he1 : RE (u2 (u2 (th 0 I) 424 1026 (nI (eS G 6 % 4))) 425 1026 (nI (eS G 7 + 1))) e0 := ((he.th 0).ot _ rfl).ot _ rfl
  obtain ⟨I', J', A', M', hp', t1, ue, t2, t3, t4, t5, t6⟩ := x_lay_120 (dl := dl) 4 zN 0 _ J (ur A 1044 w) M (gBeg G st sh) hp e0 he1 rfl (by decide) h hQ0 (fun c hc => by
    obtain ⟨-, a, b, -⟩ := hw.2.2.2.2.2.2.2.2.2.2 c hc
    exact ⟨a, b⟩) (fun t ht => (ur_at _ _ _ _).trans (q2 t ht))
  have t1' : f_X7_lay_120 zN 1026 0 (cs (u2 (u2 (th 0 I) 424 1026 (nI (eS G 6 % 4))) 425 1026 (nI (eS G 7 + 1))) J (ur A 1044 w) M) = layT (cs I' J' A' M') := t1
  have k2 := t2.1.1
  have hwl : ∀ t, t < 100 → A' 1044 t = nI (gK (gBeg G st sh) t) := fun t ht => (t5 t).trans ((ur_at _ _ _ _).trans (q2 t ht))
  have e95 : lA 0 (cs (u2 (u2 I' 419 1026 40) 420 1026 99) J' A' M') 1044 95 = some (nI (gK (gBeg G st sh) 95)) := by
    have := lA_cs (I := u2 (u2 I' 419 1026 40) 420 1026 99) (J := J') (A := A') (i := 95) t2.1.2.2.2.2.2.2.1 (by rw [t2.1.2.2.2.2.2.2.2]; decide) (by rw [t2.1.2.2.2.2.2.2.2]; decide)
    rw [hwl 95 (by decide)] at this
    exact this
  have hkl := gK_lt (gBeg G st sh) 95
  have i424 : I' 424 1026 = nI (eS G 6 % 4) := t4 424
  rw [t1']
  unfold layT
  rw [pI_cs 419 k2, Option.bind_some, pI_cs 420 k2, Option.bind_some, gR_cs 418 k2 t2.1.2.2.1, Option.bind_some, e95, Option.bind_some, r_lucky hkl, Option.bind_some]
  dsimp only
  rw [pI_cs 421 k2, Option.bind_some, pI_cs 426 k2, Option.bind_some, pI_cs 422 k2, Option.bind_some, gI_cs 424 k2, Option.bind_some, show u2 (u2 (u2 (u2 (u2 I' 419 1026 40) 420 1026 99) 421 1026 (nI (lkN (gK (gBeg G st sh) 95)))) 426 1026 0) 422 1026 0 424 1026 = nI (eS G 6 % 4) from i424, pI_cs 423 k2, Option.bind_some, gI_cs 424 k2, Option.bind_some, show u2 (u2 (u2 (u2 (u2 (u2 I' 419 1026 40) 420 1026 99) 421 1026 (nI (lkN (gK (gBeg G st sh) 95)))) 426 1026 0) 422 1026 0) 423 1026 (nI (eS G 6 % 4)) 424 1026 = nI (eS G 6 % 4) from i424]
  have fin : RE (u2 (u2 (u2 (u2 (u2 (u2 I' 419 1026 40) 420 1026 99) 421 1026 (nI (lkN (gK (gBeg G st sh) 95)))) 426 1026 0) 422 1026 0) 423 1026 (nI (eS G 6 % 4))) (eLay e0 (gK (gBeg G st sh) 95)) := by
    have el : lkN (gK (gBeg G st sh) 95) = flw (gK (gBeg G st sh) 95) := by
      unfold lkN flw
      repeat' split
      all_goals omega
    rw [el]
    exact (((((ue.ot 40 rfl).ot 99 rfl).eta.lkU _).ot 0 rfl).ot 0 rfl).ot _ rfl
  exact ⟨_, _, rfl, fin⟩
end XLAYR
